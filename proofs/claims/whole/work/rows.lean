section
-- ===== PART A: goes FIRST, ahead of the names: the tables' words, and 'selects' of the private methods out of them =====
/-- a private method of a class that the tables say can be made, by its rows of tables_1 -/
def lw_okq (q : MethodName × Nat) : Prop := (q.1.cls ≠ "java/lang/invoke/MethodHandle" ∧ q.1.cls ≠ "java/lang/invoke/VarHandle") ∧ Cond.instantiable q.1.cls q.2 ∈ tables_1 ∧ Cond.privateMethod q.1 ∈ tables_1 ∧ Cond.instanceMethod q.1 ∈ tables_1
theorem lw_p0 : lw_okq (⟨"LazyNames$Names", "settleFrom", "(I)V"⟩, 8) := ⟨⟨by decide +kernel, by decide +kernel⟩, List.mem_of_getElem? (i := 55) (by decide +kernel), List.mem_of_getElem? (i := 154) (by decide +kernel), List.mem_of_getElem? (i := 155) (by decide +kernel)⟩
theorem lw_p1 : lw_okq (⟨"LazyNames$Names", "settleFolded", "(I)V"⟩, 8) := ⟨⟨by decide +kernel, by decide +kernel⟩, List.mem_of_getElem? (i := 55) (by decide +kernel), List.mem_of_getElem? (i := 174) (by decide +kernel), List.mem_of_getElem? (i := 175) (by decide +kernel)⟩
theorem lw_p2 : lw_okq (⟨"LazyNames$Names", "greatestHeightIn", "(I)I"⟩, 8) := ⟨⟨by decide +kernel, by decide +kernel⟩, List.mem_of_getElem? (i := 55) (by decide +kernel), List.mem_of_getElem? (i := 178) (by decide +kernel), List.mem_of_getElem? (i := 179) (by decide +kernel)⟩
theorem lw_p3 : lw_okq (⟨"LazyNames$Names", "countInWhole", "(III)J"⟩, 8) := ⟨⟨by decide +kernel, by decide +kernel⟩, List.mem_of_getElem? (i := 55) (by decide +kernel), List.mem_of_getElem? (i := 209) (by decide +kernel), List.mem_of_getElem? (i := 210) (by decide +kernel)⟩
theorem lw_p4 : lw_okq (⟨"LazyNames$Names", "settlePlain", "(I)V"⟩, 8) := ⟨⟨by decide +kernel, by decide +kernel⟩, List.mem_of_getElem? (i := 55) (by decide +kernel), List.mem_of_getElem? (i := 223) (by decide +kernel), List.mem_of_getElem? (i := 224) (by decide +kernel)⟩
theorem lw_p5 : lw_okq (⟨"LazyNames$Terms", "find", "(III)I"⟩, 10) := ⟨⟨by decide +kernel, by decide +kernel⟩, List.mem_of_getElem? (i := 17) (by decide +kernel), List.mem_of_getElem? (i := 235) (by decide +kernel), List.mem_of_getElem? (i := 236) (by decide +kernel)⟩
theorem lw_p6 : lw_okq (⟨"LazyNames$Terms", "hold", "(III)I"⟩, 10) := ⟨⟨by decide +kernel, by decide +kernel⟩, List.mem_of_getElem? (i := 17) (by decide +kernel), List.mem_of_getElem? (i := 239) (by decide +kernel), List.mem_of_getElem? (i := 240) (by decide +kernel)⟩
theorem lw_p7 : lw_okq (⟨"LazyNames$Terms", "measure", "(I)V"⟩, 10) := ⟨⟨by decide +kernel, by decide +kernel⟩, List.mem_of_getElem? (i := 17) (by decide +kernel), List.mem_of_getElem? (i := 243) (by decide +kernel), List.mem_of_getElem? (i := 244) (by decide +kernel)⟩
theorem lw_p8 : lw_okq (⟨"LazyNames$Checker", "start", "()V"⟩, 13) := ⟨⟨by decide +kernel, by decide +kernel⟩, List.mem_of_getElem? (i := 90) (by decide +kernel), List.mem_of_getElem? (i := 351) (by decide +kernel), List.mem_of_getElem? (i := 352) (by decide +kernel)⟩
theorem lw_p9 : lw_okq (⟨"LazyNames$Checker", "meet", "(II)I"⟩, 13) := ⟨⟨by decide +kernel, by decide +kernel⟩, List.mem_of_getElem? (i := 90) (by decide +kernel), List.mem_of_getElem? (i := 362) (by decide +kernel), List.mem_of_getElem? (i := 363) (by decide +kernel)⟩
theorem lw_p10 : lw_okq (⟨"LazyNames$Checker", "judgment", "(II)I"⟩, 13) := ⟨⟨by decide +kernel, by decide +kernel⟩, List.mem_of_getElem? (i := 90) (by decide +kernel), List.mem_of_getElem? (i := 367) (by decide +kernel), List.mem_of_getElem? (i := 368) (by decide +kernel)⟩
theorem lw_p11 : lw_okq (⟨"LazyNames$Checker", "begin", "()I"⟩, 13) := ⟨⟨by decide +kernel, by decide +kernel⟩, List.mem_of_getElem? (i := 90) (by decide +kernel), List.mem_of_getElem? (i := 378) (by decide +kernel), List.mem_of_getElem? (i := 379) (by decide +kernel)⟩
theorem lw_p12 : lw_okq (⟨"LazyNames$Checker", "lastX", "()I"⟩, 13) := ⟨⟨by decide +kernel, by decide +kernel⟩, List.mem_of_getElem? (i := 90) (by decide +kernel), List.mem_of_getElem? (i := 382) (by decide +kernel), List.mem_of_getElem? (i := 383) (by decide +kernel)⟩
theorem lw_p13 : lw_okq (⟨"LazyNames$Checker", "hasLast", "()Z"⟩, 13) := ⟨⟨by decide +kernel, by decide +kernel⟩, List.mem_of_getElem? (i := 90) (by decide +kernel), List.mem_of_getElem? (i := 386) (by decide +kernel), List.mem_of_getElem? (i := 387) (by decide +kernel)⟩
theorem lw_p14 : lw_okq (⟨"LazyNames$Checker", "lastY", "()I"⟩, 13) := ⟨⟨by decide +kernel, by decide +kernel⟩, List.mem_of_getElem? (i := 90) (by decide +kernel), List.mem_of_getElem? (i := 391) (by decide +kernel), List.mem_of_getElem? (i := 392) (by decide +kernel)⟩
theorem lw_p15 : lw_okq (⟨"LazyNames$Checker", "meetParts", "(I)I"⟩, 13) := ⟨⟨by decide +kernel, by decide +kernel⟩, List.mem_of_getElem? (i := 90) (by decide +kernel), List.mem_of_getElem? (i := 395) (by decide +kernel), List.mem_of_getElem? (i := 396) (by decide +kernel)⟩
def lw_privs_1 : List (MethodName × Nat) := [(⟨"LazyNames$Names", "settleFrom", "(I)V"⟩, 8), (⟨"LazyNames$Names", "settleFolded", "(I)V"⟩, 8), (⟨"LazyNames$Names", "greatestHeightIn", "(I)I"⟩, 8), (⟨"LazyNames$Names", "countInWhole", "(III)J"⟩, 8), (⟨"LazyNames$Names", "settlePlain", "(I)V"⟩, 8), (⟨"LazyNames$Terms", "find", "(III)I"⟩, 10), (⟨"LazyNames$Terms", "hold", "(III)I"⟩, 10), (⟨"LazyNames$Terms", "measure", "(I)V"⟩, 10), (⟨"LazyNames$Checker", "start", "()V"⟩, 13), (⟨"LazyNames$Checker", "meet", "(II)I"⟩, 13), (⟨"LazyNames$Checker", "judgment", "(II)I"⟩, 13), (⟨"LazyNames$Checker", "begin", "()I"⟩, 13), (⟨"LazyNames$Checker", "lastX", "()I"⟩, 13), (⟨"LazyNames$Checker", "hasLast", "()Z"⟩, 13), (⟨"LazyNames$Checker", "lastY", "()I"⟩, 13), (⟨"LazyNames$Checker", "meetParts", "(I)I"⟩, 13)]
theorem lw_r1 : ∀ q ∈ lw_privs_1, lw_okq q := List.forall_mem_cons.mpr ⟨lw_p0, List.forall_mem_cons.mpr ⟨lw_p1, List.forall_mem_cons.mpr ⟨lw_p2, List.forall_mem_cons.mpr ⟨lw_p3, List.forall_mem_cons.mpr ⟨lw_p4, List.forall_mem_cons.mpr ⟨lw_p5, List.forall_mem_cons.mpr ⟨lw_p6, List.forall_mem_cons.mpr ⟨lw_p7, List.forall_mem_cons.mpr ⟨lw_p8, List.forall_mem_cons.mpr ⟨lw_p9, List.forall_mem_cons.mpr ⟨lw_p10, List.forall_mem_cons.mpr ⟨lw_p11, List.forall_mem_cons.mpr ⟨lw_p12, List.forall_mem_cons.mpr ⟨lw_p13, List.forall_mem_cons.mpr ⟨lw_p14, List.forall_mem_cons.mpr ⟨lw_p15, fun _ h => absurd h List.not_mem_nil⟩⟩⟩⟩⟩⟩⟩⟩⟩⟩⟩⟩⟩⟩⟩⟩
theorem lw_p16 : lw_okq (⟨"LazyNames$Checker", "setLastWaitsFor", "(I)V"⟩, 13) := ⟨⟨by decide +kernel, by decide +kernel⟩, List.mem_of_getElem? (i := 90) (by decide +kernel), List.mem_of_getElem? (i := 399) (by decide +kernel), List.mem_of_getElem? (i := 400) (by decide +kernel)⟩
theorem lw_p17 : lw_okq (⟨"LazyNames$Checker", "unfold", "(ZZ)I"⟩, 13) := ⟨⟨by decide +kernel, by decide +kernel⟩, List.mem_of_getElem? (i := 90) (by decide +kernel), List.mem_of_getElem? (i := 405) (by decide +kernel), List.mem_of_getElem? (i := 406) (by decide +kernel)⟩
theorem lw_p18 : lw_okq (⟨"LazyNames$Checker", "unfolded", "(I)I"⟩, 13) := ⟨⟨by decide +kernel, by decide +kernel⟩, List.mem_of_getElem? (i := 90) (by decide +kernel), List.mem_of_getElem? (i := 409) (by decide +kernel), List.mem_of_getElem? (i := 410) (by decide +kernel)⟩
theorem lw_p19 : lw_okq (⟨"LazyNames$Terms", "filled", "(IIII)I"⟩, 10) := ⟨⟨by decide +kernel, by decide +kernel⟩, List.mem_of_getElem? (i := 17) (by decide +kernel), List.mem_of_getElem? (i := 418) (by decide +kernel), List.mem_of_getElem? (i := 419) (by decide +kernel)⟩
theorem lw_p20 : lw_okq (⟨"LazyNames$Checker", "close", "(I)I"⟩, 13) := ⟨⟨by decide +kernel, by decide +kernel⟩, List.mem_of_getElem? (i := 90) (by decide +kernel), List.mem_of_getElem? (i := 422) (by decide +kernel), List.mem_of_getElem? (i := 423) (by decide +kernel)⟩
theorem lw_p21 : lw_okq (⟨"LazyNames$Checker", "judge", "(III)V"⟩, 13) := ⟨⟨by decide +kernel, by decide +kernel⟩, List.mem_of_getElem? (i := 90) (by decide +kernel), List.mem_of_getElem? (i := 426) (by decide +kernel), List.mem_of_getElem? (i := 427) (by decide +kernel)⟩
theorem lw_p22 : lw_okq (⟨"LazyNames$Checker", "goOn", "(I)I"⟩, 13) := ⟨⟨by decide +kernel, by decide +kernel⟩, List.mem_of_getElem? (i := 90) (by decide +kernel), List.mem_of_getElem? (i := 431) (by decide +kernel), List.mem_of_getElem? (i := 432) (by decide +kernel)⟩
theorem lw_p23 : lw_okq (⟨"LazyNames$Checker", "lastWaitsFor", "()I"⟩, 13) := ⟨⟨by decide +kernel, by decide +kernel⟩, List.mem_of_getElem? (i := 90) (by decide +kernel), List.mem_of_getElem? (i := 435) (by decide +kernel), List.mem_of_getElem? (i := 436) (by decide +kernel)⟩
theorem lw_p24 : lw_okq (⟨"LazyNames$Checker", "keep", "(I)V"⟩, 13) := ⟨⟨by decide +kernel, by decide +kernel⟩, List.mem_of_getElem? (i := 90) (by decide +kernel), List.mem_of_getElem? (i := 441) (by decide +kernel), List.mem_of_getElem? (i := 442) (by decide +kernel)⟩
theorem lw_p25 : lw_okq (⟨"LazyNamesModel", "makes", "(III)I"⟩, 34) := ⟨⟨by decide +kernel, by decide +kernel⟩, List.mem_of_getElem? (i := 478) (by decide +kernel), List.mem_of_getElem? (i := 599) (by decide +kernel), List.mem_of_getElem? (i := 600) (by decide +kernel)⟩
theorem lw_p26 : lw_okq (⟨"LazyNamesModel", "find", "(III)I"⟩, 34) := ⟨⟨by decide +kernel, by decide +kernel⟩, List.mem_of_getElem? (i := 478) (by decide +kernel), List.mem_of_getElem? (i := 603) (by decide +kernel), List.mem_of_getElem? (i := 604) (by decide +kernel)⟩
theorem lw_p27 : lw_okq (⟨"LazyNamesModel", "part", "(II)I"⟩, 34) := ⟨⟨by decide +kernel, by decide +kernel⟩, List.mem_of_getElem? (i := 478) (by decide +kernel), List.mem_of_getElem? (i := 607) (by decide +kernel), List.mem_of_getElem? (i := 608) (by decide +kernel)⟩
theorem lw_p28 : lw_okq (⟨"LazyNamesModel", "comes", "(III)I"⟩, 34) := ⟨⟨by decide +kernel, by decide +kernel⟩, List.mem_of_getElem? (i := 478) (by decide +kernel), List.mem_of_getElem? (i := 611) (by decide +kernel), List.mem_of_getElem? (i := 612) (by decide +kernel)⟩
theorem lw_p29 : lw_okq (⟨"LazyNamesModel", "depthBy", "(II)I"⟩, 34) := ⟨⟨by decide +kernel, by decide +kernel⟩, List.mem_of_getElem? (i := 478) (by decide +kernel), List.mem_of_getElem? (i := 615) (by decide +kernel), List.mem_of_getElem? (i := 616) (by decide +kernel)⟩
theorem lw_p30 : lw_okq (⟨"LazyNamesModel", "isName", "(I)Z"⟩, 34) := ⟨⟨by decide +kernel, by decide +kernel⟩, List.mem_of_getElem? (i := 478) (by decide +kernel), List.mem_of_getElem? (i := 623) (by decide +kernel), List.mem_of_getElem? (i := 624) (by decide +kernel)⟩
theorem lw_p31 : lw_okq (⟨"LazyNamesModel", "isTerm", "(I)Z"⟩, 34) := ⟨⟨by decide +kernel, by decide +kernel⟩, List.mem_of_getElem? (i := 478) (by decide +kernel), List.mem_of_getElem? (i := 627) (by decide +kernel), List.mem_of_getElem? (i := 628) (by decide +kernel)⟩
def lw_privs_2 : List (MethodName × Nat) := [(⟨"LazyNames$Checker", "setLastWaitsFor", "(I)V"⟩, 13), (⟨"LazyNames$Checker", "unfold", "(ZZ)I"⟩, 13), (⟨"LazyNames$Checker", "unfolded", "(I)I"⟩, 13), (⟨"LazyNames$Terms", "filled", "(IIII)I"⟩, 10), (⟨"LazyNames$Checker", "close", "(I)I"⟩, 13), (⟨"LazyNames$Checker", "judge", "(III)V"⟩, 13), (⟨"LazyNames$Checker", "goOn", "(I)I"⟩, 13), (⟨"LazyNames$Checker", "lastWaitsFor", "()I"⟩, 13), (⟨"LazyNames$Checker", "keep", "(I)V"⟩, 13), (⟨"LazyNamesModel", "makes", "(III)I"⟩, 34), (⟨"LazyNamesModel", "find", "(III)I"⟩, 34), (⟨"LazyNamesModel", "part", "(II)I"⟩, 34), (⟨"LazyNamesModel", "comes", "(III)I"⟩, 34), (⟨"LazyNamesModel", "depthBy", "(II)I"⟩, 34), (⟨"LazyNamesModel", "isName", "(I)Z"⟩, 34), (⟨"LazyNamesModel", "isTerm", "(I)Z"⟩, 34)]
theorem lw_r2 : ∀ q ∈ lw_privs_2, lw_okq q := List.forall_mem_cons.mpr ⟨lw_p16, List.forall_mem_cons.mpr ⟨lw_p17, List.forall_mem_cons.mpr ⟨lw_p18, List.forall_mem_cons.mpr ⟨lw_p19, List.forall_mem_cons.mpr ⟨lw_p20, List.forall_mem_cons.mpr ⟨lw_p21, List.forall_mem_cons.mpr ⟨lw_p22, List.forall_mem_cons.mpr ⟨lw_p23, List.forall_mem_cons.mpr ⟨lw_p24, List.forall_mem_cons.mpr ⟨lw_p25, List.forall_mem_cons.mpr ⟨lw_p26, List.forall_mem_cons.mpr ⟨lw_p27, List.forall_mem_cons.mpr ⟨lw_p28, List.forall_mem_cons.mpr ⟨lw_p29, List.forall_mem_cons.mpr ⟨lw_p30, List.forall_mem_cons.mpr ⟨lw_p31, fun _ h => absurd h List.not_mem_nil⟩⟩⟩⟩⟩⟩⟩⟩⟩⟩⟩⟩⟩⟩⟩⟩
theorem lw_p32 : lw_okq (⟨"LazyNamesModel", "mayDefine", "(II)Z"⟩, 34) := ⟨⟨by decide +kernel, by decide +kernel⟩, List.mem_of_getElem? (i := 478) (by decide +kernel), List.mem_of_getElem? (i := 635) (by decide +kernel), List.mem_of_getElem? (i := 636) (by decide +kernel)⟩
theorem lw_p33 : lw_okq (⟨"LazyNamesModel", "goesThrough", "(I)V"⟩, 34) := ⟨⟨by decide +kernel, by decide +kernel⟩, List.mem_of_getElem? (i := 478) (by decide +kernel), List.mem_of_getElem? (i := 639) (by decide +kernel), List.mem_of_getElem? (i := 640) (by decide +kernel)⟩
theorem lw_p34 : lw_okq (⟨"LazyNamesModel", "partsOf", "(I)I"⟩, 34) := ⟨⟨by decide +kernel, by decide +kernel⟩, List.mem_of_getElem? (i := 478) (by decide +kernel), List.mem_of_getElem? (i := 643) (by decide +kernel), List.mem_of_getElem? (i := 644) (by decide +kernel)⟩
theorem lw_p35 : lw_okq (⟨"LazyNamesModel", "findNames", "()V"⟩, 34) := ⟨⟨by decide +kernel, by decide +kernel⟩, List.mem_of_getElem? (i := 478) (by decide +kernel), List.mem_of_getElem? (i := 655) (by decide +kernel), List.mem_of_getElem? (i := 656) (by decide +kernel)⟩
theorem lw_p36 : lw_okq (⟨"LazyNamesModel", "findName", "(I)V"⟩, 34) := ⟨⟨by decide +kernel, by decide +kernel⟩, List.mem_of_getElem? (i := 478) (by decide +kernel), List.mem_of_getElem? (i := 659) (by decide +kernel), List.mem_of_getElem? (i := 660) (by decide +kernel)⟩
theorem lw_p37 : lw_okq (⟨"LazyNamesModel", "isFolded", "(I)Z"⟩, 34) := ⟨⟨by decide +kernel, by decide +kernel⟩, List.mem_of_getElem? (i := 478) (by decide +kernel), List.mem_of_getElem? (i := 663) (by decide +kernel), List.mem_of_getElem? (i := 664) (by decide +kernel)⟩
theorem lw_p38 : lw_okq (⟨"LazyNamesModel", "weighs", "(I)V"⟩, 34) := ⟨⟨by decide +kernel, by decide +kernel⟩, List.mem_of_getElem? (i := 478) (by decide +kernel), List.mem_of_getElem? (i := 667) (by decide +kernel), List.mem_of_getElem? (i := 668) (by decide +kernel)⟩
theorem lw_p39 : lw_okq (⟨"LazyNamesModel", "headNow", "(I)I"⟩, 34) := ⟨⟨by decide +kernel, by decide +kernel⟩, List.mem_of_getElem? (i := 478) (by decide +kernel), List.mem_of_getElem? (i := 678) (by decide +kernel), List.mem_of_getElem? (i := 679) (by decide +kernel)⟩
theorem lw_p40 : lw_okq (⟨"LazyNamesModel", "isClosed", "(I)Z"⟩, 34) := ⟨⟨by decide +kernel, by decide +kernel⟩, List.mem_of_getElem? (i := 478) (by decide +kernel), List.mem_of_getElem? (i := 686) (by decide +kernel), List.mem_of_getElem? (i := 687) (by decide +kernel)⟩
theorem lw_p41 : lw_okq (⟨"LazyNamesModel", "plainSize", "(I)I"⟩, 34) := ⟨⟨by decide +kernel, by decide +kernel⟩, List.mem_of_getElem? (i := 478) (by decide +kernel), List.mem_of_getElem? (i := 695) (by decide +kernel), List.mem_of_getElem? (i := 696) (by decide +kernel)⟩
theorem lw_p42 : lw_okq (⟨"LazyNamesModel", "unfoldedSize", "(I)J"⟩, 34) := ⟨⟨by decide +kernel, by decide +kernel⟩, List.mem_of_getElem? (i := 478) (by decide +kernel), List.mem_of_getElem? (i := 699) (by decide +kernel), List.mem_of_getElem? (i := 700) (by decide +kernel)⟩
theorem lw_p43 : lw_okq (⟨"LazyNamesModel", "weighsAll", "(I)V"⟩, 34) := ⟨⟨by decide +kernel, by decide +kernel⟩, List.mem_of_getElem? (i := 478) (by decide +kernel), List.mem_of_getElem? (i := 703) (by decide +kernel), List.mem_of_getElem? (i := 704) (by decide +kernel)⟩
theorem lw_p44 : lw_okq (⟨"LazyNamesModel", "judges", "(II)Z"⟩, 34) := ⟨⟨by decide +kernel, by decide +kernel⟩, List.mem_of_getElem? (i := 478) (by decide +kernel), List.mem_of_getElem? (i := 715) (by decide +kernel), List.mem_of_getElem? (i := 716) (by decide +kernel)⟩
theorem lw_p45 : lw_okq (⟨"LazyNamesModel", "goesTo", "(II)V"⟩, 34) := ⟨⟨by decide +kernel, by decide +kernel⟩, List.mem_of_getElem? (i := 478) (by decide +kernel), List.mem_of_getElem? (i := 719) (by decide +kernel), List.mem_of_getElem? (i := 720) (by decide +kernel)⟩
theorem lw_p46 : lw_okq (⟨"LazyNamesModel", "begins", "()V"⟩, 34) := ⟨⟨by decide +kernel, by decide +kernel⟩, List.mem_of_getElem? (i := 478) (by decide +kernel), List.mem_of_getElem? (i := 723) (by decide +kernel), List.mem_of_getElem? (i := 724) (by decide +kernel)⟩
theorem lw_p47 : lw_okq (⟨"LazyNamesModel", "leaves", "(Z)V"⟩, 34) := ⟨⟨by decide +kernel, by decide +kernel⟩, List.mem_of_getElem? (i := 478) (by decide +kernel), List.mem_of_getElem? (i := 727) (by decide +kernel), List.mem_of_getElem? (i := 728) (by decide +kernel)⟩
def lw_privs_3 : List (MethodName × Nat) := [(⟨"LazyNamesModel", "mayDefine", "(II)Z"⟩, 34), (⟨"LazyNamesModel", "goesThrough", "(I)V"⟩, 34), (⟨"LazyNamesModel", "partsOf", "(I)I"⟩, 34), (⟨"LazyNamesModel", "findNames", "()V"⟩, 34), (⟨"LazyNamesModel", "findName", "(I)V"⟩, 34), (⟨"LazyNamesModel", "isFolded", "(I)Z"⟩, 34), (⟨"LazyNamesModel", "weighs", "(I)V"⟩, 34), (⟨"LazyNamesModel", "headNow", "(I)I"⟩, 34), (⟨"LazyNamesModel", "isClosed", "(I)Z"⟩, 34), (⟨"LazyNamesModel", "plainSize", "(I)I"⟩, 34), (⟨"LazyNamesModel", "unfoldedSize", "(I)J"⟩, 34), (⟨"LazyNamesModel", "weighsAll", "(I)V"⟩, 34), (⟨"LazyNamesModel", "judges", "(II)Z"⟩, 34), (⟨"LazyNamesModel", "goesTo", "(II)V"⟩, 34), (⟨"LazyNamesModel", "begins", "()V"⟩, 34), (⟨"LazyNamesModel", "leaves", "(Z)V"⟩, 34)]
theorem lw_r3 : ∀ q ∈ lw_privs_3, lw_okq q := List.forall_mem_cons.mpr ⟨lw_p32, List.forall_mem_cons.mpr ⟨lw_p33, List.forall_mem_cons.mpr ⟨lw_p34, List.forall_mem_cons.mpr ⟨lw_p35, List.forall_mem_cons.mpr ⟨lw_p36, List.forall_mem_cons.mpr ⟨lw_p37, List.forall_mem_cons.mpr ⟨lw_p38, List.forall_mem_cons.mpr ⟨lw_p39, List.forall_mem_cons.mpr ⟨lw_p40, List.forall_mem_cons.mpr ⟨lw_p41, List.forall_mem_cons.mpr ⟨lw_p42, List.forall_mem_cons.mpr ⟨lw_p43, List.forall_mem_cons.mpr ⟨lw_p44, List.forall_mem_cons.mpr ⟨lw_p45, List.forall_mem_cons.mpr ⟨lw_p46, List.forall_mem_cons.mpr ⟨lw_p47, fun _ h => absurd h List.not_mem_nil⟩⟩⟩⟩⟩⟩⟩⟩⟩⟩⟩⟩⟩⟩⟩⟩
theorem lw_p48 : lw_okq (⟨"LazyNamesModel", "goesToPart", "(I)V"⟩, 34) := ⟨⟨by decide +kernel, by decide +kernel⟩, List.mem_of_getElem? (i := 478) (by decide +kernel), List.mem_of_getElem? (i := 731) (by decide +kernel), List.mem_of_getElem? (i := 732) (by decide +kernel)⟩
theorem lw_p49 : lw_okq (⟨"LazyNamesModel", "judgesNames", "(II)V"⟩, 34) := ⟨⟨by decide +kernel, by decide +kernel⟩, List.mem_of_getElem? (i := 478) (by decide +kernel), List.mem_of_getElem? (i := 735) (by decide +kernel), List.mem_of_getElem? (i := 736) (by decide +kernel)⟩
theorem lw_p50 : lw_okq (⟨"LazyNamesModel", "ends", "(Z)V"⟩, 34) := ⟨⟨by decide +kernel, by decide +kernel⟩, List.mem_of_getElem? (i := 478) (by decide +kernel), List.mem_of_getElem? (i := 739) (by decide +kernel), List.mem_of_getElem? (i := 740) (by decide +kernel)⟩
theorem lw_p51 : lw_okq (⟨"LazyNamesModel", "unfoldsSome", "(ZZ)V"⟩, 34) := ⟨⟨by decide +kernel, by decide +kernel⟩, List.mem_of_getElem? (i := 478) (by decide +kernel), List.mem_of_getElem? (i := 743) (by decide +kernel), List.mem_of_getElem? (i := 744) (by decide +kernel)⟩
theorem lw_p52 : lw_okq (⟨"LazyNamesModel", "mayUnfold", "(I)Z"⟩, 34) := ⟨⟨by decide +kernel, by decide +kernel⟩, List.mem_of_getElem? (i := 478) (by decide +kernel), List.mem_of_getElem? (i := 747) (by decide +kernel), List.mem_of_getElem? (i := 748) (by decide +kernel)⟩
theorem lw_p53 : lw_okq (⟨"LazyNamesModel", "unfolds", "(I)I"⟩, 34) := ⟨⟨by decide +kernel, by decide +kernel⟩, List.mem_of_getElem? (i := 478) (by decide +kernel), List.mem_of_getElem? (i := 751) (by decide +kernel), List.mem_of_getElem? (i := 752) (by decide +kernel)⟩
theorem lw_p54 : lw_okq (⟨"LazyNamesModel", "firstPart", "(I)I"⟩, 34) := ⟨⟨by decide +kernel, by decide +kernel⟩, List.mem_of_getElem? (i := 478) (by decide +kernel), List.mem_of_getElem? (i := 755) (by decide +kernel), List.mem_of_getElem? (i := 756) (by decide +kernel)⟩
theorem lw_p55 : lw_okq (⟨"LazyNamesModel", "goesOn", "()V"⟩, 34) := ⟨⟨by decide +kernel, by decide +kernel⟩, List.mem_of_getElem? (i := 478) (by decide +kernel), List.mem_of_getElem? (i := 759) (by decide +kernel), List.mem_of_getElem? (i := 760) (by decide +kernel)⟩
theorem lw_p56 : lw_okq (⟨"LazyNamesModel", "manyNames", "(Z)I"⟩, 34) := ⟨⟨by decide +kernel, by decide +kernel⟩, List.mem_of_getElem? (i := 478) (by decide +kernel), List.mem_of_getElem? (i := 771) (by decide +kernel), List.mem_of_getElem? (i := 772) (by decide +kernel)⟩
theorem lw_p57 : lw_okq (⟨"LazyNamesModel", "manyClosed", "()I"⟩, 34) := ⟨⟨by decide +kernel, by decide +kernel⟩, List.mem_of_getElem? (i := 478) (by decide +kernel), List.mem_of_getElem? (i := 775) (by decide +kernel), List.mem_of_getElem? (i := 776) (by decide +kernel)⟩
def lw_privs_4 : List (MethodName × Nat) := [(⟨"LazyNamesModel", "goesToPart", "(I)V"⟩, 34), (⟨"LazyNamesModel", "judgesNames", "(II)V"⟩, 34), (⟨"LazyNamesModel", "ends", "(Z)V"⟩, 34), (⟨"LazyNamesModel", "unfoldsSome", "(ZZ)V"⟩, 34), (⟨"LazyNamesModel", "mayUnfold", "(I)Z"⟩, 34), (⟨"LazyNamesModel", "unfolds", "(I)I"⟩, 34), (⟨"LazyNamesModel", "firstPart", "(I)I"⟩, 34), (⟨"LazyNamesModel", "goesOn", "()V"⟩, 34), (⟨"LazyNamesModel", "manyNames", "(Z)I"⟩, 34), (⟨"LazyNamesModel", "manyClosed", "()I"⟩, 34)]
theorem lw_r4 : ∀ q ∈ lw_privs_4, lw_okq q := List.forall_mem_cons.mpr ⟨lw_p48, List.forall_mem_cons.mpr ⟨lw_p49, List.forall_mem_cons.mpr ⟨lw_p50, List.forall_mem_cons.mpr ⟨lw_p51, List.forall_mem_cons.mpr ⟨lw_p52, List.forall_mem_cons.mpr ⟨lw_p53, List.forall_mem_cons.mpr ⟨lw_p54, List.forall_mem_cons.mpr ⟨lw_p55, List.forall_mem_cons.mpr ⟨lw_p56, List.forall_mem_cons.mpr ⟨lw_p57, fun _ h => absurd h List.not_mem_nil⟩⟩⟩⟩⟩⟩⟩⟩⟩⟩
def lw_privs : List (MethodName × Nat) := lw_privs_1 ++ (lw_privs_2 ++ (lw_privs_3 ++ (lw_privs_4)))
def lw_tbl : List Cond := k2_sels lw_privs ++ tables_1
theorem lw_privs_ok : ∀ q ∈ lw_privs, lw_okq q := by
  show ∀ q ∈ lw_privs_1 ++ (lw_privs_2 ++ (lw_privs_3 ++ (lw_privs_4))), lw_okq q
  exact List.forall_mem_append.mpr ⟨lw_r1, List.forall_mem_append.mpr ⟨lw_r2, List.forall_mem_append.mpr ⟨lw_r3, lw_r4⟩⟩⟩
end
section
def RX0 : String := "LazyNames$Checker"
def TX0 : u_T := fun k => match k with
  | 0 => ("LazyNames$Checker", "terms", "LLazyNames$Terms;", true)
  | 1 => ("LazyNames$Checker", "names", "LLazyNames$Names;", true)
  | 2 => ("LazyNames$Checker", "judgments", "[J", true)
  | 3 => ("LazyNames$Checker", "openX", "[I", true)
  | 4 => ("LazyNames$Checker", "openY", "[I", true)
  | 5 => ("LazyNames$Checker", "waitsFor", "[I", true)
  | 6 => ("LazyNames$Checker", "open", "I", false)
  | 7 => ("LazyNames$Checker", "unfoldings", "I", false)
  | 8 => ("LazyNames$Checker", "judged", "I", false)
  | 9 => ("LazyNames$Checker", "clashX", "I", false)
  | 10 => ("LazyNames$Checker", "clashY", "I", false)
  | 11 => ("LazyNames$Checker", "told", "[I", true)
  | _ => ("LazyNames$Checker", "hasTold", "Z", false)
def tyX0 : Nat → FieldType := fun k => match k with
  | 0 => .object "LazyNames$Terms"
  | 1 => .object "LazyNames$Names"
  | 2 => .array .long
  | 3 => .array .int
  | 4 => .array .int
  | 5 => .array .int
  | 6 => .int
  | 7 => .int
  | 8 => .int
  | 9 => .int
  | 10 => .int
  | 11 => .array .int
  | _ => .boolean
abbrev wsX00 : List Cond := u_ws RX0 TX0 13
theorem nmX0 : ∀ a, a < 13 → ∀ b, b < 13 → a ≠ b → (TX0 a).2.1 ≠ (TX0 b).2.1 := by decide +kernel
theorem tyX0_ok : ∀ k, k < 13 → parseFieldDescriptor (TX0 k).2.2.1 = some (tyX0 k) := by decide +kernel
abbrev cX0_init : ByteArray := prog_2_method_1_code
def yX0_init : MethodName := ⟨RX0, "<init>", "(LLazyNames$Terms;LLazyNames$Names;)V"⟩
abbrev cX0_latest : ByteArray := prog_2_method_2_code
def yX0_latest : MethodName := ⟨RX0, "latest", "(I)I"⟩
abbrev cX0_run : ByteArray := prog_2_method_3_code
def yX0_run : MethodName := ⟨RX0, "run", "(II)I"⟩
abbrev cX0_start : ByteArray := prog_2_method_4_code
def yX0_start : MethodName := ⟨RX0, "start", "()V"⟩
abbrev cX0_keep : ByteArray := prog_2_method_5_code
def yX0_keep : MethodName := ⟨RX0, "keep", "(I)V"⟩
abbrev cX0_meet : ByteArray := prog_2_method_6_code
def yX0_meet : MethodName := ⟨RX0, "meet", "(II)I"⟩
abbrev cX0_begin : ByteArray := prog_2_method_7_code
def yX0_begin : MethodName := ⟨RX0, "begin", "()I"⟩
abbrev cX0_goOn : ByteArray := prog_2_method_8_code
def yX0_goOn : MethodName := ⟨RX0, "goOn", "(I)I"⟩
abbrev cX0_meetParts : ByteArray := prog_2_method_9_code
def yX0_meetParts : MethodName := ⟨RX0, "meetParts", "(I)I"⟩
abbrev cX0_unfold : ByteArray := prog_2_method_10_code
def yX0_unfold : MethodName := ⟨RX0, "unfold", "(ZZ)I"⟩
abbrev cX0_unfolded : ByteArray := prog_2_method_11_code
def yX0_unfolded : MethodName := ⟨RX0, "unfolded", "(I)I"⟩
abbrev cX0_close : ByteArray := prog_2_method_12_code
def yX0_close : MethodName := ⟨RX0, "close", "(I)I"⟩
abbrev cX0_hasLast : ByteArray := prog_2_method_13_code
def yX0_hasLast : MethodName := ⟨RX0, "hasLast", "()Z"⟩
abbrev cX0_lastX : ByteArray := prog_2_method_14_code
def yX0_lastX : MethodName := ⟨RX0, "lastX", "()I"⟩
abbrev cX0_lastY : ByteArray := prog_2_method_15_code
def yX0_lastY : MethodName := ⟨RX0, "lastY", "()I"⟩
abbrev cX0_lastWaitsFor : ByteArray := prog_2_method_16_code
def yX0_lastWaitsFor : MethodName := ⟨RX0, "lastWaitsFor", "()I"⟩
abbrev cX0_setLastWaitsFor : ByteArray := prog_2_method_17_code
def yX0_setLastWaitsFor : MethodName := ⟨RX0, "setLastWaitsFor", "(I)V"⟩
abbrev cX0_judgment : ByteArray := prog_2_method_18_code
def yX0_judgment : MethodName := ⟨RX0, "judgment", "(II)I"⟩
abbrev cX0_judge : ByteArray := prog_2_method_19_code
def yX0_judge : MethodName := ⟨RX0, "judge", "(III)V"⟩
abbrev cX0_wordOf : ByteArray := prog_2_method_20_code
def yX0_wordOf : MethodName := ⟨RX0, "wordOf", "(II)I"⟩
abbrev cX0_shiftOf : ByteArray := prog_2_method_21_code
def yX0_shiftOf : MethodName := ⟨RX0, "shiftOf", "(I)I"⟩
def RX1 : String := "LazyNames$Names"
def TX1 : u_T := fun k => match k with
  | 0 => ("LazyNames$Names", "terms", "LLazyNames$Terms;", true)
  | 1 => ("LazyNames$Names", "arity", "[I", true)
  | 2 => ("LazyNames$Names", "definition", "[I", true)
  | 3 => ("LazyNames$Names", "opaque", "[Z", true)
  | 4 => ("LazyNames$Names", "height", "[I", true)
  | 5 => ("LazyNames$Names", "wholeFront", "[I", true)
  | 6 => ("LazyNames$Names", "counted", "[[J", true)
  | _ => ("LazyNames$Names", "came", "I", false)
def tyX1 : Nat → FieldType := fun k => match k with
  | 0 => .object "LazyNames$Terms"
  | 1 => .array .int
  | 2 => .array .int
  | 3 => .array .boolean
  | 4 => .array .int
  | 5 => .array .int
  | 6 => .array (.array .long)
  | _ => .int
abbrev wsX10 : List Cond := u_ws RX1 TX1 8
theorem nmX1 : ∀ a, a < 8 → ∀ b, b < 8 → a ≠ b → (TX1 a).2.1 ≠ (TX1 b).2.1 := by decide +kernel
theorem tyX1_ok : ∀ k, k < 8 → parseFieldDescriptor (TX1 k).2.2.1 = some (tyX1 k) := by decide +kernel
abbrev cX1_init : ByteArray := prog_3_method_1_code
def yX1_init : MethodName := ⟨RX1, "<init>", "(LLazyNames$Terms;)V"⟩
abbrev cX1_has : ByteArray := prog_3_method_2_code
def yX1_has : MethodName := ⟨RX1, "has", "(I)Z"⟩
abbrev cX1_howMany : ByteArray := prog_3_method_3_code
def yX1_howMany : MethodName := ⟨RX1, "howMany", "()I"⟩
abbrev cX1_howManyDefined : ByteArray := prog_3_method_4_code
def yX1_howManyDefined : MethodName := ⟨RX1, "howManyDefined", "()I"⟩
abbrev cX1_howManyFolded : ByteArray := prog_3_method_5_code
def yX1_howManyFolded : MethodName := ⟨RX1, "howManyFolded", "()I"⟩
abbrev cX1_arityOf : ByteArray := prog_3_method_6_code
def yX1_arityOf : MethodName := ⟨RX1, "arityOf", "(I)I"⟩
abbrev cX1_definitionOf : ByteArray := prog_3_method_7_code
def yX1_definitionOf : MethodName := ⟨RX1, "definitionOf", "(I)I"⟩
abbrev cX1_isOpaque : ByteArray := prog_3_method_8_code
def yX1_isOpaque : MethodName := ⟨RX1, "isOpaque", "(I)Z"⟩
abbrev cX1_isFolded : ByteArray := prog_3_method_9_code
def yX1_isFolded : MethodName := ⟨RX1, "isFolded", "(I)Z"⟩
abbrev cX1_heightOf : ByteArray := prog_3_method_10_code
def yX1_heightOf : MethodName := ⟨RX1, "heightOf", "(I)I"⟩
abbrev cX1_come : ByteArray := prog_3_method_11_code
def yX1_come : MethodName := ⟨RX1, "come", "(I)I"⟩
abbrev cX1_mayStandFor : ByteArray := prog_3_method_12_code
def yX1_mayStandFor : MethodName := ⟨RX1, "mayStandFor", "(II)Z"⟩
abbrev cX1_redefine : ByteArray := prog_3_method_13_code
def yX1_redefine : MethodName := ⟨RX1, "redefine", "(II)I"⟩
abbrev cX1_cover : ByteArray := prog_3_method_14_code
def yX1_cover : MethodName := ⟨RX1, "cover", "(IZ)Z"⟩
abbrev cX1_settleFrom : ByteArray := prog_3_method_15_code
def yX1_settleFrom : MethodName := ⟨RX1, "settleFrom", "(I)V"⟩
abbrev cX1_settlePlain : ByteArray := prog_3_method_16_code
def yX1_settlePlain : MethodName := ⟨RX1, "settlePlain", "(I)V"⟩
abbrev cX1_settleFolded : ByteArray := prog_3_method_17_code
def yX1_settleFolded : MethodName := ⟨RX1, "settleFolded", "(I)V"⟩
abbrev cX1_greatestHeightIn : ByteArray := prog_3_method_18_code
def yX1_greatestHeightIn : MethodName := ⟨RX1, "greatestHeightIn", "(I)I"⟩
abbrev cX1_frontOfWhole : ByteArray := prog_3_method_19_code
def yX1_frontOfWhole : MethodName := ⟨RX1, "frontOfWhole", "(I)I"⟩
abbrev cX1_countInWhole : ByteArray := prog_3_method_20_code
def yX1_countInWhole : MethodName := ⟨RX1, "countInWhole", "(III)J"⟩
abbrev cX1_sizeUnfolded : ByteArray := prog_3_method_21_code
def yX1_sizeUnfolded : MethodName := ⟨RX1, "sizeUnfolded", "(I)J"⟩
abbrev cX1_sizeOfWhole : ByteArray := prog_3_method_22_code
def yX1_sizeOfWhole : MethodName := ⟨RX1, "sizeOfWhole", "(I)J"⟩
abbrev cX1_unfoldingsOutermost : ByteArray := prog_3_method_23_code
def yX1_unfoldingsOutermost : MethodName := ⟨RX1, "unfoldingsOutermost", "(I)J"⟩
abbrev cX1_sum : ByteArray := prog_3_method_24_code
def yX1_sum : MethodName := ⟨RX1, "sum", "(JJ)J"⟩
abbrev cX1_product : ByteArray := prog_3_method_25_code
def yX1_product : MethodName := ⟨RX1, "product", "(JJ)J"⟩
def RX2 : String := "LazyNames$Terms"
def TX2 : u_T := fun k => match k with
  | 0 => ("LazyNames$Terms", "front", "[I", true)
  | 1 => ("LazyNames$Terms", "firstPart", "[I", true)
  | 2 => ("LazyNames$Terms", "secondPart", "[I", true)
  | 3 => ("LazyNames$Terms", "depth", "[I", true)
  | 4 => ("LazyNames$Terms", "size", "[I", true)
  | 5 => ("LazyNames$Terms", "namesWithin", "[I", true)
  | 6 => ("LazyNames$Terms", "firstParameter", "[I", true)
  | 7 => ("LazyNames$Terms", "secondParameter", "[I", true)
  | 8 => ("LazyNames$Terms", "made", "I", false)
  | _ => ("LazyNames$Terms", "held", "I", false)
def tyX2 : Nat → FieldType := fun k => match k with
  | 0 => .array .int
  | 1 => .array .int
  | 2 => .array .int
  | 3 => .array .int
  | 4 => .array .int
  | 5 => .array .int
  | 6 => .array .int
  | 7 => .array .int
  | 8 => .int
  | _ => .int
abbrev wsX20 : List Cond := u_ws RX2 TX2 10
theorem nmX2 : ∀ a, a < 10 → ∀ b, b < 10 → a ≠ b → (TX2 a).2.1 ≠ (TX2 b).2.1 := by decide +kernel
theorem tyX2_ok : ∀ k, k < 10 → parseFieldDescriptor (TX2 k).2.2.1 = some (tyX2 k) := by decide +kernel
abbrev cX2_init : ByteArray := prog_4_method_1_code
def yX2_init : MethodName := ⟨RX2, "<init>", "()V"⟩
abbrev cX2_wasMade : ByteArray := prog_4_method_2_code
def yX2_wasMade : MethodName := ⟨RX2, "wasMade", "(I)Z"⟩
abbrev cX2_isHeld : ByteArray := prog_4_method_3_code
def yX2_isHeld : MethodName := ⟨RX2, "isHeld", "(I)Z"⟩
abbrev cX2_howMany : ByteArray := prog_4_method_4_code
def yX2_howMany : MethodName := ⟨RX2, "howMany", "()I"⟩
abbrev cX2_howManyClosed : ByteArray := prog_4_method_5_code
def yX2_howManyClosed : MethodName := ⟨RX2, "howManyClosed", "()I"⟩
abbrev cX2_frontOf : ByteArray := prog_4_method_6_code
def yX2_frontOf : MethodName := ⟨RX2, "frontOf", "(I)I"⟩
abbrev cX2_partOf : ByteArray := prog_4_method_7_code
def yX2_partOf : MethodName := ⟨RX2, "partOf", "(II)I"⟩
abbrev cX2_depthOf : ByteArray := prog_4_method_8_code
def yX2_depthOf : MethodName := ⟨RX2, "depthOf", "(I)I"⟩
abbrev cX2_depthAbove : ByteArray := prog_4_method_9_code
def yX2_depthAbove : MethodName := ⟨RX2, "depthAbove", "(II)I"⟩
abbrev cX2_sizeOf : ByteArray := prog_4_method_10_code
def yX2_sizeOf : MethodName := ⟨RX2, "sizeOf", "(I)I"⟩
abbrev cX2_namesIn : ByteArray := prog_4_method_11_code
def yX2_namesIn : MethodName := ⟨RX2, "namesIn", "(I)I"⟩
abbrev cX2_timesOfParameter : ByteArray := prog_4_method_12_code
def yX2_timesOfParameter : MethodName := ⟨RX2, "timesOfParameter", "(II)I"⟩
abbrev cX2_isClosed : ByteArray := prog_4_method_13_code
def yX2_isClosed : MethodName := ⟨RX2, "isClosed", "(I)Z"⟩
abbrev cX2_numberOf : ByteArray := prog_4_method_14_code
def yX2_numberOf : MethodName := ⟨RX2, "numberOf", "(III)I"⟩
abbrev cX2_unfolded : ByteArray := prog_4_method_15_code
def yX2_unfolded : MethodName := ⟨RX2, "unfolded", "(III)I"⟩
abbrev cX2_filled : ByteArray := prog_4_method_16_code
def yX2_filled : MethodName := ⟨RX2, "filled", "(IIII)I"⟩
abbrev cX2_dropNotMade : ByteArray := prog_4_method_17_code
def yX2_dropNotMade : MethodName := ⟨RX2, "dropNotMade", "()V"⟩
abbrev cX2_find : ByteArray := prog_4_method_18_code
def yX2_find : MethodName := ⟨RX2, "find", "(III)I"⟩
abbrev cX2_hold : ByteArray := prog_4_method_19_code
def yX2_hold : MethodName := ⟨RX2, "hold", "(III)I"⟩
abbrev cX2_measure : ByteArray := prog_4_method_20_code
def yX2_measure : MethodName := ⟨RX2, "measure", "(I)V"⟩
def RX3 : String := "LazyNames"
def TX3 : u_T := fun k => match k with
  | 0 => ("LazyNames", "terms", "LLazyNames$Terms;", true)
  | 1 => ("LazyNames", "names", "LLazyNames$Names;", true)
  | _ => ("LazyNames", "checker", "LLazyNames$Checker;", true)
def tyX3 : Nat → FieldType := fun k => match k with
  | 0 => .object "LazyNames$Terms"
  | 1 => .object "LazyNames$Names"
  | _ => .object "LazyNames$Checker"
abbrev wsX30 : List Cond := u_ws RX3 TX3 3
theorem nmX3 : ∀ a, a < 3 → ∀ b, b < 3 → a ≠ b → (TX3 a).2.1 ≠ (TX3 b).2.1 := by decide +kernel
theorem tyX3_ok : ∀ k, k < 3 → parseFieldDescriptor (TX3 k).2.2.1 = some (tyX3 k) := by decide +kernel
abbrev cX3_init : ByteArray := prog_1_method_1_code
def yX3_init : MethodName := ⟨RX3, "<init>", "()V"⟩
abbrev cX3_name : ByteArray := prog_1_method_2_code
def yX3_name : MethodName := ⟨RX3, "name", "(I)I"⟩
abbrev cX3_parameter : ByteArray := prog_1_method_3_code
def yX3_parameter : MethodName := ⟨RX3, "parameter", "(I)I"⟩
abbrev cX3_term : ByteArray := prog_1_method_4_code
def yX3_term : MethodName := ⟨RX3, "term", "(III)I"⟩
abbrev cX3_define : ByteArray := prog_1_method_5_code
def yX3_define : MethodName := ⟨RX3, "define", "(II)I"⟩
abbrev cX3_opaque : ByteArray := prog_1_method_6_code
def yX3_opaque : MethodName := ⟨RX3, "opaque", "(IZ)I"⟩
abbrev cX3_ofName : ByteArray := prog_1_method_7_code
def yX3_ofName : MethodName := ⟨RX3, "ofName", "(II)I"⟩
abbrev cX3_ofTerm : ByteArray := prog_1_method_8_code
def yX3_ofTerm : MethodName := ⟨RX3, "ofTerm", "(II)I"⟩
abbrev cX3_size : ByteArray := prog_1_method_9_code
def yX3_size : MethodName := ⟨RX3, "size", "(II)J"⟩
abbrev cX3_front : ByteArray := prog_1_method_10_code
def yX3_front : MethodName := ⟨RX3, "front", "(I)I"⟩
abbrev cX3_check : ByteArray := prog_1_method_11_code
def yX3_check : MethodName := ⟨RX3, "check", "(II)I"⟩
abbrev cX3_checked : ByteArray := prog_1_method_12_code
def yX3_checked : MethodName := ⟨RX3, "checked", "(I)I"⟩
abbrev cX3_many : ByteArray := prog_1_method_13_code
def yX3_many : MethodName := ⟨RX3, "many", "(I)I"⟩
def RX4 : String := "LazyNamesModel"
def TX4 : u_T := fun k => match k with
  | 0 => ("LazyNamesModel", "names", "I", false)
  | 1 => ("LazyNamesModel", "arity", "[I", true)
  | 2 => ("LazyNamesModel", "defined", "[I", true)
  | 3 => ("LazyNamesModel", "isOpaque", "[Z", true)
  | 4 => ("LazyNamesModel", "terms", "I", false)
  | 5 => ("LazyNamesModel", "all", "I", false)
  | 6 => ("LazyNamesModel", "frontOf", "[I", true)
  | 7 => ("LazyNamesModel", "partOf", "[I", true)
  | 8 => ("LazyNamesModel", "depthOf", "[I", true)
  | 9 => ("LazyNamesModel", "nodes", "I", false)
  | 10 => ("LazyNamesModel", "node", "[I", true)
  | 11 => ("LazyNamesModel", "heightOf", "[I", true)
  | 12 => ("LazyNamesModel", "sizeOf", "[J", true)
  | 13 => ("LazyNamesModel", "oftenOf", "[J", true)
  | 14 => ("LazyNamesModel", "costOf", "[J", true)
  | 15 => ("LazyNamesModel", "headOf", "[I", true)
  | 16 => ("LazyNamesModel", "termSize", "[J", true)
  | 17 => ("LazyNamesModel", "termOften", "[J", true)
  | 18 => ("LazyNamesModel", "termCost", "[J", true)
  | 19 => ("LazyNamesModel", "unfoldings", "I", false)
  | 20 => ("LazyNamesModel", "judged", "I", false)
  | 21 => ("LazyNamesModel", "clashOne", "I", false)
  | 22 => ("LazyNamesModel", "clashOther", "I", false)
  | 23 => ("LazyNamesModel", "isSpent", "Z", false)
  | 24 => ("LazyNamesModel", "checks", "I", false)
  | 25 => ("LazyNamesModel", "answerOf", "[I", true)
  | 26 => ("LazyNamesModel", "made", "[I", true)
  | 27 => ("LazyNamesModel", "deep", "I", false)
  | 28 => ("LazyNamesModel", "oneOf", "[I", true)
  | 29 => ("LazyNamesModel", "otherOf", "[I", true)
  | 30 => ("LazyNamesModel", "waitsFor", "[I", true)
  | 31 => ("LazyNamesModel", "answer", "Z", false)
  | 32 => ("LazyNamesModel", "told", "[I", true)
  | _ => ("LazyNamesModel", "isTold", "Z", false)
def tyX4 : Nat → FieldType := fun k => match k with
  | 0 => .int
  | 1 => .array .int
  | 2 => .array .int
  | 3 => .array .boolean
  | 4 => .int
  | 5 => .int
  | 6 => .array .int
  | 7 => .array .int
  | 8 => .array .int
  | 9 => .int
  | 10 => .array .int
  | 11 => .array .int
  | 12 => .array .long
  | 13 => .array .long
  | 14 => .array .long
  | 15 => .array .int
  | 16 => .array .long
  | 17 => .array .long
  | 18 => .array .long
  | 19 => .int
  | 20 => .int
  | 21 => .int
  | 22 => .int
  | 23 => .boolean
  | 24 => .int
  | 25 => .array .int
  | 26 => .array .int
  | 27 => .int
  | 28 => .array .int
  | 29 => .array .int
  | 30 => .array .int
  | 31 => .boolean
  | 32 => .array .int
  | _ => .boolean
abbrev wsX40 : List Cond := u_ws RX4 TX4 34
theorem nmX4 : ∀ a, a < 34 → ∀ b, b < 34 → a ≠ b → (TX4 a).2.1 ≠ (TX4 b).2.1 := by decide +kernel
theorem tyX4_ok : ∀ k, k < 34 → parseFieldDescriptor (TX4 k).2.2.1 = some (tyX4 k) := by decide +kernel
abbrev cX4_init : ByteArray := prog_6_method_1_code
def yX4_init : MethodName := ⟨RX4, "<init>", "()V"⟩
abbrev cX4_within : ByteArray := prog_6_method_2_code
def yX4_within : MethodName := ⟨RX4, "within", "(III)Z"⟩
abbrev cX4_isName : ByteArray := prog_6_method_3_code
def yX4_isName : MethodName := ⟨RX4, "isName", "(I)Z"⟩
abbrev cX4_isFolded : ByteArray := prog_6_method_4_code
def yX4_isFolded : MethodName := ⟨RX4, "isFolded", "(I)Z"⟩
abbrev cX4_isTerm : ByteArray := prog_6_method_5_code
def yX4_isTerm : MethodName := ⟨RX4, "isTerm", "(I)Z"⟩
abbrev cX4_part : ByteArray := prog_6_method_6_code
def yX4_part : MethodName := ⟨RX4, "part", "(II)I"⟩
abbrev cX4_partsOf : ByteArray := prog_6_method_7_code
def yX4_partsOf : MethodName := ⟨RX4, "partsOf", "(I)I"⟩
abbrev cX4_find : ByteArray := prog_6_method_8_code
def yX4_find : MethodName := ⟨RX4, "find", "(III)I"⟩
abbrev cX4_depthBy : ByteArray := prog_6_method_9_code
def yX4_depthBy : MethodName := ⟨RX4, "depthBy", "(II)I"⟩
abbrev cX4_comes : ByteArray := prog_6_method_10_code
def yX4_comes : MethodName := ⟨RX4, "comes", "(III)I"⟩
abbrev cX4_makes : ByteArray := prog_6_method_11_code
def yX4_makes : MethodName := ⟨RX4, "makes", "(III)I"⟩
abbrev cX4_name : ByteArray := prog_6_method_12_code
def yX4_name : MethodName := ⟨RX4, "name", "(I)I"⟩
abbrev cX4_parameter : ByteArray := prog_6_method_13_code
def yX4_parameter : MethodName := ⟨RX4, "parameter", "(I)I"⟩
abbrev cX4_term : ByteArray := prog_6_method_14_code
def yX4_term : MethodName := ⟨RX4, "term", "(III)I"⟩
abbrev cX4_goesThrough : ByteArray := prog_6_method_15_code
def yX4_goesThrough : MethodName := ⟨RX4, "goesThrough", "(I)V"⟩
abbrev cX4_mayDefine : ByteArray := prog_6_method_16_code
def yX4_mayDefine : MethodName := ⟨RX4, "mayDefine", "(II)Z"⟩
abbrev cX4_isClosed : ByteArray := prog_6_method_17_code
def yX4_isClosed : MethodName := ⟨RX4, "isClosed", "(I)Z"⟩
abbrev cX4_define : ByteArray := prog_6_method_18_code
def yX4_define : MethodName := ⟨RX4, "define", "(II)I"⟩
abbrev cX4_opaque : ByteArray := prog_6_method_19_code
def yX4_opaque : MethodName := ⟨RX4, "opaque", "(IZ)I"⟩
abbrev cX4_atMost : ByteArray := prog_6_method_20_code
def yX4_atMost : MethodName := ⟨RX4, "atMost", "(J)J"⟩
abbrev cX4_times : ByteArray := prog_6_method_21_code
def yX4_times : MethodName := ⟨RX4, "times", "(JJ)J"⟩
abbrev cX4_weighs : ByteArray := prog_6_method_22_code
def yX4_weighs : MethodName := ⟨RX4, "weighs", "(I)V"⟩
abbrev cX4_headNow : ByteArray := prog_6_method_23_code
def yX4_headNow : MethodName := ⟨RX4, "headNow", "(I)I"⟩
abbrev cX4_findName : ByteArray := prog_6_method_24_code
def yX4_findName : MethodName := ⟨RX4, "findName", "(I)V"⟩
abbrev cX4_findNames : ByteArray := prog_6_method_25_code
def yX4_findNames : MethodName := ⟨RX4, "findNames", "()V"⟩
abbrev cX4_ofName : ByteArray := prog_6_method_26_code
def yX4_ofName : MethodName := ⟨RX4, "ofName", "(II)I"⟩
abbrev cX4_ofTerm : ByteArray := prog_6_method_27_code
def yX4_ofTerm : MethodName := ⟨RX4, "ofTerm", "(II)I"⟩
abbrev cX4_plainSize : ByteArray := prog_6_method_28_code
def yX4_plainSize : MethodName := ⟨RX4, "plainSize", "(I)I"⟩
abbrev cX4_unfoldedSize : ByteArray := prog_6_method_29_code
def yX4_unfoldedSize : MethodName := ⟨RX4, "unfoldedSize", "(I)J"⟩
abbrev cX4_weighsAll : ByteArray := prog_6_method_30_code
def yX4_weighsAll : MethodName := ⟨RX4, "weighsAll", "(I)V"⟩
abbrev cX4_size : ByteArray := prog_6_method_31_code
def yX4_size : MethodName := ⟨RX4, "size", "(II)J"⟩
abbrev cX4_front : ByteArray := prog_6_method_32_code
def yX4_front : MethodName := ⟨RX4, "front", "(I)I"⟩
abbrev cX4_unfolds : ByteArray := prog_6_method_33_code
def yX4_unfolds : MethodName := ⟨RX4, "unfolds", "(I)I"⟩
abbrev cX4_firstPart : ByteArray := prog_6_method_34_code
def yX4_firstPart : MethodName := ⟨RX4, "firstPart", "(I)I"⟩
abbrev cX4_mayUnfold : ByteArray := prog_6_method_35_code
def yX4_mayUnfold : MethodName := ⟨RX4, "mayUnfold", "(I)Z"⟩
abbrev cX4_goesTo : ByteArray := prog_6_method_36_code
def yX4_goesTo : MethodName := ⟨RX4, "goesTo", "(II)V"⟩
abbrev cX4_ends : ByteArray := prog_6_method_37_code
def yX4_ends : MethodName := ⟨RX4, "ends", "(Z)V"⟩
abbrev cX4_leaves : ByteArray := prog_6_method_38_code
def yX4_leaves : MethodName := ⟨RX4, "leaves", "(Z)V"⟩
abbrev cX4_unfoldsSome : ByteArray := prog_6_method_39_code
def yX4_unfoldsSome : MethodName := ⟨RX4, "unfoldsSome", "(ZZ)V"⟩
abbrev cX4_judgesNames : ByteArray := prog_6_method_40_code
def yX4_judgesNames : MethodName := ⟨RX4, "judgesNames", "(II)V"⟩
abbrev cX4_goesToPart : ByteArray := prog_6_method_41_code
def yX4_goesToPart : MethodName := ⟨RX4, "goesToPart", "(I)V"⟩
abbrev cX4_begins : ByteArray := prog_6_method_42_code
def yX4_begins : MethodName := ⟨RX4, "begins", "()V"⟩
abbrev cX4_goesOn : ByteArray := prog_6_method_43_code
def yX4_goesOn : MethodName := ⟨RX4, "goesOn", "()V"⟩
abbrev cX4_judges : ByteArray := prog_6_method_44_code
def yX4_judges : MethodName := ⟨RX4, "judges", "(II)Z"⟩
abbrev cX4_check : ByteArray := prog_6_method_45_code
def yX4_check : MethodName := ⟨RX4, "check", "(II)I"⟩
abbrev cX4_checked : ByteArray := prog_6_method_46_code
def yX4_checked : MethodName := ⟨RX4, "checked", "(I)I"⟩
abbrev cX4_manyNames : ByteArray := prog_6_method_47_code
def yX4_manyNames : MethodName := ⟨RX4, "manyNames", "(Z)I"⟩
abbrev cX4_manyClosed : ByteArray := prog_6_method_48_code
def yX4_manyClosed : MethodName := ⟨RX4, "manyClosed", "()I"⟩
abbrev cX4_many : ByteArray := prog_6_method_49_code
def yX4_many : MethodName := ⟨RX4, "many", "(I)I"⟩
def RJ9 : String := "java/lang/Math"
abbrev cJ9_max_7cf53 : ByteArray := prog_7_method_65_code
def yJ9_max_7cf53 : MethodName := ⟨RJ9, "max", "(II)I"⟩
abbrev cJ9_min_f86c9 : ByteArray := prog_7_method_70_code
def yJ9_min_f86c9 : MethodName := ⟨RJ9, "min", "(JJ)J"⟩
def RJ7 : String := "java/util/Arrays"
abbrev cJ7_fill_d0a16 : ByteArray := prog_8_method_101_code
def yJ7_fill_d0a16 : MethodName := ⟨RJ7, "fill", "([JJ)V"⟩
def RL : String := "LazyNamesLaw"
abbrev cL_law : ByteArray := code
def yL_law : MethodName := ⟨RL, "law", "([I)Z"⟩
abbrev vwCl : List vw_C := [(RX0, TX0, 13), (RX1, TX1, 8), (RX2, TX2, 10), (RX3, TX3, 3), (RX4, TX4, 34)]
set_option maxRecDepth 100000 in
theorem inT0 : ∀ w ∈ u_ws RX0 TX0 13, w ∈ lw_tbl := by decide +kernel
set_option maxRecDepth 100000 in
theorem inT1 : ∀ w ∈ u_ws RX1 TX1 8, w ∈ lw_tbl := by decide +kernel
set_option maxRecDepth 100000 in
theorem inT2 : ∀ w ∈ u_ws RX2 TX2 10, w ∈ lw_tbl := by decide +kernel
set_option maxRecDepth 100000 in
theorem inT3 : ∀ w ∈ u_ws RX3 TX3 3, w ∈ lw_tbl := by decide +kernel
set_option maxRecDepth 100000 in
theorem inT4 : ∀ w ∈ u_ws RX4 TX4 34, w ∈ lw_tbl := by decide +kernel
end
section
theorem dJ7_fill_d0a16_0 : decode cJ7_fill_d0a16 0 = .ok (.iconst 0, 1) := by decide +kernel
theorem dJ7_fill_d0a16_1 : decode cJ7_fill_d0a16 1 = .ok (.istore_n 3, 1) := by decide +kernel
theorem dJ7_fill_d0a16_2 : decode cJ7_fill_d0a16 2 = .ok (.aload_n 0, 1) := by decide +kernel
theorem dJ7_fill_d0a16_3 : decode cJ7_fill_d0a16 3 = .ok (.arraylength, 1) := by decide +kernel
theorem dJ7_fill_d0a16_4 : decode cJ7_fill_d0a16 4 = .ok (.istore 4, 2) := by decide +kernel
theorem dJ7_fill_d0a16_6 : decode cJ7_fill_d0a16 6 = .ok (.iload_n 3, 1) := by decide +kernel
theorem dJ7_fill_d0a16_7 : decode cJ7_fill_d0a16 7 = .ok (.iload 4, 2) := by decide +kernel
theorem dJ7_fill_d0a16_9 : decode cJ7_fill_d0a16 9 = .ok (.if_icmp .ge 13, 3) := by decide +kernel
theorem dJ7_fill_d0a16_12 : decode cJ7_fill_d0a16 12 = .ok (.aload_n 0, 1) := by decide +kernel
theorem dJ7_fill_d0a16_13 : decode cJ7_fill_d0a16 13 = .ok (.iload_n 3, 1) := by decide +kernel
theorem dJ7_fill_d0a16_14 : decode cJ7_fill_d0a16 14 = .ok (.lload_n 1, 1) := by decide +kernel
theorem dJ7_fill_d0a16_15 : decode cJ7_fill_d0a16 15 = .ok (.lastore, 1) := by decide +kernel
theorem dJ7_fill_d0a16_16 : decode cJ7_fill_d0a16 16 = .ok (.iinc 3 1, 3) := by decide +kernel
theorem dJ7_fill_d0a16_19 : decode cJ7_fill_d0a16 19 = .ok (.goto (-13), 3) := by decide +kernel
theorem dJ7_fill_d0a16_22 : decode cJ7_fill_d0a16 22 = .ok (.return_, 1) := by decide +kernel
end
section
theorem dJ9_max_7cf53_0 : decode cJ9_max_7cf53 0 = .ok (.iload_n 0, 1) := by decide +kernel
theorem dJ9_max_7cf53_1 : decode cJ9_max_7cf53 1 = .ok (.iload_n 1, 1) := by decide +kernel
theorem dJ9_max_7cf53_2 : decode cJ9_max_7cf53 2 = .ok (.if_icmp .lt 7, 3) := by decide +kernel
theorem dJ9_max_7cf53_5 : decode cJ9_max_7cf53 5 = .ok (.iload_n 0, 1) := by decide +kernel
theorem dJ9_max_7cf53_6 : decode cJ9_max_7cf53 6 = .ok (.goto 4, 3) := by decide +kernel
theorem dJ9_max_7cf53_9 : decode cJ9_max_7cf53 9 = .ok (.iload_n 1, 1) := by decide +kernel
theorem dJ9_max_7cf53_10 : decode cJ9_max_7cf53 10 = .ok (.ireturn, 1) := by decide +kernel
theorem dJ9_min_f86c9_0 : decode cJ9_min_f86c9 0 = .ok (.lload_n 0, 1) := by decide +kernel
theorem dJ9_min_f86c9_1 : decode cJ9_min_f86c9 1 = .ok (.lload_n 2, 1) := by decide +kernel
theorem dJ9_min_f86c9_2 : decode cJ9_min_f86c9 2 = .ok (.lcmp, 1) := by decide +kernel
theorem dJ9_min_f86c9_3 : decode cJ9_min_f86c9 3 = .ok (.ifCond .gt 7, 3) := by decide +kernel
theorem dJ9_min_f86c9_6 : decode cJ9_min_f86c9 6 = .ok (.lload_n 0, 1) := by decide +kernel
theorem dJ9_min_f86c9_7 : decode cJ9_min_f86c9 7 = .ok (.goto 4, 3) := by decide +kernel
theorem dJ9_min_f86c9_10 : decode cJ9_min_f86c9 10 = .ok (.lload_n 2, 1) := by decide +kernel
theorem dJ9_min_f86c9_11 : decode cJ9_min_f86c9 11 = .ok (.lreturn, 1) := by decide +kernel
end
section
theorem dL_law_0 : decode cL_law 0 = .ok (.new 7, 3) := by decide +kernel
theorem dL_law_3 : decode cL_law 3 = .ok (.dup, 1) := by decide +kernel
theorem dL_law_4 : decode cL_law 4 = .ok (.invokespecial 9, 3) := by decide +kernel
theorem dL_law_7 : decode cL_law 7 = .ok (.astore_n 1, 1) := by decide +kernel
theorem dL_law_8 : decode cL_law 8 = .ok (.new 10, 3) := by decide +kernel
theorem dL_law_11 : decode cL_law 11 = .ok (.dup, 1) := by decide +kernel
theorem dL_law_12 : decode cL_law 12 = .ok (.invokespecial 12, 3) := by decide +kernel
theorem dL_law_15 : decode cL_law 15 = .ok (.astore_n 2, 1) := by decide +kernel
theorem dL_law_16 : decode cL_law 16 = .ok (.iconst 0, 1) := by decide +kernel
theorem dL_law_17 : decode cL_law 17 = .ok (.istore_n 3, 1) := by decide +kernel
theorem dL_law_18 : decode cL_law 18 = .ok (.iload_n 3, 1) := by decide +kernel
theorem dL_law_19 : decode cL_law 19 = .ok (.aload_n 0, 1) := by decide +kernel
theorem dL_law_20 : decode cL_law 20 = .ok (.arraylength, 1) := by decide +kernel
theorem dL_law_21 : decode cL_law 21 = .ok (.iconst 4, 1) := by decide +kernel
theorem dL_law_22 : decode cL_law 22 = .ok (.isub, 1) := by decide +kernel
theorem dL_law_23 : decode cL_law 23 = .ok (.if_icmp .gt 452, 3) := by decide +kernel
theorem dL_law_26 : decode cL_law 26 = .ok (.aload_n 0, 1) := by decide +kernel
theorem dL_law_27 : decode cL_law 27 = .ok (.iload_n 3, 1) := by decide +kernel
theorem dL_law_28 : decode cL_law 28 = .ok (.iaload, 1) := by decide +kernel
theorem dL_law_29 : decode cL_law 29 = .ok (.bipush 15, 2) := by decide +kernel
theorem dL_law_31 : decode cL_law 31 = .ok (.iand, 1) := by decide +kernel
theorem dL_law_32 : decode cL_law 32 = .ok (.tableswitch 437 0 11 #[64, 87, 110, 153, 186, 235, 268, 301, 335, 358, 391, 414], 64) := by decide +kernel
theorem dL_law_96 : decode cL_law 96 = .ok (.aload_n 1, 1) := by decide +kernel
theorem dL_law_97 : decode cL_law 97 = .ok (.aload_n 0, 1) := by decide +kernel
theorem dL_law_98 : decode cL_law 98 = .ok (.iload_n 3, 1) := by decide +kernel
theorem dL_law_99 : decode cL_law 99 = .ok (.iconst 1, 1) := by decide +kernel
theorem dL_law_100 : decode cL_law 100 = .ok (.iadd, 1) := by decide +kernel
theorem dL_law_101 : decode cL_law 101 = .ok (.iaload, 1) := by decide +kernel
theorem dL_law_102 : decode cL_law 102 = .ok (.invokevirtual 13, 3) := by decide +kernel
theorem dL_law_105 : decode cL_law 105 = .ok (.aload_n 2, 1) := by decide +kernel
theorem dL_law_106 : decode cL_law 106 = .ok (.aload_n 0, 1) := by decide +kernel
theorem dL_law_107 : decode cL_law 107 = .ok (.iload_n 3, 1) := by decide +kernel
theorem dL_law_108 : decode cL_law 108 = .ok (.iconst 1, 1) := by decide +kernel
theorem dL_law_109 : decode cL_law 109 = .ok (.iadd, 1) := by decide +kernel
theorem dL_law_110 : decode cL_law 110 = .ok (.iaload, 1) := by decide +kernel
theorem dL_law_111 : decode cL_law 111 = .ok (.invokevirtual 17, 3) := by decide +kernel
theorem dL_law_114 : decode cL_law 114 = .ok (.if_icmp .eq 355, 3) := by decide +kernel
theorem dL_law_117 : decode cL_law 117 = .ok (.iconst 0, 1) := by decide +kernel
theorem dL_law_118 : decode cL_law 118 = .ok (.ireturn, 1) := by decide +kernel
theorem dL_law_119 : decode cL_law 119 = .ok (.aload_n 1, 1) := by decide +kernel
theorem dL_law_120 : decode cL_law 120 = .ok (.aload_n 0, 1) := by decide +kernel
theorem dL_law_121 : decode cL_law 121 = .ok (.iload_n 3, 1) := by decide +kernel
theorem dL_law_122 : decode cL_law 122 = .ok (.iconst 1, 1) := by decide +kernel
theorem dL_law_123 : decode cL_law 123 = .ok (.iadd, 1) := by decide +kernel
theorem dL_law_124 : decode cL_law 124 = .ok (.iaload, 1) := by decide +kernel
theorem dL_law_125 : decode cL_law 125 = .ok (.invokevirtual 18, 3) := by decide +kernel
theorem dL_law_128 : decode cL_law 128 = .ok (.aload_n 2, 1) := by decide +kernel
theorem dL_law_129 : decode cL_law 129 = .ok (.aload_n 0, 1) := by decide +kernel
theorem dL_law_130 : decode cL_law 130 = .ok (.iload_n 3, 1) := by decide +kernel
theorem dL_law_131 : decode cL_law 131 = .ok (.iconst 1, 1) := by decide +kernel
theorem dL_law_132 : decode cL_law 132 = .ok (.iadd, 1) := by decide +kernel
theorem dL_law_133 : decode cL_law 133 = .ok (.iaload, 1) := by decide +kernel
theorem dL_law_134 : decode cL_law 134 = .ok (.invokevirtual 21, 3) := by decide +kernel
theorem dL_law_137 : decode cL_law 137 = .ok (.if_icmp .eq 332, 3) := by decide +kernel
theorem dL_law_140 : decode cL_law 140 = .ok (.iconst 0, 1) := by decide +kernel
theorem dL_law_141 : decode cL_law 141 = .ok (.ireturn, 1) := by decide +kernel
theorem dL_law_142 : decode cL_law 142 = .ok (.aload_n 1, 1) := by decide +kernel
theorem dL_law_143 : decode cL_law 143 = .ok (.aload_n 0, 1) := by decide +kernel
theorem dL_law_144 : decode cL_law 144 = .ok (.iload_n 3, 1) := by decide +kernel
theorem dL_law_145 : decode cL_law 145 = .ok (.iconst 1, 1) := by decide +kernel
theorem dL_law_146 : decode cL_law 146 = .ok (.iadd, 1) := by decide +kernel
theorem dL_law_147 : decode cL_law 147 = .ok (.iaload, 1) := by decide +kernel
theorem dL_law_148 : decode cL_law 148 = .ok (.aload_n 0, 1) := by decide +kernel
theorem dL_law_149 : decode cL_law 149 = .ok (.iload_n 3, 1) := by decide +kernel
theorem dL_law_150 : decode cL_law 150 = .ok (.iconst 2, 1) := by decide +kernel
theorem dL_law_151 : decode cL_law 151 = .ok (.iadd, 1) := by decide +kernel
theorem dL_law_152 : decode cL_law 152 = .ok (.iaload, 1) := by decide +kernel
theorem dL_law_153 : decode cL_law 153 = .ok (.aload_n 0, 1) := by decide +kernel
theorem dL_law_154 : decode cL_law 154 = .ok (.iload_n 3, 1) := by decide +kernel
theorem dL_law_155 : decode cL_law 155 = .ok (.iconst 3, 1) := by decide +kernel
theorem dL_law_156 : decode cL_law 156 = .ok (.iadd, 1) := by decide +kernel
theorem dL_law_157 : decode cL_law 157 = .ok (.iaload, 1) := by decide +kernel
theorem dL_law_158 : decode cL_law 158 = .ok (.invokevirtual 22, 3) := by decide +kernel
theorem dL_law_161 : decode cL_law 161 = .ok (.aload_n 2, 1) := by decide +kernel
theorem dL_law_162 : decode cL_law 162 = .ok (.aload_n 0, 1) := by decide +kernel
theorem dL_law_163 : decode cL_law 163 = .ok (.iload_n 3, 1) := by decide +kernel
theorem dL_law_164 : decode cL_law 164 = .ok (.iconst 1, 1) := by decide +kernel
theorem dL_law_165 : decode cL_law 165 = .ok (.iadd, 1) := by decide +kernel
theorem dL_law_166 : decode cL_law 166 = .ok (.iaload, 1) := by decide +kernel
theorem dL_law_167 : decode cL_law 167 = .ok (.aload_n 0, 1) := by decide +kernel
theorem dL_law_168 : decode cL_law 168 = .ok (.iload_n 3, 1) := by decide +kernel
theorem dL_law_169 : decode cL_law 169 = .ok (.iconst 2, 1) := by decide +kernel
theorem dL_law_170 : decode cL_law 170 = .ok (.iadd, 1) := by decide +kernel
theorem dL_law_171 : decode cL_law 171 = .ok (.iaload, 1) := by decide +kernel
theorem dL_law_172 : decode cL_law 172 = .ok (.aload_n 0, 1) := by decide +kernel
theorem dL_law_173 : decode cL_law 173 = .ok (.iload_n 3, 1) := by decide +kernel
theorem dL_law_174 : decode cL_law 174 = .ok (.iconst 3, 1) := by decide +kernel
theorem dL_law_175 : decode cL_law 175 = .ok (.iadd, 1) := by decide +kernel
theorem dL_law_176 : decode cL_law 176 = .ok (.iaload, 1) := by decide +kernel
theorem dL_law_177 : decode cL_law 177 = .ok (.invokevirtual 26, 3) := by decide +kernel
theorem dL_law_180 : decode cL_law 180 = .ok (.if_icmp .eq 289, 3) := by decide +kernel
theorem dL_law_183 : decode cL_law 183 = .ok (.iconst 0, 1) := by decide +kernel
theorem dL_law_184 : decode cL_law 184 = .ok (.ireturn, 1) := by decide +kernel
theorem dL_law_185 : decode cL_law 185 = .ok (.aload_n 1, 1) := by decide +kernel
theorem dL_law_186 : decode cL_law 186 = .ok (.aload_n 0, 1) := by decide +kernel
theorem dL_law_187 : decode cL_law 187 = .ok (.iload_n 3, 1) := by decide +kernel
theorem dL_law_188 : decode cL_law 188 = .ok (.iconst 1, 1) := by decide +kernel
theorem dL_law_189 : decode cL_law 189 = .ok (.iadd, 1) := by decide +kernel
theorem dL_law_190 : decode cL_law 190 = .ok (.iaload, 1) := by decide +kernel
theorem dL_law_191 : decode cL_law 191 = .ok (.aload_n 0, 1) := by decide +kernel
theorem dL_law_192 : decode cL_law 192 = .ok (.iload_n 3, 1) := by decide +kernel
theorem dL_law_193 : decode cL_law 193 = .ok (.iconst 2, 1) := by decide +kernel
theorem dL_law_194 : decode cL_law 194 = .ok (.iadd, 1) := by decide +kernel
theorem dL_law_195 : decode cL_law 195 = .ok (.iaload, 1) := by decide +kernel
theorem dL_law_196 : decode cL_law 196 = .ok (.invokevirtual 27, 3) := by decide +kernel
theorem dL_law_199 : decode cL_law 199 = .ok (.aload_n 2, 1) := by decide +kernel
theorem dL_law_200 : decode cL_law 200 = .ok (.aload_n 0, 1) := by decide +kernel
theorem dL_law_201 : decode cL_law 201 = .ok (.iload_n 3, 1) := by decide +kernel
theorem dL_law_202 : decode cL_law 202 = .ok (.iconst 1, 1) := by decide +kernel
theorem dL_law_203 : decode cL_law 203 = .ok (.iadd, 1) := by decide +kernel
theorem dL_law_204 : decode cL_law 204 = .ok (.iaload, 1) := by decide +kernel
theorem dL_law_205 : decode cL_law 205 = .ok (.aload_n 0, 1) := by decide +kernel
theorem dL_law_206 : decode cL_law 206 = .ok (.iload_n 3, 1) := by decide +kernel
theorem dL_law_207 : decode cL_law 207 = .ok (.iconst 2, 1) := by decide +kernel
theorem dL_law_208 : decode cL_law 208 = .ok (.iadd, 1) := by decide +kernel
theorem dL_law_209 : decode cL_law 209 = .ok (.iaload, 1) := by decide +kernel
theorem dL_law_210 : decode cL_law 210 = .ok (.invokevirtual 31, 3) := by decide +kernel
theorem dL_law_213 : decode cL_law 213 = .ok (.if_icmp .eq 256, 3) := by decide +kernel
theorem dL_law_216 : decode cL_law 216 = .ok (.iconst 0, 1) := by decide +kernel
theorem dL_law_217 : decode cL_law 217 = .ok (.ireturn, 1) := by decide +kernel
theorem dL_law_218 : decode cL_law 218 = .ok (.aload_n 1, 1) := by decide +kernel
theorem dL_law_219 : decode cL_law 219 = .ok (.aload_n 0, 1) := by decide +kernel
theorem dL_law_220 : decode cL_law 220 = .ok (.iload_n 3, 1) := by decide +kernel
theorem dL_law_221 : decode cL_law 221 = .ok (.iconst 1, 1) := by decide +kernel
theorem dL_law_222 : decode cL_law 222 = .ok (.iadd, 1) := by decide +kernel
theorem dL_law_223 : decode cL_law 223 = .ok (.iaload, 1) := by decide +kernel
theorem dL_law_224 : decode cL_law 224 = .ok (.aload_n 0, 1) := by decide +kernel
theorem dL_law_225 : decode cL_law 225 = .ok (.iload_n 3, 1) := by decide +kernel
theorem dL_law_226 : decode cL_law 226 = .ok (.iconst 2, 1) := by decide +kernel
theorem dL_law_227 : decode cL_law 227 = .ok (.iadd, 1) := by decide +kernel
theorem dL_law_228 : decode cL_law 228 = .ok (.iaload, 1) := by decide +kernel
theorem dL_law_229 : decode cL_law 229 = .ok (.ifCond .eq 7, 3) := by decide +kernel
theorem dL_law_232 : decode cL_law 232 = .ok (.iconst 1, 1) := by decide +kernel
theorem dL_law_233 : decode cL_law 233 = .ok (.goto 4, 3) := by decide +kernel
theorem dL_law_236 : decode cL_law 236 = .ok (.iconst 0, 1) := by decide +kernel
theorem dL_law_237 : decode cL_law 237 = .ok (.invokevirtual 32, 3) := by decide +kernel
theorem dL_law_240 : decode cL_law 240 = .ok (.aload_n 2, 1) := by decide +kernel
theorem dL_law_241 : decode cL_law 241 = .ok (.aload_n 0, 1) := by decide +kernel
theorem dL_law_242 : decode cL_law 242 = .ok (.iload_n 3, 1) := by decide +kernel
theorem dL_law_243 : decode cL_law 243 = .ok (.iconst 1, 1) := by decide +kernel
theorem dL_law_244 : decode cL_law 244 = .ok (.iadd, 1) := by decide +kernel
theorem dL_law_245 : decode cL_law 245 = .ok (.iaload, 1) := by decide +kernel
theorem dL_law_246 : decode cL_law 246 = .ok (.aload_n 0, 1) := by decide +kernel
theorem dL_law_247 : decode cL_law 247 = .ok (.iload_n 3, 1) := by decide +kernel
theorem dL_law_248 : decode cL_law 248 = .ok (.iconst 2, 1) := by decide +kernel
theorem dL_law_249 : decode cL_law 249 = .ok (.iadd, 1) := by decide +kernel
theorem dL_law_250 : decode cL_law 250 = .ok (.iaload, 1) := by decide +kernel
theorem dL_law_251 : decode cL_law 251 = .ok (.ifCond .eq 7, 3) := by decide +kernel
theorem dL_law_254 : decode cL_law 254 = .ok (.iconst 1, 1) := by decide +kernel
theorem dL_law_255 : decode cL_law 255 = .ok (.goto 4, 3) := by decide +kernel
theorem dL_law_258 : decode cL_law 258 = .ok (.iconst 0, 1) := by decide +kernel
theorem dL_law_259 : decode cL_law 259 = .ok (.invokevirtual 36, 3) := by decide +kernel
theorem dL_law_262 : decode cL_law 262 = .ok (.if_icmp .eq 207, 3) := by decide +kernel
theorem dL_law_265 : decode cL_law 265 = .ok (.iconst 0, 1) := by decide +kernel
theorem dL_law_266 : decode cL_law 266 = .ok (.ireturn, 1) := by decide +kernel
theorem dL_law_267 : decode cL_law 267 = .ok (.aload_n 1, 1) := by decide +kernel
theorem dL_law_268 : decode cL_law 268 = .ok (.aload_n 0, 1) := by decide +kernel
theorem dL_law_269 : decode cL_law 269 = .ok (.iload_n 3, 1) := by decide +kernel
theorem dL_law_270 : decode cL_law 270 = .ok (.iconst 1, 1) := by decide +kernel
theorem dL_law_271 : decode cL_law 271 = .ok (.iadd, 1) := by decide +kernel
theorem dL_law_272 : decode cL_law 272 = .ok (.iaload, 1) := by decide +kernel
theorem dL_law_273 : decode cL_law 273 = .ok (.aload_n 0, 1) := by decide +kernel
theorem dL_law_274 : decode cL_law 274 = .ok (.iload_n 3, 1) := by decide +kernel
theorem dL_law_275 : decode cL_law 275 = .ok (.iconst 2, 1) := by decide +kernel
theorem dL_law_276 : decode cL_law 276 = .ok (.iadd, 1) := by decide +kernel
theorem dL_law_277 : decode cL_law 277 = .ok (.iaload, 1) := by decide +kernel
theorem dL_law_278 : decode cL_law 278 = .ok (.invokevirtual 37, 3) := by decide +kernel
theorem dL_law_281 : decode cL_law 281 = .ok (.aload_n 2, 1) := by decide +kernel
theorem dL_law_282 : decode cL_law 282 = .ok (.aload_n 0, 1) := by decide +kernel
theorem dL_law_283 : decode cL_law 283 = .ok (.iload_n 3, 1) := by decide +kernel
theorem dL_law_284 : decode cL_law 284 = .ok (.iconst 1, 1) := by decide +kernel
theorem dL_law_285 : decode cL_law 285 = .ok (.iadd, 1) := by decide +kernel
theorem dL_law_286 : decode cL_law 286 = .ok (.iaload, 1) := by decide +kernel
theorem dL_law_287 : decode cL_law 287 = .ok (.aload_n 0, 1) := by decide +kernel
theorem dL_law_288 : decode cL_law 288 = .ok (.iload_n 3, 1) := by decide +kernel
theorem dL_law_289 : decode cL_law 289 = .ok (.iconst 2, 1) := by decide +kernel
theorem dL_law_290 : decode cL_law 290 = .ok (.iadd, 1) := by decide +kernel
theorem dL_law_291 : decode cL_law 291 = .ok (.iaload, 1) := by decide +kernel
theorem dL_law_292 : decode cL_law 292 = .ok (.invokevirtual 40, 3) := by decide +kernel
theorem dL_law_295 : decode cL_law 295 = .ok (.if_icmp .eq 174, 3) := by decide +kernel
theorem dL_law_298 : decode cL_law 298 = .ok (.iconst 0, 1) := by decide +kernel
theorem dL_law_299 : decode cL_law 299 = .ok (.ireturn, 1) := by decide +kernel
theorem dL_law_300 : decode cL_law 300 = .ok (.aload_n 1, 1) := by decide +kernel
theorem dL_law_301 : decode cL_law 301 = .ok (.aload_n 0, 1) := by decide +kernel
theorem dL_law_302 : decode cL_law 302 = .ok (.iload_n 3, 1) := by decide +kernel
theorem dL_law_303 : decode cL_law 303 = .ok (.iconst 1, 1) := by decide +kernel
theorem dL_law_304 : decode cL_law 304 = .ok (.iadd, 1) := by decide +kernel
theorem dL_law_305 : decode cL_law 305 = .ok (.iaload, 1) := by decide +kernel
theorem dL_law_306 : decode cL_law 306 = .ok (.aload_n 0, 1) := by decide +kernel
theorem dL_law_307 : decode cL_law 307 = .ok (.iload_n 3, 1) := by decide +kernel
theorem dL_law_308 : decode cL_law 308 = .ok (.iconst 2, 1) := by decide +kernel
theorem dL_law_309 : decode cL_law 309 = .ok (.iadd, 1) := by decide +kernel
theorem dL_law_310 : decode cL_law 310 = .ok (.iaload, 1) := by decide +kernel
theorem dL_law_311 : decode cL_law 311 = .ok (.invokevirtual 41, 3) := by decide +kernel
theorem dL_law_314 : decode cL_law 314 = .ok (.aload_n 2, 1) := by decide +kernel
theorem dL_law_315 : decode cL_law 315 = .ok (.aload_n 0, 1) := by decide +kernel
theorem dL_law_316 : decode cL_law 316 = .ok (.iload_n 3, 1) := by decide +kernel
theorem dL_law_317 : decode cL_law 317 = .ok (.iconst 1, 1) := by decide +kernel
theorem dL_law_318 : decode cL_law 318 = .ok (.iadd, 1) := by decide +kernel
theorem dL_law_319 : decode cL_law 319 = .ok (.iaload, 1) := by decide +kernel
theorem dL_law_320 : decode cL_law 320 = .ok (.aload_n 0, 1) := by decide +kernel
theorem dL_law_321 : decode cL_law 321 = .ok (.iload_n 3, 1) := by decide +kernel
theorem dL_law_322 : decode cL_law 322 = .ok (.iconst 2, 1) := by decide +kernel
theorem dL_law_323 : decode cL_law 323 = .ok (.iadd, 1) := by decide +kernel
theorem dL_law_324 : decode cL_law 324 = .ok (.iaload, 1) := by decide +kernel
theorem dL_law_325 : decode cL_law 325 = .ok (.invokevirtual 44, 3) := by decide +kernel
theorem dL_law_328 : decode cL_law 328 = .ok (.if_icmp .eq 141, 3) := by decide +kernel
theorem dL_law_331 : decode cL_law 331 = .ok (.iconst 0, 1) := by decide +kernel
theorem dL_law_332 : decode cL_law 332 = .ok (.ireturn, 1) := by decide +kernel
theorem dL_law_333 : decode cL_law 333 = .ok (.aload_n 1, 1) := by decide +kernel
theorem dL_law_334 : decode cL_law 334 = .ok (.aload_n 0, 1) := by decide +kernel
theorem dL_law_335 : decode cL_law 335 = .ok (.iload_n 3, 1) := by decide +kernel
theorem dL_law_336 : decode cL_law 336 = .ok (.iconst 1, 1) := by decide +kernel
theorem dL_law_337 : decode cL_law 337 = .ok (.iadd, 1) := by decide +kernel
theorem dL_law_338 : decode cL_law 338 = .ok (.iaload, 1) := by decide +kernel
theorem dL_law_339 : decode cL_law 339 = .ok (.aload_n 0, 1) := by decide +kernel
theorem dL_law_340 : decode cL_law 340 = .ok (.iload_n 3, 1) := by decide +kernel
theorem dL_law_341 : decode cL_law 341 = .ok (.iconst 2, 1) := by decide +kernel
theorem dL_law_342 : decode cL_law 342 = .ok (.iadd, 1) := by decide +kernel
theorem dL_law_343 : decode cL_law 343 = .ok (.iaload, 1) := by decide +kernel
theorem dL_law_344 : decode cL_law 344 = .ok (.invokevirtual 45, 3) := by decide +kernel
theorem dL_law_347 : decode cL_law 347 = .ok (.aload_n 2, 1) := by decide +kernel
theorem dL_law_348 : decode cL_law 348 = .ok (.aload_n 0, 1) := by decide +kernel
theorem dL_law_349 : decode cL_law 349 = .ok (.iload_n 3, 1) := by decide +kernel
theorem dL_law_350 : decode cL_law 350 = .ok (.iconst 1, 1) := by decide +kernel
theorem dL_law_351 : decode cL_law 351 = .ok (.iadd, 1) := by decide +kernel
theorem dL_law_352 : decode cL_law 352 = .ok (.iaload, 1) := by decide +kernel
theorem dL_law_353 : decode cL_law 353 = .ok (.aload_n 0, 1) := by decide +kernel
theorem dL_law_354 : decode cL_law 354 = .ok (.iload_n 3, 1) := by decide +kernel
theorem dL_law_355 : decode cL_law 355 = .ok (.iconst 2, 1) := by decide +kernel
theorem dL_law_356 : decode cL_law 356 = .ok (.iadd, 1) := by decide +kernel
theorem dL_law_357 : decode cL_law 357 = .ok (.iaload, 1) := by decide +kernel
theorem dL_law_358 : decode cL_law 358 = .ok (.invokevirtual 49, 3) := by decide +kernel
theorem dL_law_361 : decode cL_law 361 = .ok (.lcmp, 1) := by decide +kernel
theorem dL_law_362 : decode cL_law 362 = .ok (.ifCond .eq 107, 3) := by decide +kernel
theorem dL_law_365 : decode cL_law 365 = .ok (.iconst 0, 1) := by decide +kernel
theorem dL_law_366 : decode cL_law 366 = .ok (.ireturn, 1) := by decide +kernel
theorem dL_law_367 : decode cL_law 367 = .ok (.aload_n 1, 1) := by decide +kernel
theorem dL_law_368 : decode cL_law 368 = .ok (.aload_n 0, 1) := by decide +kernel
theorem dL_law_369 : decode cL_law 369 = .ok (.iload_n 3, 1) := by decide +kernel
theorem dL_law_370 : decode cL_law 370 = .ok (.iconst 1, 1) := by decide +kernel
theorem dL_law_371 : decode cL_law 371 = .ok (.iadd, 1) := by decide +kernel
theorem dL_law_372 : decode cL_law 372 = .ok (.iaload, 1) := by decide +kernel
theorem dL_law_373 : decode cL_law 373 = .ok (.invokevirtual 50, 3) := by decide +kernel
theorem dL_law_376 : decode cL_law 376 = .ok (.aload_n 2, 1) := by decide +kernel
theorem dL_law_377 : decode cL_law 377 = .ok (.aload_n 0, 1) := by decide +kernel
theorem dL_law_378 : decode cL_law 378 = .ok (.iload_n 3, 1) := by decide +kernel
theorem dL_law_379 : decode cL_law 379 = .ok (.iconst 1, 1) := by decide +kernel
theorem dL_law_380 : decode cL_law 380 = .ok (.iadd, 1) := by decide +kernel
theorem dL_law_381 : decode cL_law 381 = .ok (.iaload, 1) := by decide +kernel
theorem dL_law_382 : decode cL_law 382 = .ok (.invokevirtual 53, 3) := by decide +kernel
theorem dL_law_385 : decode cL_law 385 = .ok (.if_icmp .eq 84, 3) := by decide +kernel
theorem dL_law_388 : decode cL_law 388 = .ok (.iconst 0, 1) := by decide +kernel
theorem dL_law_389 : decode cL_law 389 = .ok (.ireturn, 1) := by decide +kernel
theorem dL_law_390 : decode cL_law 390 = .ok (.aload_n 1, 1) := by decide +kernel
theorem dL_law_391 : decode cL_law 391 = .ok (.aload_n 0, 1) := by decide +kernel
theorem dL_law_392 : decode cL_law 392 = .ok (.iload_n 3, 1) := by decide +kernel
theorem dL_law_393 : decode cL_law 393 = .ok (.iconst 1, 1) := by decide +kernel
theorem dL_law_394 : decode cL_law 394 = .ok (.iadd, 1) := by decide +kernel
theorem dL_law_395 : decode cL_law 395 = .ok (.iaload, 1) := by decide +kernel
theorem dL_law_396 : decode cL_law 396 = .ok (.aload_n 0, 1) := by decide +kernel
theorem dL_law_397 : decode cL_law 397 = .ok (.iload_n 3, 1) := by decide +kernel
theorem dL_law_398 : decode cL_law 398 = .ok (.iconst 2, 1) := by decide +kernel
theorem dL_law_399 : decode cL_law 399 = .ok (.iadd, 1) := by decide +kernel
theorem dL_law_400 : decode cL_law 400 = .ok (.iaload, 1) := by decide +kernel
theorem dL_law_401 : decode cL_law 401 = .ok (.invokevirtual 54, 3) := by decide +kernel
theorem dL_law_404 : decode cL_law 404 = .ok (.aload_n 2, 1) := by decide +kernel
theorem dL_law_405 : decode cL_law 405 = .ok (.aload_n 0, 1) := by decide +kernel
theorem dL_law_406 : decode cL_law 406 = .ok (.iload_n 3, 1) := by decide +kernel
theorem dL_law_407 : decode cL_law 407 = .ok (.iconst 1, 1) := by decide +kernel
theorem dL_law_408 : decode cL_law 408 = .ok (.iadd, 1) := by decide +kernel
theorem dL_law_409 : decode cL_law 409 = .ok (.iaload, 1) := by decide +kernel
theorem dL_law_410 : decode cL_law 410 = .ok (.aload_n 0, 1) := by decide +kernel
theorem dL_law_411 : decode cL_law 411 = .ok (.iload_n 3, 1) := by decide +kernel
theorem dL_law_412 : decode cL_law 412 = .ok (.iconst 2, 1) := by decide +kernel
theorem dL_law_413 : decode cL_law 413 = .ok (.iadd, 1) := by decide +kernel
theorem dL_law_414 : decode cL_law 414 = .ok (.iaload, 1) := by decide +kernel
theorem dL_law_415 : decode cL_law 415 = .ok (.invokevirtual 57, 3) := by decide +kernel
theorem dL_law_418 : decode cL_law 418 = .ok (.if_icmp .eq 51, 3) := by decide +kernel
theorem dL_law_421 : decode cL_law 421 = .ok (.iconst 0, 1) := by decide +kernel
theorem dL_law_422 : decode cL_law 422 = .ok (.ireturn, 1) := by decide +kernel
theorem dL_law_423 : decode cL_law 423 = .ok (.aload_n 1, 1) := by decide +kernel
theorem dL_law_424 : decode cL_law 424 = .ok (.aload_n 0, 1) := by decide +kernel
theorem dL_law_425 : decode cL_law 425 = .ok (.iload_n 3, 1) := by decide +kernel
theorem dL_law_426 : decode cL_law 426 = .ok (.iconst 1, 1) := by decide +kernel
theorem dL_law_427 : decode cL_law 427 = .ok (.iadd, 1) := by decide +kernel
theorem dL_law_428 : decode cL_law 428 = .ok (.iaload, 1) := by decide +kernel
theorem dL_law_429 : decode cL_law 429 = .ok (.invokevirtual 58, 3) := by decide +kernel
theorem dL_law_432 : decode cL_law 432 = .ok (.aload_n 2, 1) := by decide +kernel
theorem dL_law_433 : decode cL_law 433 = .ok (.aload_n 0, 1) := by decide +kernel
theorem dL_law_434 : decode cL_law 434 = .ok (.iload_n 3, 1) := by decide +kernel
theorem dL_law_435 : decode cL_law 435 = .ok (.iconst 1, 1) := by decide +kernel
theorem dL_law_436 : decode cL_law 436 = .ok (.iadd, 1) := by decide +kernel
theorem dL_law_437 : decode cL_law 437 = .ok (.iaload, 1) := by decide +kernel
theorem dL_law_438 : decode cL_law 438 = .ok (.invokevirtual 61, 3) := by decide +kernel
theorem dL_law_441 : decode cL_law 441 = .ok (.if_icmp .eq 28, 3) := by decide +kernel
theorem dL_law_444 : decode cL_law 444 = .ok (.iconst 0, 1) := by decide +kernel
theorem dL_law_445 : decode cL_law 445 = .ok (.ireturn, 1) := by decide +kernel
theorem dL_law_446 : decode cL_law 446 = .ok (.aload_n 1, 1) := by decide +kernel
theorem dL_law_447 : decode cL_law 447 = .ok (.aload_n 0, 1) := by decide +kernel
theorem dL_law_448 : decode cL_law 448 = .ok (.iload_n 3, 1) := by decide +kernel
theorem dL_law_449 : decode cL_law 449 = .ok (.iconst 1, 1) := by decide +kernel
theorem dL_law_450 : decode cL_law 450 = .ok (.iadd, 1) := by decide +kernel
theorem dL_law_451 : decode cL_law 451 = .ok (.iaload, 1) := by decide +kernel
theorem dL_law_452 : decode cL_law 452 = .ok (.invokevirtual 62, 3) := by decide +kernel
theorem dL_law_455 : decode cL_law 455 = .ok (.aload_n 2, 1) := by decide +kernel
theorem dL_law_456 : decode cL_law 456 = .ok (.aload_n 0, 1) := by decide +kernel
theorem dL_law_457 : decode cL_law 457 = .ok (.iload_n 3, 1) := by decide +kernel
theorem dL_law_458 : decode cL_law 458 = .ok (.iconst 1, 1) := by decide +kernel
theorem dL_law_459 : decode cL_law 459 = .ok (.iadd, 1) := by decide +kernel
theorem dL_law_460 : decode cL_law 460 = .ok (.iaload, 1) := by decide +kernel
theorem dL_law_461 : decode cL_law 461 = .ok (.invokevirtual 65, 3) := by decide +kernel
theorem dL_law_464 : decode cL_law 464 = .ok (.if_icmp .eq 5, 3) := by decide +kernel
theorem dL_law_467 : decode cL_law 467 = .ok (.iconst 0, 1) := by decide +kernel
theorem dL_law_468 : decode cL_law 468 = .ok (.ireturn, 1) := by decide +kernel
theorem dL_law_469 : decode cL_law 469 = .ok (.iinc 3 4, 3) := by decide +kernel
theorem dL_law_472 : decode cL_law 472 = .ok (.goto (-454), 3) := by decide +kernel
theorem dL_law_475 : decode cL_law 475 = .ok (.iconst 1, 1) := by decide +kernel
theorem dL_law_476 : decode cL_law 476 = .ok (.ireturn, 1) := by decide +kernel
end
section
theorem dX0_init_0 : decode cX0_init 0 = .ok (.aload_n 0, 1) := by decide +kernel
theorem dX0_init_1 : decode cX0_init 1 = .ok (.invokespecial 5, 3) := by decide +kernel
theorem dX0_init_4 : decode cX0_init 4 = .ok (.aload_n 0, 1) := by decide +kernel
theorem dX0_init_5 : decode cX0_init 5 = .ok (.sipush 4440, 3) := by decide +kernel
theorem dX0_init_8 : decode cX0_init 8 = .ok (.newarray .long, 2) := by decide +kernel
theorem dX0_init_10 : decode cX0_init 10 = .ok (.putfield 11, 3) := by decide +kernel
theorem dX0_init_13 : decode cX0_init 13 = .ok (.aload_n 0, 1) := by decide +kernel
theorem dX0_init_14 : decode cX0_init 14 = .ok (.sipush 164, 3) := by decide +kernel
theorem dX0_init_17 : decode cX0_init 17 = .ok (.newarray .int, 2) := by decide +kernel
theorem dX0_init_19 : decode cX0_init 19 = .ok (.putfield 15, 3) := by decide +kernel
theorem dX0_init_22 : decode cX0_init 22 = .ok (.aload_n 0, 1) := by decide +kernel
theorem dX0_init_23 : decode cX0_init 23 = .ok (.sipush 164, 3) := by decide +kernel
theorem dX0_init_26 : decode cX0_init 26 = .ok (.newarray .int, 2) := by decide +kernel
theorem dX0_init_28 : decode cX0_init 28 = .ok (.putfield 19, 3) := by decide +kernel
theorem dX0_init_31 : decode cX0_init 31 = .ok (.aload_n 0, 1) := by decide +kernel
theorem dX0_init_32 : decode cX0_init 32 = .ok (.sipush 164, 3) := by decide +kernel
theorem dX0_init_35 : decode cX0_init 35 = .ok (.newarray .int, 2) := by decide +kernel
theorem dX0_init_37 : decode cX0_init 37 = .ok (.putfield 22, 3) := by decide +kernel
theorem dX0_init_40 : decode cX0_init 40 = .ok (.aload_n 0, 1) := by decide +kernel
theorem dX0_init_41 : decode cX0_init 41 = .ok (.iconst 5, 1) := by decide +kernel
theorem dX0_init_42 : decode cX0_init 42 = .ok (.newarray .int, 2) := by decide +kernel
theorem dX0_init_44 : decode cX0_init 44 = .ok (.putfield 25, 3) := by decide +kernel
theorem dX0_init_47 : decode cX0_init 47 = .ok (.aload_n 0, 1) := by decide +kernel
theorem dX0_init_48 : decode cX0_init 48 = .ok (.aload_n 1, 1) := by decide +kernel
theorem dX0_init_49 : decode cX0_init 49 = .ok (.putfield 28, 3) := by decide +kernel
theorem dX0_init_52 : decode cX0_init 52 = .ok (.aload_n 0, 1) := by decide +kernel
theorem dX0_init_53 : decode cX0_init 53 = .ok (.aload_n 2, 1) := by decide +kernel
theorem dX0_init_54 : decode cX0_init 54 = .ok (.putfield 32, 3) := by decide +kernel
theorem dX0_init_57 : decode cX0_init 57 = .ok (.aload_n 0, 1) := by decide +kernel
theorem dX0_init_58 : decode cX0_init 58 = .ok (.iconst 0, 1) := by decide +kernel
theorem dX0_init_59 : decode cX0_init 59 = .ok (.putfield 36, 3) := by decide +kernel
theorem dX0_init_62 : decode cX0_init 62 = .ok (.return_, 1) := by decide +kernel
theorem dX0_latest_0 : decode cX0_latest 0 = .ok (.iload_n 1, 1) := by decide +kernel
theorem dX0_latest_1 : decode cX0_latest 1 = .ok (.ifCond .lt 8, 3) := by decide +kernel
theorem dX0_latest_4 : decode cX0_latest 4 = .ok (.iload_n 1, 1) := by decide +kernel
theorem dX0_latest_5 : decode cX0_latest 5 = .ok (.iconst 5, 1) := by decide +kernel
theorem dX0_latest_6 : decode cX0_latest 6 = .ok (.if_icmp .lt 6, 3) := by decide +kernel
theorem dX0_latest_9 : decode cX0_latest 9 = .ok (.bipush (-2), 2) := by decide +kernel
theorem dX0_latest_11 : decode cX0_latest 11 = .ok (.ireturn, 1) := by decide +kernel
theorem dX0_latest_12 : decode cX0_latest 12 = .ok (.aload_n 0, 1) := by decide +kernel
theorem dX0_latest_13 : decode cX0_latest 13 = .ok (.getfield 36, 3) := by decide +kernel
theorem dX0_latest_16 : decode cX0_latest 16 = .ok (.ifCond .eq 12, 3) := by decide +kernel
theorem dX0_latest_19 : decode cX0_latest 19 = .ok (.aload_n 0, 1) := by decide +kernel
theorem dX0_latest_20 : decode cX0_latest 20 = .ok (.getfield 25, 3) := by decide +kernel
theorem dX0_latest_23 : decode cX0_latest 23 = .ok (.iload_n 1, 1) := by decide +kernel
theorem dX0_latest_24 : decode cX0_latest 24 = .ok (.iaload, 1) := by decide +kernel
theorem dX0_latest_25 : decode cX0_latest 25 = .ok (.goto 5, 3) := by decide +kernel
theorem dX0_latest_28 : decode cX0_latest 28 = .ok (.bipush (-3), 2) := by decide +kernel
theorem dX0_latest_30 : decode cX0_latest 30 = .ok (.ireturn, 1) := by decide +kernel
theorem dX0_run_0 : decode cX0_run 0 = .ok (.aload_n 0, 1) := by decide +kernel
theorem dX0_run_1 : decode cX0_run 1 = .ok (.invokevirtual 40, 3) := by decide +kernel
theorem dX0_run_4 : decode cX0_run 4 = .ok (.aload_n 0, 1) := by decide +kernel
theorem dX0_run_5 : decode cX0_run 5 = .ok (.iload_n 1, 1) := by decide +kernel
theorem dX0_run_6 : decode cX0_run 6 = .ok (.iload_n 2, 1) := by decide +kernel
theorem dX0_run_7 : decode cX0_run 7 = .ok (.invokevirtual 43, 3) := by decide +kernel
theorem dX0_run_10 : decode cX0_run 10 = .ok (.istore_n 3, 1) := by decide +kernel
theorem dX0_run_11 : decode cX0_run 11 = .ok (.iconst 0, 1) := by decide +kernel
theorem dX0_run_12 : decode cX0_run 12 = .ok (.istore 4, 2) := by decide +kernel
theorem dX0_run_14 : decode cX0_run 14 = .ok (.iload 4, 2) := by decide +kernel
theorem dX0_run_16 : decode cX0_run 16 = .ok (.ldc 47, 2) := by decide +kernel
theorem dX0_run_18 : decode cX0_run 18 = .ok (.if_icmp .ge 40, 3) := by decide +kernel
theorem dX0_run_21 : decode cX0_run 21 = .ok (.aload_n 0, 1) := by decide +kernel
theorem dX0_run_22 : decode cX0_run 22 = .ok (.getfield 48, 3) := by decide +kernel
theorem dX0_run_25 : decode cX0_run 25 = .ok (.ifCond .le 33, 3) := by decide +kernel
theorem dX0_run_28 : decode cX0_run 28 = .ok (.iload_n 3, 1) := by decide +kernel
theorem dX0_run_29 : decode cX0_run 29 = .ok (.bipush (-6), 2) := by decide +kernel
theorem dX0_run_31 : decode cX0_run 31 = .ok (.if_icmp .eq 27, 3) := by decide +kernel
theorem dX0_run_34 : decode cX0_run 34 = .ok (.iload_n 3, 1) := by decide +kernel
theorem dX0_run_35 : decode cX0_run 35 = .ok (.iconst 2, 1) := by decide +kernel
theorem dX0_run_36 : decode cX0_run 36 = .ok (.if_icmp .ne 10, 3) := by decide +kernel
theorem dX0_run_39 : decode cX0_run 39 = .ok (.aload_n 0, 1) := by decide +kernel
theorem dX0_run_40 : decode cX0_run 40 = .ok (.invokevirtual 52, 3) := by decide +kernel
theorem dX0_run_43 : decode cX0_run 43 = .ok (.goto 8, 3) := by decide +kernel
theorem dX0_run_46 : decode cX0_run 46 = .ok (.aload_n 0, 1) := by decide +kernel
theorem dX0_run_47 : decode cX0_run 47 = .ok (.iload_n 3, 1) := by decide +kernel
theorem dX0_run_48 : decode cX0_run 48 = .ok (.invokevirtual 56, 3) := by decide +kernel
theorem dX0_run_51 : decode cX0_run 51 = .ok (.istore_n 3, 1) := by decide +kernel
theorem dX0_run_52 : decode cX0_run 52 = .ok (.iinc 4 1, 3) := by decide +kernel
theorem dX0_run_55 : decode cX0_run 55 = .ok (.goto (-41), 3) := by decide +kernel
theorem dX0_run_58 : decode cX0_run 58 = .ok (.aload_n 0, 1) := by decide +kernel
theorem dX0_run_59 : decode cX0_run 59 = .ok (.getfield 28, 3) := by decide +kernel
theorem dX0_run_62 : decode cX0_run 62 = .ok (.invokevirtual 60, 3) := by decide +kernel
theorem dX0_run_65 : decode cX0_run 65 = .ok (.aload_n 0, 1) := by decide +kernel
theorem dX0_run_66 : decode cX0_run 66 = .ok (.getfield 48, 3) := by decide +kernel
theorem dX0_run_69 : decode cX0_run 69 = .ok (.ifCond .gt 9, 3) := by decide +kernel
theorem dX0_run_72 : decode cX0_run 72 = .ok (.iload_n 3, 1) := by decide +kernel
theorem dX0_run_73 : decode cX0_run 73 = .ok (.bipush (-6), 2) := by decide +kernel
theorem dX0_run_75 : decode cX0_run 75 = .ok (.if_icmp .ne 6, 3) := by decide +kernel
theorem dX0_run_78 : decode cX0_run 78 = .ok (.bipush (-6), 2) := by decide +kernel
theorem dX0_run_80 : decode cX0_run 80 = .ok (.ireturn, 1) := by decide +kernel
theorem dX0_run_81 : decode cX0_run 81 = .ok (.aload_n 0, 1) := by decide +kernel
theorem dX0_run_82 : decode cX0_run 82 = .ok (.iload_n 3, 1) := by decide +kernel
theorem dX0_run_83 : decode cX0_run 83 = .ok (.invokevirtual 65, 3) := by decide +kernel
theorem dX0_run_86 : decode cX0_run 86 = .ok (.iload_n 3, 1) := by decide +kernel
theorem dX0_run_87 : decode cX0_run 87 = .ok (.ireturn, 1) := by decide +kernel
theorem dX0_start_0 : decode cX0_start 0 = .ok (.aload_n 0, 1) := by decide +kernel
theorem dX0_start_1 : decode cX0_start 1 = .ok (.getfield 28, 3) := by decide +kernel
theorem dX0_start_4 : decode cX0_start 4 = .ok (.invokevirtual 60, 3) := by decide +kernel
theorem dX0_start_7 : decode cX0_start 7 = .ok (.aload_n 0, 1) := by decide +kernel
theorem dX0_start_8 : decode cX0_start 8 = .ok (.getfield 11, 3) := by decide +kernel
theorem dX0_start_11 : decode cX0_start 11 = .ok (.lconst 0, 1) := by decide +kernel
theorem dX0_start_12 : decode cX0_start 12 = .ok (.invokestatic 69, 3) := by decide +kernel
theorem dX0_start_15 : decode cX0_start 15 = .ok (.aload_n 0, 1) := by decide +kernel
theorem dX0_start_16 : decode cX0_start 16 = .ok (.iconst 0, 1) := by decide +kernel
theorem dX0_start_17 : decode cX0_start 17 = .ok (.putfield 48, 3) := by decide +kernel
theorem dX0_start_20 : decode cX0_start 20 = .ok (.aload_n 0, 1) := by decide +kernel
theorem dX0_start_21 : decode cX0_start 21 = .ok (.iconst 0, 1) := by decide +kernel
theorem dX0_start_22 : decode cX0_start 22 = .ok (.putfield 75, 3) := by decide +kernel
theorem dX0_start_25 : decode cX0_start 25 = .ok (.aload_n 0, 1) := by decide +kernel
theorem dX0_start_26 : decode cX0_start 26 = .ok (.iconst 0, 1) := by decide +kernel
theorem dX0_start_27 : decode cX0_start 27 = .ok (.putfield 78, 3) := by decide +kernel
theorem dX0_start_30 : decode cX0_start 30 = .ok (.aload_n 0, 1) := by decide +kernel
theorem dX0_start_31 : decode cX0_start 31 = .ok (.bipush (-9), 2) := by decide +kernel
theorem dX0_start_33 : decode cX0_start 33 = .ok (.putfield 81, 3) := by decide +kernel
theorem dX0_start_36 : decode cX0_start 36 = .ok (.aload_n 0, 1) := by decide +kernel
theorem dX0_start_37 : decode cX0_start 37 = .ok (.bipush (-9), 2) := by decide +kernel
theorem dX0_start_39 : decode cX0_start 39 = .ok (.putfield 84, 3) := by decide +kernel
theorem dX0_start_42 : decode cX0_start 42 = .ok (.return_, 1) := by decide +kernel
theorem dX0_keep_0 : decode cX0_keep 0 = .ok (.aload_n 0, 1) := by decide +kernel
theorem dX0_keep_1 : decode cX0_keep 1 = .ok (.getfield 25, 3) := by decide +kernel
theorem dX0_keep_4 : decode cX0_keep 4 = .ok (.iconst 0, 1) := by decide +kernel
theorem dX0_keep_5 : decode cX0_keep 5 = .ok (.aload_n 0, 1) := by decide +kernel
theorem dX0_keep_6 : decode cX0_keep 6 = .ok (.getfield 75, 3) := by decide +kernel
theorem dX0_keep_9 : decode cX0_keep 9 = .ok (.iastore, 1) := by decide +kernel
theorem dX0_keep_10 : decode cX0_keep 10 = .ok (.aload_n 0, 1) := by decide +kernel
theorem dX0_keep_11 : decode cX0_keep 11 = .ok (.getfield 25, 3) := by decide +kernel
theorem dX0_keep_14 : decode cX0_keep 14 = .ok (.iconst 1, 1) := by decide +kernel
theorem dX0_keep_15 : decode cX0_keep 15 = .ok (.aload_n 0, 1) := by decide +kernel
theorem dX0_keep_16 : decode cX0_keep 16 = .ok (.getfield 78, 3) := by decide +kernel
theorem dX0_keep_19 : decode cX0_keep 19 = .ok (.iastore, 1) := by decide +kernel
theorem dX0_keep_20 : decode cX0_keep 20 = .ok (.aload_n 0, 1) := by decide +kernel
theorem dX0_keep_21 : decode cX0_keep 21 = .ok (.getfield 25, 3) := by decide +kernel
theorem dX0_keep_24 : decode cX0_keep 24 = .ok (.iconst 2, 1) := by decide +kernel
theorem dX0_keep_25 : decode cX0_keep 25 = .ok (.iload_n 1, 1) := by decide +kernel
theorem dX0_keep_26 : decode cX0_keep 26 = .ok (.iconst 1, 1) := by decide +kernel
theorem dX0_keep_27 : decode cX0_keep 27 = .ok (.if_icmp .ne 8, 3) := by decide +kernel
theorem dX0_keep_30 : decode cX0_keep 30 = .ok (.bipush (-9), 2) := by decide +kernel
theorem dX0_keep_32 : decode cX0_keep 32 = .ok (.goto 7, 3) := by decide +kernel
theorem dX0_keep_35 : decode cX0_keep 35 = .ok (.aload_n 0, 1) := by decide +kernel
theorem dX0_keep_36 : decode cX0_keep 36 = .ok (.getfield 81, 3) := by decide +kernel
theorem dX0_keep_39 : decode cX0_keep 39 = .ok (.iastore, 1) := by decide +kernel
theorem dX0_keep_40 : decode cX0_keep 40 = .ok (.aload_n 0, 1) := by decide +kernel
theorem dX0_keep_41 : decode cX0_keep 41 = .ok (.getfield 25, 3) := by decide +kernel
theorem dX0_keep_44 : decode cX0_keep 44 = .ok (.iconst 3, 1) := by decide +kernel
theorem dX0_keep_45 : decode cX0_keep 45 = .ok (.iload_n 1, 1) := by decide +kernel
theorem dX0_keep_46 : decode cX0_keep 46 = .ok (.iconst 1, 1) := by decide +kernel
theorem dX0_keep_47 : decode cX0_keep 47 = .ok (.if_icmp .ne 8, 3) := by decide +kernel
theorem dX0_keep_50 : decode cX0_keep 50 = .ok (.bipush (-9), 2) := by decide +kernel
theorem dX0_keep_52 : decode cX0_keep 52 = .ok (.goto 7, 3) := by decide +kernel
theorem dX0_keep_55 : decode cX0_keep 55 = .ok (.aload_n 0, 1) := by decide +kernel
theorem dX0_keep_56 : decode cX0_keep 56 = .ok (.getfield 84, 3) := by decide +kernel
theorem dX0_keep_59 : decode cX0_keep 59 = .ok (.iastore, 1) := by decide +kernel
theorem dX0_keep_60 : decode cX0_keep 60 = .ok (.aload_n 0, 1) := by decide +kernel
theorem dX0_keep_61 : decode cX0_keep 61 = .ok (.getfield 25, 3) := by decide +kernel
theorem dX0_keep_64 : decode cX0_keep 64 = .ok (.iconst 4, 1) := by decide +kernel
theorem dX0_keep_65 : decode cX0_keep 65 = .ok (.iload_n 1, 1) := by decide +kernel
theorem dX0_keep_66 : decode cX0_keep 66 = .ok (.iastore, 1) := by decide +kernel
theorem dX0_keep_67 : decode cX0_keep 67 = .ok (.aload_n 0, 1) := by decide +kernel
theorem dX0_keep_68 : decode cX0_keep 68 = .ok (.iconst 1, 1) := by decide +kernel
theorem dX0_keep_69 : decode cX0_keep 69 = .ok (.putfield 36, 3) := by decide +kernel
theorem dX0_keep_72 : decode cX0_keep 72 = .ok (.return_, 1) := by decide +kernel
theorem dX0_meet_0 : decode cX0_meet 0 = .ok (.aload_n 0, 1) := by decide +kernel
theorem dX0_meet_1 : decode cX0_meet 1 = .ok (.getfield 28, 3) := by decide +kernel
theorem dX0_meet_4 : decode cX0_meet 4 = .ok (.iload_n 1, 1) := by decide +kernel
theorem dX0_meet_5 : decode cX0_meet 5 = .ok (.invokevirtual 87, 3) := by decide +kernel
theorem dX0_meet_8 : decode cX0_meet 8 = .ok (.ifCond .eq 14, 3) := by decide +kernel
theorem dX0_meet_11 : decode cX0_meet 11 = .ok (.aload_n 0, 1) := by decide +kernel
theorem dX0_meet_12 : decode cX0_meet 12 = .ok (.getfield 28, 3) := by decide +kernel
theorem dX0_meet_15 : decode cX0_meet 15 = .ok (.iload_n 2, 1) := by decide +kernel
theorem dX0_meet_16 : decode cX0_meet 16 = .ok (.invokevirtual 87, 3) := by decide +kernel
theorem dX0_meet_19 : decode cX0_meet 19 = .ok (.ifCond .ne 6, 3) := by decide +kernel
theorem dX0_meet_22 : decode cX0_meet 22 = .ok (.bipush (-6), 2) := by decide +kernel
theorem dX0_meet_24 : decode cX0_meet 24 = .ok (.ireturn, 1) := by decide +kernel
theorem dX0_meet_25 : decode cX0_meet 25 = .ok (.iload_n 1, 1) := by decide +kernel
theorem dX0_meet_26 : decode cX0_meet 26 = .ok (.iload_n 2, 1) := by decide +kernel
theorem dX0_meet_27 : decode cX0_meet 27 = .ok (.if_icmp .ne 5, 3) := by decide +kernel
theorem dX0_meet_30 : decode cX0_meet 30 = .ok (.iconst 1, 1) := by decide +kernel
theorem dX0_meet_31 : decode cX0_meet 31 = .ok (.ireturn, 1) := by decide +kernel
theorem dX0_meet_32 : decode cX0_meet 32 = .ok (.aload_n 0, 1) := by decide +kernel
theorem dX0_meet_33 : decode cX0_meet 33 = .ok (.iload_n 1, 1) := by decide +kernel
theorem dX0_meet_34 : decode cX0_meet 34 = .ok (.iload_n 2, 1) := by decide +kernel
theorem dX0_meet_35 : decode cX0_meet 35 = .ok (.invokevirtual 91, 3) := by decide +kernel
theorem dX0_meet_38 : decode cX0_meet 38 = .ok (.istore_n 3, 1) := by decide +kernel
theorem dX0_meet_39 : decode cX0_meet 39 = .ok (.iload_n 3, 1) := by decide +kernel
theorem dX0_meet_40 : decode cX0_meet 40 = .ok (.iconst 2, 1) := by decide +kernel
theorem dX0_meet_41 : decode cX0_meet 41 = .ok (.if_icmp .eq 5, 3) := by decide +kernel
theorem dX0_meet_44 : decode cX0_meet 44 = .ok (.iload_n 3, 1) := by decide +kernel
theorem dX0_meet_45 : decode cX0_meet 45 = .ok (.ireturn, 1) := by decide +kernel
theorem dX0_meet_46 : decode cX0_meet 46 = .ok (.aload_n 0, 1) := by decide +kernel
theorem dX0_meet_47 : decode cX0_meet 47 = .ok (.getfield 48, 3) := by decide +kernel
theorem dX0_meet_50 : decode cX0_meet 50 = .ok (.sipush 164, 3) := by decide +kernel
theorem dX0_meet_53 : decode cX0_meet 53 = .ok (.if_icmp .lt 6, 3) := by decide +kernel
theorem dX0_meet_56 : decode cX0_meet 56 = .ok (.bipush (-6), 2) := by decide +kernel
theorem dX0_meet_58 : decode cX0_meet 58 = .ok (.ireturn, 1) := by decide +kernel
theorem dX0_meet_59 : decode cX0_meet 59 = .ok (.aload_n 0, 1) := by decide +kernel
theorem dX0_meet_60 : decode cX0_meet 60 = .ok (.getfield 15, 3) := by decide +kernel
theorem dX0_meet_63 : decode cX0_meet 63 = .ok (.aload_n 0, 1) := by decide +kernel
theorem dX0_meet_64 : decode cX0_meet 64 = .ok (.getfield 48, 3) := by decide +kernel
theorem dX0_meet_67 : decode cX0_meet 67 = .ok (.iload_n 1, 1) := by decide +kernel
theorem dX0_meet_68 : decode cX0_meet 68 = .ok (.iastore, 1) := by decide +kernel
theorem dX0_meet_69 : decode cX0_meet 69 = .ok (.aload_n 0, 1) := by decide +kernel
theorem dX0_meet_70 : decode cX0_meet 70 = .ok (.getfield 19, 3) := by decide +kernel
theorem dX0_meet_73 : decode cX0_meet 73 = .ok (.aload_n 0, 1) := by decide +kernel
theorem dX0_meet_74 : decode cX0_meet 74 = .ok (.getfield 48, 3) := by decide +kernel
theorem dX0_meet_77 : decode cX0_meet 77 = .ok (.iload_n 2, 1) := by decide +kernel
theorem dX0_meet_78 : decode cX0_meet 78 = .ok (.iastore, 1) := by decide +kernel
theorem dX0_meet_79 : decode cX0_meet 79 = .ok (.aload_n 0, 1) := by decide +kernel
theorem dX0_meet_80 : decode cX0_meet 80 = .ok (.dup, 1) := by decide +kernel
theorem dX0_meet_81 : decode cX0_meet 81 = .ok (.getfield 48, 3) := by decide +kernel
theorem dX0_meet_84 : decode cX0_meet 84 = .ok (.iconst 1, 1) := by decide +kernel
theorem dX0_meet_85 : decode cX0_meet 85 = .ok (.iadd, 1) := by decide +kernel
theorem dX0_meet_86 : decode cX0_meet 86 = .ok (.putfield 48, 3) := by decide +kernel
theorem dX0_meet_89 : decode cX0_meet 89 = .ok (.aload_n 0, 1) := by decide +kernel
theorem dX0_meet_90 : decode cX0_meet 90 = .ok (.dup, 1) := by decide +kernel
theorem dX0_meet_91 : decode cX0_meet 91 = .ok (.getfield 78, 3) := by decide +kernel
theorem dX0_meet_94 : decode cX0_meet 94 = .ok (.iconst 1, 1) := by decide +kernel
theorem dX0_meet_95 : decode cX0_meet 95 = .ok (.iadd, 1) := by decide +kernel
theorem dX0_meet_96 : decode cX0_meet 96 = .ok (.putfield 78, 3) := by decide +kernel
theorem dX0_meet_99 : decode cX0_meet 99 = .ok (.iconst 2, 1) := by decide +kernel
theorem dX0_meet_100 : decode cX0_meet 100 = .ok (.ireturn, 1) := by decide +kernel
theorem dX0_begin_0 : decode cX0_begin 0 = .ok (.aload_n 0, 1) := by decide +kernel
theorem dX0_begin_1 : decode cX0_begin 1 = .ok (.getfield 28, 3) := by decide +kernel
theorem dX0_begin_4 : decode cX0_begin 4 = .ok (.aload_n 0, 1) := by decide +kernel
theorem dX0_begin_5 : decode cX0_begin 5 = .ok (.invokevirtual 94, 3) := by decide +kernel
theorem dX0_begin_8 : decode cX0_begin 8 = .ok (.invokevirtual 97, 3) := by decide +kernel
theorem dX0_begin_11 : decode cX0_begin 11 = .ok (.istore_n 1, 1) := by decide +kernel
theorem dX0_begin_12 : decode cX0_begin 12 = .ok (.aload_n 0, 1) := by decide +kernel
theorem dX0_begin_13 : decode cX0_begin 13 = .ok (.getfield 28, 3) := by decide +kernel
theorem dX0_begin_16 : decode cX0_begin 16 = .ok (.aload_n 0, 1) := by decide +kernel
theorem dX0_begin_17 : decode cX0_begin 17 = .ok (.invokevirtual 100, 3) := by decide +kernel
theorem dX0_begin_20 : decode cX0_begin 20 = .ok (.invokevirtual 97, 3) := by decide +kernel
theorem dX0_begin_23 : decode cX0_begin 23 = .ok (.istore_n 2, 1) := by decide +kernel
theorem dX0_begin_24 : decode cX0_begin 24 = .ok (.iload_n 1, 1) := by decide +kernel
theorem dX0_begin_25 : decode cX0_begin 25 = .ok (.iload_n 2, 1) := by decide +kernel
theorem dX0_begin_26 : decode cX0_begin 26 = .ok (.if_icmp .ne 9, 3) := by decide +kernel
theorem dX0_begin_29 : decode cX0_begin 29 = .ok (.aload_n 0, 1) := by decide +kernel
theorem dX0_begin_30 : decode cX0_begin 30 = .ok (.iconst 0, 1) := by decide +kernel
theorem dX0_begin_31 : decode cX0_begin 31 = .ok (.invokevirtual 103, 3) := by decide +kernel
theorem dX0_begin_34 : decode cX0_begin 34 = .ok (.ireturn, 1) := by decide +kernel
theorem dX0_begin_35 : decode cX0_begin 35 = .ok (.aload_n 0, 1) := by decide +kernel
theorem dX0_begin_36 : decode cX0_begin 36 = .ok (.getfield 32, 3) := by decide +kernel
theorem dX0_begin_39 : decode cX0_begin 39 = .ok (.iload_n 1, 1) := by decide +kernel
theorem dX0_begin_40 : decode cX0_begin 40 = .ok (.invokevirtual 106, 3) := by decide +kernel
theorem dX0_begin_43 : decode cX0_begin 43 = .ok (.istore_n 3, 1) := by decide +kernel
theorem dX0_begin_44 : decode cX0_begin 44 = .ok (.aload_n 0, 1) := by decide +kernel
theorem dX0_begin_45 : decode cX0_begin 45 = .ok (.getfield 32, 3) := by decide +kernel
theorem dX0_begin_48 : decode cX0_begin 48 = .ok (.iload_n 2, 1) := by decide +kernel
theorem dX0_begin_49 : decode cX0_begin 49 = .ok (.invokevirtual 106, 3) := by decide +kernel
theorem dX0_begin_52 : decode cX0_begin 52 = .ok (.istore 4, 2) := by decide +kernel
theorem dX0_begin_54 : decode cX0_begin 54 = .ok (.iload_n 3, 1) := by decide +kernel
theorem dX0_begin_55 : decode cX0_begin 55 = .ok (.ifCond .gt 8, 3) := by decide +kernel
theorem dX0_begin_58 : decode cX0_begin 58 = .ok (.iload 4, 2) := by decide +kernel
theorem dX0_begin_60 : decode cX0_begin 60 = .ok (.ifCond .le 30, 3) := by decide +kernel
theorem dX0_begin_63 : decode cX0_begin 63 = .ok (.aload_n 0, 1) := by decide +kernel
theorem dX0_begin_64 : decode cX0_begin 64 = .ok (.iload_n 3, 1) := by decide +kernel
theorem dX0_begin_65 : decode cX0_begin 65 = .ok (.iload 4, 2) := by decide +kernel
theorem dX0_begin_67 : decode cX0_begin 67 = .ok (.if_icmp .lt 7, 3) := by decide +kernel
theorem dX0_begin_70 : decode cX0_begin 70 = .ok (.iconst 1, 1) := by decide +kernel
theorem dX0_begin_71 : decode cX0_begin 71 = .ok (.goto 4, 3) := by decide +kernel
theorem dX0_begin_74 : decode cX0_begin 74 = .ok (.iconst 0, 1) := by decide +kernel
theorem dX0_begin_75 : decode cX0_begin 75 = .ok (.iload 4, 2) := by decide +kernel
theorem dX0_begin_77 : decode cX0_begin 77 = .ok (.iload_n 3, 1) := by decide +kernel
theorem dX0_begin_78 : decode cX0_begin 78 = .ok (.if_icmp .lt 7, 3) := by decide +kernel
theorem dX0_begin_81 : decode cX0_begin 81 = .ok (.iconst 1, 1) := by decide +kernel
theorem dX0_begin_82 : decode cX0_begin 82 = .ok (.goto 4, 3) := by decide +kernel
theorem dX0_begin_85 : decode cX0_begin 85 = .ok (.iconst 0, 1) := by decide +kernel
theorem dX0_begin_86 : decode cX0_begin 86 = .ok (.invokevirtual 111, 3) := by decide +kernel
theorem dX0_begin_89 : decode cX0_begin 89 = .ok (.ireturn, 1) := by decide +kernel
theorem dX0_begin_90 : decode cX0_begin 90 = .ok (.aload_n 0, 1) := by decide +kernel
theorem dX0_begin_91 : decode cX0_begin 91 = .ok (.iload_n 1, 1) := by decide +kernel
theorem dX0_begin_92 : decode cX0_begin 92 = .ok (.putfield 81, 3) := by decide +kernel
theorem dX0_begin_95 : decode cX0_begin 95 = .ok (.aload_n 0, 1) := by decide +kernel
theorem dX0_begin_96 : decode cX0_begin 96 = .ok (.iload_n 2, 1) := by decide +kernel
theorem dX0_begin_97 : decode cX0_begin 97 = .ok (.putfield 84, 3) := by decide +kernel
theorem dX0_begin_100 : decode cX0_begin 100 = .ok (.aload_n 0, 1) := by decide +kernel
theorem dX0_begin_101 : decode cX0_begin 101 = .ok (.iconst 0, 1) := by decide +kernel
theorem dX0_begin_102 : decode cX0_begin 102 = .ok (.invokevirtual 115, 3) := by decide +kernel
theorem dX0_begin_105 : decode cX0_begin 105 = .ok (.ireturn, 1) := by decide +kernel
theorem dX0_goOn_0 : decode cX0_goOn 0 = .ok (.aload_n 0, 1) := by decide +kernel
theorem dX0_goOn_1 : decode cX0_goOn 1 = .ok (.invokevirtual 118, 3) := by decide +kernel
theorem dX0_goOn_4 : decode cX0_goOn 4 = .ok (.istore_n 2, 1) := by decide +kernel
theorem dX0_goOn_5 : decode cX0_goOn 5 = .ok (.iload_n 2, 1) := by decide +kernel
theorem dX0_goOn_6 : decode cX0_goOn 6 = .ok (.iconst 2, 1) := by decide +kernel
theorem dX0_goOn_7 : decode cX0_goOn 7 = .ok (.if_icmp .ne 9, 3) := by decide +kernel
theorem dX0_goOn_10 : decode cX0_goOn 10 = .ok (.aload_n 0, 1) := by decide +kernel
theorem dX0_goOn_11 : decode cX0_goOn 11 = .ok (.iload_n 1, 1) := by decide +kernel
theorem dX0_goOn_12 : decode cX0_goOn 12 = .ok (.invokevirtual 115, 3) := by decide +kernel
theorem dX0_goOn_15 : decode cX0_goOn 15 = .ok (.ireturn, 1) := by decide +kernel
theorem dX0_goOn_16 : decode cX0_goOn 16 = .ok (.aload_n 0, 1) := by decide +kernel
theorem dX0_goOn_17 : decode cX0_goOn 17 = .ok (.getfield 28, 3) := by decide +kernel
theorem dX0_goOn_20 : decode cX0_goOn 20 = .ok (.aload_n 0, 1) := by decide +kernel
theorem dX0_goOn_21 : decode cX0_goOn 21 = .ok (.invokevirtual 94, 3) := by decide +kernel
theorem dX0_goOn_24 : decode cX0_goOn 24 = .ok (.invokevirtual 97, 3) := by decide +kernel
theorem dX0_goOn_27 : decode cX0_goOn 27 = .ok (.istore_n 3, 1) := by decide +kernel
theorem dX0_goOn_28 : decode cX0_goOn 28 = .ok (.iload_n 1, 1) := by decide +kernel
theorem dX0_goOn_29 : decode cX0_goOn 29 = .ok (.ifCond .ne 29, 3) := by decide +kernel
theorem dX0_goOn_32 : decode cX0_goOn 32 = .ok (.aload_n 0, 1) := by decide +kernel
theorem dX0_goOn_33 : decode cX0_goOn 33 = .ok (.getfield 32, 3) := by decide +kernel
theorem dX0_goOn_36 : decode cX0_goOn 36 = .ok (.iload_n 3, 1) := by decide +kernel
theorem dX0_goOn_37 : decode cX0_goOn 37 = .ok (.invokevirtual 121, 3) := by decide +kernel
theorem dX0_goOn_40 : decode cX0_goOn 40 = .ok (.ifCond .eq 12, 3) := by decide +kernel
theorem dX0_goOn_43 : decode cX0_goOn 43 = .ok (.aload_n 0, 1) := by decide +kernel
theorem dX0_goOn_44 : decode cX0_goOn 44 = .ok (.iconst 1, 1) := by decide +kernel
theorem dX0_goOn_45 : decode cX0_goOn 45 = .ok (.iconst 1, 1) := by decide +kernel
theorem dX0_goOn_46 : decode cX0_goOn 46 = .ok (.invokevirtual 111, 3) := by decide +kernel
theorem dX0_goOn_49 : decode cX0_goOn 49 = .ok (.goto 8, 3) := by decide +kernel
theorem dX0_goOn_52 : decode cX0_goOn 52 = .ok (.aload_n 0, 1) := by decide +kernel
theorem dX0_goOn_53 : decode cX0_goOn 53 = .ok (.iconst 0, 1) := by decide +kernel
theorem dX0_goOn_54 : decode cX0_goOn 54 = .ok (.invokevirtual 115, 3) := by decide +kernel
theorem dX0_goOn_57 : decode cX0_goOn 57 = .ok (.ireturn, 1) := by decide +kernel
theorem dX0_goOn_58 : decode cX0_goOn 58 = .ok (.iload_n 2, 1) := by decide +kernel
theorem dX0_goOn_59 : decode cX0_goOn 59 = .ok (.iconst 1, 1) := by decide +kernel
theorem dX0_goOn_60 : decode cX0_goOn 60 = .ok (.iadd, 1) := by decide +kernel
theorem dX0_goOn_61 : decode cX0_goOn 61 = .ok (.aload_n 0, 1) := by decide +kernel
theorem dX0_goOn_62 : decode cX0_goOn 62 = .ok (.getfield 32, 3) := by decide +kernel
theorem dX0_goOn_65 : decode cX0_goOn 65 = .ok (.iload_n 3, 1) := by decide +kernel
theorem dX0_goOn_66 : decode cX0_goOn 66 = .ok (.invokevirtual 124, 3) := by decide +kernel
theorem dX0_goOn_69 : decode cX0_goOn 69 = .ok (.if_icmp .ge 13, 3) := by decide +kernel
theorem dX0_goOn_72 : decode cX0_goOn 72 = .ok (.aload_n 0, 1) := by decide +kernel
theorem dX0_goOn_73 : decode cX0_goOn 73 = .ok (.iload_n 2, 1) := by decide +kernel
theorem dX0_goOn_74 : decode cX0_goOn 74 = .ok (.iconst 1, 1) := by decide +kernel
theorem dX0_goOn_75 : decode cX0_goOn 75 = .ok (.iadd, 1) := by decide +kernel
theorem dX0_goOn_76 : decode cX0_goOn 76 = .ok (.invokevirtual 103, 3) := by decide +kernel
theorem dX0_goOn_79 : decode cX0_goOn 79 = .ok (.goto 8, 3) := by decide +kernel
theorem dX0_goOn_82 : decode cX0_goOn 82 = .ok (.aload_n 0, 1) := by decide +kernel
theorem dX0_goOn_83 : decode cX0_goOn 83 = .ok (.iconst 1, 1) := by decide +kernel
theorem dX0_goOn_84 : decode cX0_goOn 84 = .ok (.invokevirtual 115, 3) := by decide +kernel
theorem dX0_goOn_87 : decode cX0_goOn 87 = .ok (.ireturn, 1) := by decide +kernel
theorem dX0_meetParts_0 : decode cX0_meetParts 0 = .ok (.aload_n 0, 1) := by decide +kernel
theorem dX0_meetParts_1 : decode cX0_meetParts 1 = .ok (.iload_n 1, 1) := by decide +kernel
theorem dX0_meetParts_2 : decode cX0_meetParts 2 = .ok (.invokevirtual 127, 3) := by decide +kernel
theorem dX0_meetParts_5 : decode cX0_meetParts 5 = .ok (.aload_n 0, 1) := by decide +kernel
theorem dX0_meetParts_6 : decode cX0_meetParts 6 = .ok (.aload_n 0, 1) := by decide +kernel
theorem dX0_meetParts_7 : decode cX0_meetParts 7 = .ok (.getfield 28, 3) := by decide +kernel
theorem dX0_meetParts_10 : decode cX0_meetParts 10 = .ok (.aload_n 0, 1) := by decide +kernel
theorem dX0_meetParts_11 : decode cX0_meetParts 11 = .ok (.invokevirtual 94, 3) := by decide +kernel
theorem dX0_meetParts_14 : decode cX0_meetParts 14 = .ok (.iload_n 1, 1) := by decide +kernel
theorem dX0_meetParts_15 : decode cX0_meetParts 15 = .ok (.invokevirtual 130, 3) := by decide +kernel
theorem dX0_meetParts_18 : decode cX0_meetParts 18 = .ok (.aload_n 0, 1) := by decide +kernel
theorem dX0_meetParts_19 : decode cX0_meetParts 19 = .ok (.getfield 28, 3) := by decide +kernel
theorem dX0_meetParts_22 : decode cX0_meetParts 22 = .ok (.aload_n 0, 1) := by decide +kernel
theorem dX0_meetParts_23 : decode cX0_meetParts 23 = .ok (.invokevirtual 100, 3) := by decide +kernel
theorem dX0_meetParts_26 : decode cX0_meetParts 26 = .ok (.iload_n 1, 1) := by decide +kernel
theorem dX0_meetParts_27 : decode cX0_meetParts 27 = .ok (.invokevirtual 130, 3) := by decide +kernel
theorem dX0_meetParts_30 : decode cX0_meetParts 30 = .ok (.invokevirtual 43, 3) := by decide +kernel
theorem dX0_meetParts_33 : decode cX0_meetParts 33 = .ok (.ireturn, 1) := by decide +kernel
theorem dX0_unfold_0 : decode cX0_unfold 0 = .ok (.iload_n 1, 1) := by decide +kernel
theorem dX0_unfold_1 : decode cX0_unfold 1 = .ok (.ifCond .eq 11, 3) := by decide +kernel
theorem dX0_unfold_4 : decode cX0_unfold 4 = .ok (.iload_n 2, 1) := by decide +kernel
theorem dX0_unfold_5 : decode cX0_unfold 5 = .ok (.ifCond .eq 7, 3) := by decide +kernel
theorem dX0_unfold_8 : decode cX0_unfold 8 = .ok (.iconst 2, 1) := by decide +kernel
theorem dX0_unfold_9 : decode cX0_unfold 9 = .ok (.goto 4, 3) := by decide +kernel
theorem dX0_unfold_12 : decode cX0_unfold 12 = .ok (.iconst 1, 1) := by decide +kernel
theorem dX0_unfold_13 : decode cX0_unfold 13 = .ok (.istore_n 3, 1) := by decide +kernel
theorem dX0_unfold_14 : decode cX0_unfold 14 = .ok (.aload_n 0, 1) := by decide +kernel
theorem dX0_unfold_15 : decode cX0_unfold 15 = .ok (.getfield 75, 3) := by decide +kernel
theorem dX0_unfold_18 : decode cX0_unfold 18 = .ok (.iload_n 3, 1) := by decide +kernel
theorem dX0_unfold_19 : decode cX0_unfold 19 = .ok (.iadd, 1) := by decide +kernel
theorem dX0_unfold_20 : decode cX0_unfold 20 = .ok (.bipush 40, 2) := by decide +kernel
theorem dX0_unfold_22 : decode cX0_unfold 22 = .ok (.if_icmp .le 6, 3) := by decide +kernel
theorem dX0_unfold_25 : decode cX0_unfold 25 = .ok (.bipush (-6), 2) := by decide +kernel
theorem dX0_unfold_27 : decode cX0_unfold 27 = .ok (.ireturn, 1) := by decide +kernel
theorem dX0_unfold_28 : decode cX0_unfold 28 = .ok (.aload_n 0, 1) := by decide +kernel
theorem dX0_unfold_29 : decode cX0_unfold 29 = .ok (.dup, 1) := by decide +kernel
theorem dX0_unfold_30 : decode cX0_unfold 30 = .ok (.getfield 75, 3) := by decide +kernel
theorem dX0_unfold_33 : decode cX0_unfold 33 = .ok (.iload_n 3, 1) := by decide +kernel
theorem dX0_unfold_34 : decode cX0_unfold 34 = .ok (.iadd, 1) := by decide +kernel
theorem dX0_unfold_35 : decode cX0_unfold 35 = .ok (.putfield 75, 3) := by decide +kernel
theorem dX0_unfold_38 : decode cX0_unfold 38 = .ok (.aload_n 0, 1) := by decide +kernel
theorem dX0_unfold_39 : decode cX0_unfold 39 = .ok (.iconst 2, 1) := by decide +kernel
theorem dX0_unfold_40 : decode cX0_unfold 40 = .ok (.invokevirtual 127, 3) := by decide +kernel
theorem dX0_unfold_43 : decode cX0_unfold 43 = .ok (.iload_n 1, 1) := by decide +kernel
theorem dX0_unfold_44 : decode cX0_unfold 44 = .ok (.ifCond .eq 14, 3) := by decide +kernel
theorem dX0_unfold_47 : decode cX0_unfold 47 = .ok (.aload_n 0, 1) := by decide +kernel
theorem dX0_unfold_48 : decode cX0_unfold 48 = .ok (.aload_n 0, 1) := by decide +kernel
theorem dX0_unfold_49 : decode cX0_unfold 49 = .ok (.invokevirtual 94, 3) := by decide +kernel
theorem dX0_unfold_52 : decode cX0_unfold 52 = .ok (.invokevirtual 133, 3) := by decide +kernel
theorem dX0_unfold_55 : decode cX0_unfold 55 = .ok (.goto 7, 3) := by decide +kernel
theorem dX0_unfold_58 : decode cX0_unfold 58 = .ok (.aload_n 0, 1) := by decide +kernel
theorem dX0_unfold_59 : decode cX0_unfold 59 = .ok (.invokevirtual 94, 3) := by decide +kernel
theorem dX0_unfold_62 : decode cX0_unfold 62 = .ok (.istore 4, 2) := by decide +kernel
theorem dX0_unfold_64 : decode cX0_unfold 64 = .ok (.iload_n 2, 1) := by decide +kernel
theorem dX0_unfold_65 : decode cX0_unfold 65 = .ok (.ifCond .eq 14, 3) := by decide +kernel
theorem dX0_unfold_68 : decode cX0_unfold 68 = .ok (.aload_n 0, 1) := by decide +kernel
theorem dX0_unfold_69 : decode cX0_unfold 69 = .ok (.aload_n 0, 1) := by decide +kernel
theorem dX0_unfold_70 : decode cX0_unfold 70 = .ok (.invokevirtual 100, 3) := by decide +kernel
theorem dX0_unfold_73 : decode cX0_unfold 73 = .ok (.invokevirtual 133, 3) := by decide +kernel
theorem dX0_unfold_76 : decode cX0_unfold 76 = .ok (.goto 7, 3) := by decide +kernel
theorem dX0_unfold_79 : decode cX0_unfold 79 = .ok (.aload_n 0, 1) := by decide +kernel
theorem dX0_unfold_80 : decode cX0_unfold 80 = .ok (.invokevirtual 100, 3) := by decide +kernel
theorem dX0_unfold_83 : decode cX0_unfold 83 = .ok (.istore 5, 2) := by decide +kernel
theorem dX0_unfold_85 : decode cX0_unfold 85 = .ok (.aload_n 0, 1) := by decide +kernel
theorem dX0_unfold_86 : decode cX0_unfold 86 = .ok (.iload 4, 2) := by decide +kernel
theorem dX0_unfold_88 : decode cX0_unfold 88 = .ok (.iload 5, 2) := by decide +kernel
theorem dX0_unfold_90 : decode cX0_unfold 90 = .ok (.invokevirtual 43, 3) := by decide +kernel
theorem dX0_unfold_93 : decode cX0_unfold 93 = .ok (.ireturn, 1) := by decide +kernel
theorem dX0_unfolded_0 : decode cX0_unfolded 0 = .ok (.aload_n 0, 1) := by decide +kernel
theorem dX0_unfolded_1 : decode cX0_unfolded 1 = .ok (.getfield 32, 3) := by decide +kernel
theorem dX0_unfolded_4 : decode cX0_unfolded 4 = .ok (.aload_n 0, 1) := by decide +kernel
theorem dX0_unfolded_5 : decode cX0_unfolded 5 = .ok (.getfield 28, 3) := by decide +kernel
theorem dX0_unfolded_8 : decode cX0_unfolded 8 = .ok (.iload_n 1, 1) := by decide +kernel
theorem dX0_unfolded_9 : decode cX0_unfolded 9 = .ok (.invokevirtual 97, 3) := by decide +kernel
theorem dX0_unfolded_12 : decode cX0_unfolded 12 = .ok (.invokevirtual 136, 3) := by decide +kernel
theorem dX0_unfolded_15 : decode cX0_unfolded 15 = .ok (.istore_n 2, 1) := by decide +kernel
theorem dX0_unfolded_16 : decode cX0_unfolded 16 = .ok (.aload_n 0, 1) := by decide +kernel
theorem dX0_unfolded_17 : decode cX0_unfolded 17 = .ok (.getfield 28, 3) := by decide +kernel
theorem dX0_unfolded_20 : decode cX0_unfolded 20 = .ok (.iload_n 2, 1) := by decide +kernel
theorem dX0_unfolded_21 : decode cX0_unfolded 21 = .ok (.aload_n 0, 1) := by decide +kernel
theorem dX0_unfolded_22 : decode cX0_unfolded 22 = .ok (.getfield 28, 3) := by decide +kernel
theorem dX0_unfolded_25 : decode cX0_unfolded 25 = .ok (.iload_n 1, 1) := by decide +kernel
theorem dX0_unfolded_26 : decode cX0_unfolded 26 = .ok (.iconst 0, 1) := by decide +kernel
theorem dX0_unfolded_27 : decode cX0_unfolded 27 = .ok (.invokevirtual 130, 3) := by decide +kernel
theorem dX0_unfolded_30 : decode cX0_unfolded 30 = .ok (.aload_n 0, 1) := by decide +kernel
theorem dX0_unfolded_31 : decode cX0_unfolded 31 = .ok (.getfield 28, 3) := by decide +kernel
theorem dX0_unfolded_34 : decode cX0_unfolded 34 = .ok (.iload_n 1, 1) := by decide +kernel
theorem dX0_unfolded_35 : decode cX0_unfolded 35 = .ok (.iconst 1, 1) := by decide +kernel
theorem dX0_unfolded_36 : decode cX0_unfolded 36 = .ok (.invokevirtual 130, 3) := by decide +kernel
theorem dX0_unfolded_39 : decode cX0_unfolded 39 = .ok (.invokevirtual 139, 3) := by decide +kernel
theorem dX0_unfolded_42 : decode cX0_unfolded 42 = .ok (.ireturn, 1) := by decide +kernel
theorem dX0_close_0 : decode cX0_close 0 = .ok (.aload_n 0, 1) := by decide +kernel
theorem dX0_close_1 : decode cX0_close 1 = .ok (.aload_n 0, 1) := by decide +kernel
theorem dX0_close_2 : decode cX0_close 2 = .ok (.invokevirtual 94, 3) := by decide +kernel
theorem dX0_close_5 : decode cX0_close 5 = .ok (.aload_n 0, 1) := by decide +kernel
theorem dX0_close_6 : decode cX0_close 6 = .ok (.invokevirtual 100, 3) := by decide +kernel
theorem dX0_close_9 : decode cX0_close 9 = .ok (.iload_n 1, 1) := by decide +kernel
theorem dX0_close_10 : decode cX0_close 10 = .ok (.invokevirtual 142, 3) := by decide +kernel
theorem dX0_close_13 : decode cX0_close 13 = .ok (.aload_n 0, 1) := by decide +kernel
theorem dX0_close_14 : decode cX0_close 14 = .ok (.iconst 0, 1) := by decide +kernel
theorem dX0_close_15 : decode cX0_close 15 = .ok (.aload_n 0, 1) := by decide +kernel
theorem dX0_close_16 : decode cX0_close 16 = .ok (.getfield 48, 3) := by decide +kernel
theorem dX0_close_19 : decode cX0_close 19 = .ok (.iconst 1, 1) := by decide +kernel
theorem dX0_close_20 : decode cX0_close 20 = .ok (.isub, 1) := by decide +kernel
theorem dX0_close_21 : decode cX0_close 21 = .ok (.invokestatic 146, 3) := by decide +kernel
theorem dX0_close_24 : decode cX0_close 24 = .ok (.putfield 48, 3) := by decide +kernel
theorem dX0_close_27 : decode cX0_close 27 = .ok (.iload_n 1, 1) := by decide +kernel
theorem dX0_close_28 : decode cX0_close 28 = .ok (.ireturn, 1) := by decide +kernel
theorem dX0_hasLast_0 : decode cX0_hasLast 0 = .ok (.aload_n 0, 1) := by decide +kernel
theorem dX0_hasLast_1 : decode cX0_hasLast 1 = .ok (.getfield 48, 3) := by decide +kernel
theorem dX0_hasLast_4 : decode cX0_hasLast 4 = .ok (.ifCond .le 17, 3) := by decide +kernel
theorem dX0_hasLast_7 : decode cX0_hasLast 7 = .ok (.aload_n 0, 1) := by decide +kernel
theorem dX0_hasLast_8 : decode cX0_hasLast 8 = .ok (.getfield 48, 3) := by decide +kernel
theorem dX0_hasLast_11 : decode cX0_hasLast 11 = .ok (.sipush 164, 3) := by decide +kernel
theorem dX0_hasLast_14 : decode cX0_hasLast 14 = .ok (.if_icmp .gt 7, 3) := by decide +kernel
theorem dX0_hasLast_17 : decode cX0_hasLast 17 = .ok (.iconst 1, 1) := by decide +kernel
theorem dX0_hasLast_18 : decode cX0_hasLast 18 = .ok (.goto 4, 3) := by decide +kernel
theorem dX0_hasLast_21 : decode cX0_hasLast 21 = .ok (.iconst 0, 1) := by decide +kernel
theorem dX0_hasLast_22 : decode cX0_hasLast 22 = .ok (.ireturn, 1) := by decide +kernel
theorem dX0_lastX_0 : decode cX0_lastX 0 = .ok (.aload_n 0, 1) := by decide +kernel
theorem dX0_lastX_1 : decode cX0_lastX 1 = .ok (.invokevirtual 151, 3) := by decide +kernel
theorem dX0_lastX_4 : decode cX0_lastX 4 = .ok (.ifCond .eq 17, 3) := by decide +kernel
theorem dX0_lastX_7 : decode cX0_lastX 7 = .ok (.aload_n 0, 1) := by decide +kernel
theorem dX0_lastX_8 : decode cX0_lastX 8 = .ok (.getfield 15, 3) := by decide +kernel
theorem dX0_lastX_11 : decode cX0_lastX 11 = .ok (.aload_n 0, 1) := by decide +kernel
theorem dX0_lastX_12 : decode cX0_lastX 12 = .ok (.getfield 48, 3) := by decide +kernel
theorem dX0_lastX_15 : decode cX0_lastX 15 = .ok (.iconst 1, 1) := by decide +kernel
theorem dX0_lastX_16 : decode cX0_lastX 16 = .ok (.isub, 1) := by decide +kernel
theorem dX0_lastX_17 : decode cX0_lastX 17 = .ok (.iaload, 1) := by decide +kernel
theorem dX0_lastX_18 : decode cX0_lastX 18 = .ok (.goto 5, 3) := by decide +kernel
theorem dX0_lastX_21 : decode cX0_lastX 21 = .ok (.bipush (-9), 2) := by decide +kernel
theorem dX0_lastX_23 : decode cX0_lastX 23 = .ok (.ireturn, 1) := by decide +kernel
theorem dX0_lastY_0 : decode cX0_lastY 0 = .ok (.aload_n 0, 1) := by decide +kernel
theorem dX0_lastY_1 : decode cX0_lastY 1 = .ok (.invokevirtual 151, 3) := by decide +kernel
theorem dX0_lastY_4 : decode cX0_lastY 4 = .ok (.ifCond .eq 17, 3) := by decide +kernel
theorem dX0_lastY_7 : decode cX0_lastY 7 = .ok (.aload_n 0, 1) := by decide +kernel
theorem dX0_lastY_8 : decode cX0_lastY 8 = .ok (.getfield 19, 3) := by decide +kernel
theorem dX0_lastY_11 : decode cX0_lastY 11 = .ok (.aload_n 0, 1) := by decide +kernel
theorem dX0_lastY_12 : decode cX0_lastY 12 = .ok (.getfield 48, 3) := by decide +kernel
theorem dX0_lastY_15 : decode cX0_lastY 15 = .ok (.iconst 1, 1) := by decide +kernel
theorem dX0_lastY_16 : decode cX0_lastY 16 = .ok (.isub, 1) := by decide +kernel
theorem dX0_lastY_17 : decode cX0_lastY 17 = .ok (.iaload, 1) := by decide +kernel
theorem dX0_lastY_18 : decode cX0_lastY 18 = .ok (.goto 5, 3) := by decide +kernel
theorem dX0_lastY_21 : decode cX0_lastY 21 = .ok (.bipush (-9), 2) := by decide +kernel
theorem dX0_lastY_23 : decode cX0_lastY 23 = .ok (.ireturn, 1) := by decide +kernel
theorem dX0_lastWaitsFor_0 : decode cX0_lastWaitsFor 0 = .ok (.aload_n 0, 1) := by decide +kernel
theorem dX0_lastWaitsFor_1 : decode cX0_lastWaitsFor 1 = .ok (.invokevirtual 151, 3) := by decide +kernel
theorem dX0_lastWaitsFor_4 : decode cX0_lastWaitsFor 4 = .ok (.ifCond .eq 17, 3) := by decide +kernel
theorem dX0_lastWaitsFor_7 : decode cX0_lastWaitsFor 7 = .ok (.aload_n 0, 1) := by decide +kernel
theorem dX0_lastWaitsFor_8 : decode cX0_lastWaitsFor 8 = .ok (.getfield 22, 3) := by decide +kernel
theorem dX0_lastWaitsFor_11 : decode cX0_lastWaitsFor 11 = .ok (.aload_n 0, 1) := by decide +kernel
theorem dX0_lastWaitsFor_12 : decode cX0_lastWaitsFor 12 = .ok (.getfield 48, 3) := by decide +kernel
theorem dX0_lastWaitsFor_15 : decode cX0_lastWaitsFor 15 = .ok (.iconst 1, 1) := by decide +kernel
theorem dX0_lastWaitsFor_16 : decode cX0_lastWaitsFor 16 = .ok (.isub, 1) := by decide +kernel
theorem dX0_lastWaitsFor_17 : decode cX0_lastWaitsFor 17 = .ok (.iaload, 1) := by decide +kernel
theorem dX0_lastWaitsFor_18 : decode cX0_lastWaitsFor 18 = .ok (.goto 4, 3) := by decide +kernel
theorem dX0_lastWaitsFor_21 : decode cX0_lastWaitsFor 21 = .ok (.iconst 2, 1) := by decide +kernel
theorem dX0_lastWaitsFor_22 : decode cX0_lastWaitsFor 22 = .ok (.ireturn, 1) := by decide +kernel
theorem dX0_setLastWaitsFor_0 : decode cX0_setLastWaitsFor 0 = .ok (.aload_n 0, 1) := by decide +kernel
theorem dX0_setLastWaitsFor_1 : decode cX0_setLastWaitsFor 1 = .ok (.invokevirtual 151, 3) := by decide +kernel
theorem dX0_setLastWaitsFor_4 : decode cX0_setLastWaitsFor 4 = .ok (.ifCond .eq 15, 3) := by decide +kernel
theorem dX0_setLastWaitsFor_7 : decode cX0_setLastWaitsFor 7 = .ok (.aload_n 0, 1) := by decide +kernel
theorem dX0_setLastWaitsFor_8 : decode cX0_setLastWaitsFor 8 = .ok (.getfield 22, 3) := by decide +kernel
theorem dX0_setLastWaitsFor_11 : decode cX0_setLastWaitsFor 11 = .ok (.aload_n 0, 1) := by decide +kernel
theorem dX0_setLastWaitsFor_12 : decode cX0_setLastWaitsFor 12 = .ok (.getfield 48, 3) := by decide +kernel
theorem dX0_setLastWaitsFor_15 : decode cX0_setLastWaitsFor 15 = .ok (.iconst 1, 1) := by decide +kernel
theorem dX0_setLastWaitsFor_16 : decode cX0_setLastWaitsFor 16 = .ok (.isub, 1) := by decide +kernel
theorem dX0_setLastWaitsFor_17 : decode cX0_setLastWaitsFor 17 = .ok (.iload_n 1, 1) := by decide +kernel
theorem dX0_setLastWaitsFor_18 : decode cX0_setLastWaitsFor 18 = .ok (.iastore, 1) := by decide +kernel
theorem dX0_setLastWaitsFor_19 : decode cX0_setLastWaitsFor 19 = .ok (.return_, 1) := by decide +kernel
theorem dX0_judgment_0 : decode cX0_judgment 0 = .ok (.aload_n 0, 1) := by decide +kernel
theorem dX0_judgment_1 : decode cX0_judgment 1 = .ok (.getfield 28, 3) := by decide +kernel
theorem dX0_judgment_4 : decode cX0_judgment 4 = .ok (.iload_n 1, 1) := by decide +kernel
theorem dX0_judgment_5 : decode cX0_judgment 5 = .ok (.invokevirtual 87, 3) := by decide +kernel
theorem dX0_judgment_8 : decode cX0_judgment 8 = .ok (.ifCond .eq 14, 3) := by decide +kernel
theorem dX0_judgment_11 : decode cX0_judgment 11 = .ok (.aload_n 0, 1) := by decide +kernel
theorem dX0_judgment_12 : decode cX0_judgment 12 = .ok (.getfield 28, 3) := by decide +kernel
theorem dX0_judgment_15 : decode cX0_judgment 15 = .ok (.iload_n 2, 1) := by decide +kernel
theorem dX0_judgment_16 : decode cX0_judgment 16 = .ok (.invokevirtual 87, 3) := by decide +kernel
theorem dX0_judgment_19 : decode cX0_judgment 19 = .ok (.ifCond .ne 5, 3) := by decide +kernel
theorem dX0_judgment_22 : decode cX0_judgment 22 = .ok (.iconst 2, 1) := by decide +kernel
theorem dX0_judgment_23 : decode cX0_judgment 23 = .ok (.ireturn, 1) := by decide +kernel
theorem dX0_judgment_24 : decode cX0_judgment 24 = .ok (.aload_n 0, 1) := by decide +kernel
theorem dX0_judgment_25 : decode cX0_judgment 25 = .ok (.getfield 11, 3) := by decide +kernel
theorem dX0_judgment_28 : decode cX0_judgment 28 = .ok (.iload_n 1, 1) := by decide +kernel
theorem dX0_judgment_29 : decode cX0_judgment 29 = .ok (.iload_n 2, 1) := by decide +kernel
theorem dX0_judgment_30 : decode cX0_judgment 30 = .ok (.invokestatic 155, 3) := by decide +kernel
theorem dX0_judgment_33 : decode cX0_judgment 33 = .ok (.laload, 1) := by decide +kernel
theorem dX0_judgment_34 : decode cX0_judgment 34 = .ok (.iload_n 2, 1) := by decide +kernel
theorem dX0_judgment_35 : decode cX0_judgment 35 = .ok (.invokestatic 158, 3) := by decide +kernel
theorem dX0_judgment_38 : decode cX0_judgment 38 = .ok (.lushr, 1) := by decide +kernel
theorem dX0_judgment_39 : decode cX0_judgment 39 = .ok (.l2i, 1) := by decide +kernel
theorem dX0_judgment_40 : decode cX0_judgment 40 = .ok (.iconst 3, 1) := by decide +kernel
theorem dX0_judgment_41 : decode cX0_judgment 41 = .ok (.iand, 1) := by decide +kernel
theorem dX0_judgment_42 : decode cX0_judgment 42 = .ok (.istore_n 3, 1) := by decide +kernel
theorem dX0_judgment_43 : decode cX0_judgment 43 = .ok (.iload_n 3, 1) := by decide +kernel
theorem dX0_judgment_44 : decode cX0_judgment 44 = .ok (.ifCond .ne 7, 3) := by decide +kernel
theorem dX0_judgment_47 : decode cX0_judgment 47 = .ok (.iconst 2, 1) := by decide +kernel
theorem dX0_judgment_48 : decode cX0_judgment 48 = .ok (.goto 6, 3) := by decide +kernel
theorem dX0_judgment_51 : decode cX0_judgment 51 = .ok (.iload_n 3, 1) := by decide +kernel
theorem dX0_judgment_52 : decode cX0_judgment 52 = .ok (.iconst 1, 1) := by decide +kernel
theorem dX0_judgment_53 : decode cX0_judgment 53 = .ok (.isub, 1) := by decide +kernel
theorem dX0_judgment_54 : decode cX0_judgment 54 = .ok (.ireturn, 1) := by decide +kernel
theorem dX0_judge_0 : decode cX0_judge 0 = .ok (.aload_n 0, 1) := by decide +kernel
theorem dX0_judge_1 : decode cX0_judge 1 = .ok (.getfield 28, 3) := by decide +kernel
theorem dX0_judge_4 : decode cX0_judge 4 = .ok (.iload_n 1, 1) := by decide +kernel
theorem dX0_judge_5 : decode cX0_judge 5 = .ok (.invokevirtual 87, 3) := by decide +kernel
theorem dX0_judge_8 : decode cX0_judge 8 = .ok (.ifCond .eq 14, 3) := by decide +kernel
theorem dX0_judge_11 : decode cX0_judge 11 = .ok (.aload_n 0, 1) := by decide +kernel
theorem dX0_judge_12 : decode cX0_judge 12 = .ok (.getfield 28, 3) := by decide +kernel
theorem dX0_judge_15 : decode cX0_judge 15 = .ok (.iload_n 2, 1) := by decide +kernel
theorem dX0_judge_16 : decode cX0_judge 16 = .ok (.invokevirtual 87, 3) := by decide +kernel
theorem dX0_judge_19 : decode cX0_judge 19 = .ok (.ifCond .ne 4, 3) := by decide +kernel
theorem dX0_judge_22 : decode cX0_judge 22 = .ok (.return_, 1) := by decide +kernel
theorem dX0_judge_23 : decode cX0_judge 23 = .ok (.aload_n 0, 1) := by decide +kernel
theorem dX0_judge_24 : decode cX0_judge 24 = .ok (.getfield 11, 3) := by decide +kernel
theorem dX0_judge_27 : decode cX0_judge 27 = .ok (.iload_n 1, 1) := by decide +kernel
theorem dX0_judge_28 : decode cX0_judge 28 = .ok (.iload_n 2, 1) := by decide +kernel
theorem dX0_judge_29 : decode cX0_judge 29 = .ok (.invokestatic 155, 3) := by decide +kernel
theorem dX0_judge_32 : decode cX0_judge 32 = .ok (.dup2, 1) := by decide +kernel
theorem dX0_judge_33 : decode cX0_judge 33 = .ok (.laload, 1) := by decide +kernel
theorem dX0_judge_34 : decode cX0_judge 34 = .ok (.iload_n 3, 1) := by decide +kernel
theorem dX0_judge_35 : decode cX0_judge 35 = .ok (.i2l, 1) := by decide +kernel
theorem dX0_judge_36 : decode cX0_judge 36 = .ok (.lconst 1, 1) := by decide +kernel
theorem dX0_judge_37 : decode cX0_judge 37 = .ok (.ladd, 1) := by decide +kernel
theorem dX0_judge_38 : decode cX0_judge 38 = .ok (.iload_n 2, 1) := by decide +kernel
theorem dX0_judge_39 : decode cX0_judge 39 = .ok (.invokestatic 158, 3) := by decide +kernel
theorem dX0_judge_42 : decode cX0_judge 42 = .ok (.lshl, 1) := by decide +kernel
theorem dX0_judge_43 : decode cX0_judge 43 = .ok (.lor, 1) := by decide +kernel
theorem dX0_judge_44 : decode cX0_judge 44 = .ok (.lastore, 1) := by decide +kernel
theorem dX0_judge_45 : decode cX0_judge 45 = .ok (.return_, 1) := by decide +kernel
theorem dX0_wordOf_0 : decode cX0_wordOf 0 = .ok (.iload_n 0, 1) := by decide +kernel
theorem dX0_wordOf_1 : decode cX0_wordOf 1 = .ok (.bipush 12, 2) := by decide +kernel
theorem dX0_wordOf_3 : decode cX0_wordOf 3 = .ok (.imul, 1) := by decide +kernel
theorem dX0_wordOf_4 : decode cX0_wordOf 4 = .ok (.iload_n 1, 1) := by decide +kernel
theorem dX0_wordOf_5 : decode cX0_wordOf 5 = .ok (.bipush 32, 2) := by decide +kernel
theorem dX0_wordOf_7 : decode cX0_wordOf 7 = .ok (.idiv, 1) := by decide +kernel
theorem dX0_wordOf_8 : decode cX0_wordOf 8 = .ok (.iadd, 1) := by decide +kernel
theorem dX0_wordOf_9 : decode cX0_wordOf 9 = .ok (.ireturn, 1) := by decide +kernel
theorem dX0_shiftOf_0 : decode cX0_shiftOf 0 = .ok (.iload_n 0, 1) := by decide +kernel
theorem dX0_shiftOf_1 : decode cX0_shiftOf 1 = .ok (.bipush 32, 2) := by decide +kernel
theorem dX0_shiftOf_3 : decode cX0_shiftOf 3 = .ok (.irem, 1) := by decide +kernel
theorem dX0_shiftOf_4 : decode cX0_shiftOf 4 = .ok (.iconst 2, 1) := by decide +kernel
theorem dX0_shiftOf_5 : decode cX0_shiftOf 5 = .ok (.imul, 1) := by decide +kernel
theorem dX0_shiftOf_6 : decode cX0_shiftOf 6 = .ok (.ireturn, 1) := by decide +kernel
end
section
theorem dX1_init_0 : decode cX1_init 0 = .ok (.aload_n 0, 1) := by decide +kernel
theorem dX1_init_1 : decode cX1_init 1 = .ok (.invokespecial 3, 3) := by decide +kernel
theorem dX1_init_4 : decode cX1_init 4 = .ok (.aload_n 0, 1) := by decide +kernel
theorem dX1_init_5 : decode cX1_init 5 = .ok (.bipush 12, 2) := by decide +kernel
theorem dX1_init_7 : decode cX1_init 7 = .ok (.newarray .int, 2) := by decide +kernel
theorem dX1_init_9 : decode cX1_init 9 = .ok (.putfield 9, 3) := by decide +kernel
theorem dX1_init_12 : decode cX1_init 12 = .ok (.aload_n 0, 1) := by decide +kernel
theorem dX1_init_13 : decode cX1_init 13 = .ok (.bipush 12, 2) := by decide +kernel
theorem dX1_init_15 : decode cX1_init 15 = .ok (.newarray .int, 2) := by decide +kernel
theorem dX1_init_17 : decode cX1_init 17 = .ok (.putfield 15, 3) := by decide +kernel
theorem dX1_init_20 : decode cX1_init 20 = .ok (.aload_n 0, 1) := by decide +kernel
theorem dX1_init_21 : decode cX1_init 21 = .ok (.bipush 12, 2) := by decide +kernel
theorem dX1_init_23 : decode cX1_init 23 = .ok (.newarray .boolean, 2) := by decide +kernel
theorem dX1_init_25 : decode cX1_init 25 = .ok (.putfield 18, 3) := by decide +kernel
theorem dX1_init_28 : decode cX1_init 28 = .ok (.aload_n 0, 1) := by decide +kernel
theorem dX1_init_29 : decode cX1_init 29 = .ok (.bipush 12, 2) := by decide +kernel
theorem dX1_init_31 : decode cX1_init 31 = .ok (.newarray .int, 2) := by decide +kernel
theorem dX1_init_33 : decode cX1_init 33 = .ok (.putfield 22, 3) := by decide +kernel
theorem dX1_init_36 : decode cX1_init 36 = .ok (.aload_n 0, 1) := by decide +kernel
theorem dX1_init_37 : decode cX1_init 37 = .ok (.bipush 12, 2) := by decide +kernel
theorem dX1_init_39 : decode cX1_init 39 = .ok (.newarray .int, 2) := by decide +kernel
theorem dX1_init_41 : decode cX1_init 41 = .ok (.putfield 25, 3) := by decide +kernel
theorem dX1_init_44 : decode cX1_init 44 = .ok (.aload_n 0, 1) := by decide +kernel
theorem dX1_init_45 : decode cX1_init 45 = .ok (.iconst 4, 1) := by decide +kernel
theorem dX1_init_46 : decode cX1_init 46 = .ok (.bipush 12, 2) := by decide +kernel
theorem dX1_init_48 : decode cX1_init 48 = .ok (.multianewarray 28 2, 4) := by decide +kernel
theorem dX1_init_52 : decode cX1_init 52 = .ok (.putfield 30, 3) := by decide +kernel
theorem dX1_init_55 : decode cX1_init 55 = .ok (.aload_n 0, 1) := by decide +kernel
theorem dX1_init_56 : decode cX1_init 56 = .ok (.aload_n 1, 1) := by decide +kernel
theorem dX1_init_57 : decode cX1_init 57 = .ok (.putfield 33, 3) := by decide +kernel
theorem dX1_init_60 : decode cX1_init 60 = .ok (.aload_n 0, 1) := by decide +kernel
theorem dX1_init_61 : decode cX1_init 61 = .ok (.iconst 0, 1) := by decide +kernel
theorem dX1_init_62 : decode cX1_init 62 = .ok (.putfield 37, 3) := by decide +kernel
theorem dX1_init_65 : decode cX1_init 65 = .ok (.return_, 1) := by decide +kernel
theorem dX1_has_0 : decode cX1_has 0 = .ok (.iload_n 1, 1) := by decide +kernel
theorem dX1_has_1 : decode cX1_has 1 = .ok (.ifCond .lt 15, 3) := by decide +kernel
theorem dX1_has_4 : decode cX1_has 4 = .ok (.iload_n 1, 1) := by decide +kernel
theorem dX1_has_5 : decode cX1_has 5 = .ok (.aload_n 0, 1) := by decide +kernel
theorem dX1_has_6 : decode cX1_has 6 = .ok (.getfield 37, 3) := by decide +kernel
theorem dX1_has_9 : decode cX1_has 9 = .ok (.if_icmp .ge 7, 3) := by decide +kernel
theorem dX1_has_12 : decode cX1_has 12 = .ok (.iconst 1, 1) := by decide +kernel
theorem dX1_has_13 : decode cX1_has 13 = .ok (.goto 4, 3) := by decide +kernel
theorem dX1_has_16 : decode cX1_has 16 = .ok (.iconst 0, 1) := by decide +kernel
theorem dX1_has_17 : decode cX1_has 17 = .ok (.ireturn, 1) := by decide +kernel
theorem dX1_howMany_0 : decode cX1_howMany 0 = .ok (.aload_n 0, 1) := by decide +kernel
theorem dX1_howMany_1 : decode cX1_howMany 1 = .ok (.getfield 37, 3) := by decide +kernel
theorem dX1_howMany_4 : decode cX1_howMany 4 = .ok (.ireturn, 1) := by decide +kernel
theorem dX1_howManyDefined_0 : decode cX1_howManyDefined 0 = .ok (.iconst 0, 1) := by decide +kernel
theorem dX1_howManyDefined_1 : decode cX1_howManyDefined 1 = .ok (.istore_n 1, 1) := by decide +kernel
theorem dX1_howManyDefined_2 : decode cX1_howManyDefined 2 = .ok (.iconst 0, 1) := by decide +kernel
theorem dX1_howManyDefined_3 : decode cX1_howManyDefined 3 = .ok (.istore_n 2, 1) := by decide +kernel
theorem dX1_howManyDefined_4 : decode cX1_howManyDefined 4 = .ok (.iload_n 2, 1) := by decide +kernel
theorem dX1_howManyDefined_5 : decode cX1_howManyDefined 5 = .ok (.aload_n 0, 1) := by decide +kernel
theorem dX1_howManyDefined_6 : decode cX1_howManyDefined 6 = .ok (.getfield 37, 3) := by decide +kernel
theorem dX1_howManyDefined_9 : decode cX1_howManyDefined 9 = .ok (.if_icmp .ge 23, 3) := by decide +kernel
theorem dX1_howManyDefined_12 : decode cX1_howManyDefined 12 = .ok (.aload_n 0, 1) := by decide +kernel
theorem dX1_howManyDefined_13 : decode cX1_howManyDefined 13 = .ok (.getfield 15, 3) := by decide +kernel
theorem dX1_howManyDefined_16 : decode cX1_howManyDefined 16 = .ok (.iload_n 2, 1) := by decide +kernel
theorem dX1_howManyDefined_17 : decode cX1_howManyDefined 17 = .ok (.iaload, 1) := by decide +kernel
theorem dX1_howManyDefined_18 : decode cX1_howManyDefined 18 = .ok (.bipush (-9), 2) := by decide +kernel
theorem dX1_howManyDefined_20 : decode cX1_howManyDefined 20 = .ok (.if_icmp .eq 6, 3) := by decide +kernel
theorem dX1_howManyDefined_23 : decode cX1_howManyDefined 23 = .ok (.iinc 1 1, 3) := by decide +kernel
theorem dX1_howManyDefined_26 : decode cX1_howManyDefined 26 = .ok (.iinc 2 1, 3) := by decide +kernel
theorem dX1_howManyDefined_29 : decode cX1_howManyDefined 29 = .ok (.goto (-25), 3) := by decide +kernel
theorem dX1_howManyDefined_32 : decode cX1_howManyDefined 32 = .ok (.iload_n 1, 1) := by decide +kernel
theorem dX1_howManyDefined_33 : decode cX1_howManyDefined 33 = .ok (.ireturn, 1) := by decide +kernel
theorem dX1_howManyFolded_0 : decode cX1_howManyFolded 0 = .ok (.iconst 0, 1) := by decide +kernel
theorem dX1_howManyFolded_1 : decode cX1_howManyFolded 1 = .ok (.istore_n 1, 1) := by decide +kernel
theorem dX1_howManyFolded_2 : decode cX1_howManyFolded 2 = .ok (.iconst 0, 1) := by decide +kernel
theorem dX1_howManyFolded_3 : decode cX1_howManyFolded 3 = .ok (.istore_n 2, 1) := by decide +kernel
theorem dX1_howManyFolded_4 : decode cX1_howManyFolded 4 = .ok (.iload_n 2, 1) := by decide +kernel
theorem dX1_howManyFolded_5 : decode cX1_howManyFolded 5 = .ok (.aload_n 0, 1) := by decide +kernel
theorem dX1_howManyFolded_6 : decode cX1_howManyFolded 6 = .ok (.getfield 37, 3) := by decide +kernel
theorem dX1_howManyFolded_9 : decode cX1_howManyFolded 9 = .ok (.if_icmp .ge 20, 3) := by decide +kernel
theorem dX1_howManyFolded_12 : decode cX1_howManyFolded 12 = .ok (.aload_n 0, 1) := by decide +kernel
theorem dX1_howManyFolded_13 : decode cX1_howManyFolded 13 = .ok (.iload_n 2, 1) := by decide +kernel
theorem dX1_howManyFolded_14 : decode cX1_howManyFolded 14 = .ok (.invokevirtual 41, 3) := by decide +kernel
theorem dX1_howManyFolded_17 : decode cX1_howManyFolded 17 = .ok (.ifCond .eq 6, 3) := by decide +kernel
theorem dX1_howManyFolded_20 : decode cX1_howManyFolded 20 = .ok (.iinc 1 1, 3) := by decide +kernel
theorem dX1_howManyFolded_23 : decode cX1_howManyFolded 23 = .ok (.iinc 2 1, 3) := by decide +kernel
theorem dX1_howManyFolded_26 : decode cX1_howManyFolded 26 = .ok (.goto (-22), 3) := by decide +kernel
theorem dX1_howManyFolded_29 : decode cX1_howManyFolded 29 = .ok (.iload_n 1, 1) := by decide +kernel
theorem dX1_howManyFolded_30 : decode cX1_howManyFolded 30 = .ok (.ireturn, 1) := by decide +kernel
theorem dX1_arityOf_0 : decode cX1_arityOf 0 = .ok (.aload_n 0, 1) := by decide +kernel
theorem dX1_arityOf_1 : decode cX1_arityOf 1 = .ok (.iload_n 1, 1) := by decide +kernel
theorem dX1_arityOf_2 : decode cX1_arityOf 2 = .ok (.invokevirtual 45, 3) := by decide +kernel
theorem dX1_arityOf_5 : decode cX1_arityOf 5 = .ok (.ifCond .eq 12, 3) := by decide +kernel
theorem dX1_arityOf_8 : decode cX1_arityOf 8 = .ok (.aload_n 0, 1) := by decide +kernel
theorem dX1_arityOf_9 : decode cX1_arityOf 9 = .ok (.getfield 9, 3) := by decide +kernel
theorem dX1_arityOf_12 : decode cX1_arityOf 12 = .ok (.iload_n 1, 1) := by decide +kernel
theorem dX1_arityOf_13 : decode cX1_arityOf 13 = .ok (.iaload, 1) := by decide +kernel
theorem dX1_arityOf_14 : decode cX1_arityOf 14 = .ok (.goto 4, 3) := by decide +kernel
theorem dX1_arityOf_17 : decode cX1_arityOf 17 = .ok (.iconst 0, 1) := by decide +kernel
theorem dX1_arityOf_18 : decode cX1_arityOf 18 = .ok (.ireturn, 1) := by decide +kernel
theorem dX1_definitionOf_0 : decode cX1_definitionOf 0 = .ok (.aload_n 0, 1) := by decide +kernel
theorem dX1_definitionOf_1 : decode cX1_definitionOf 1 = .ok (.iload_n 1, 1) := by decide +kernel
theorem dX1_definitionOf_2 : decode cX1_definitionOf 2 = .ok (.invokevirtual 45, 3) := by decide +kernel
theorem dX1_definitionOf_5 : decode cX1_definitionOf 5 = .ok (.ifCond .eq 12, 3) := by decide +kernel
theorem dX1_definitionOf_8 : decode cX1_definitionOf 8 = .ok (.aload_n 0, 1) := by decide +kernel
theorem dX1_definitionOf_9 : decode cX1_definitionOf 9 = .ok (.getfield 15, 3) := by decide +kernel
theorem dX1_definitionOf_12 : decode cX1_definitionOf 12 = .ok (.iload_n 1, 1) := by decide +kernel
theorem dX1_definitionOf_13 : decode cX1_definitionOf 13 = .ok (.iaload, 1) := by decide +kernel
theorem dX1_definitionOf_14 : decode cX1_definitionOf 14 = .ok (.goto 5, 3) := by decide +kernel
theorem dX1_definitionOf_17 : decode cX1_definitionOf 17 = .ok (.bipush (-9), 2) := by decide +kernel
theorem dX1_definitionOf_19 : decode cX1_definitionOf 19 = .ok (.ireturn, 1) := by decide +kernel
theorem dX1_isOpaque_0 : decode cX1_isOpaque 0 = .ok (.aload_n 0, 1) := by decide +kernel
theorem dX1_isOpaque_1 : decode cX1_isOpaque 1 = .ok (.iload_n 1, 1) := by decide +kernel
theorem dX1_isOpaque_2 : decode cX1_isOpaque 2 = .ok (.invokevirtual 45, 3) := by decide +kernel
theorem dX1_isOpaque_5 : decode cX1_isOpaque 5 = .ok (.ifCond .eq 16, 3) := by decide +kernel
theorem dX1_isOpaque_8 : decode cX1_isOpaque 8 = .ok (.aload_n 0, 1) := by decide +kernel
theorem dX1_isOpaque_9 : decode cX1_isOpaque 9 = .ok (.getfield 18, 3) := by decide +kernel
theorem dX1_isOpaque_12 : decode cX1_isOpaque 12 = .ok (.iload_n 1, 1) := by decide +kernel
theorem dX1_isOpaque_13 : decode cX1_isOpaque 13 = .ok (.baload, 1) := by decide +kernel
theorem dX1_isOpaque_14 : decode cX1_isOpaque 14 = .ok (.ifCond .eq 7, 3) := by decide +kernel
theorem dX1_isOpaque_17 : decode cX1_isOpaque 17 = .ok (.iconst 1, 1) := by decide +kernel
theorem dX1_isOpaque_18 : decode cX1_isOpaque 18 = .ok (.goto 4, 3) := by decide +kernel
theorem dX1_isOpaque_21 : decode cX1_isOpaque 21 = .ok (.iconst 0, 1) := by decide +kernel
theorem dX1_isOpaque_22 : decode cX1_isOpaque 22 = .ok (.ireturn, 1) := by decide +kernel
theorem dX1_isFolded_0 : decode cX1_isFolded 0 = .ok (.aload_n 0, 1) := by decide +kernel
theorem dX1_isFolded_1 : decode cX1_isFolded 1 = .ok (.iload_n 1, 1) := by decide +kernel
theorem dX1_isFolded_2 : decode cX1_isFolded 2 = .ok (.invokevirtual 48, 3) := by decide +kernel
theorem dX1_isFolded_5 : decode cX1_isFolded 5 = .ok (.bipush (-9), 2) := by decide +kernel
theorem dX1_isFolded_7 : decode cX1_isFolded 7 = .ok (.if_icmp .eq 15, 3) := by decide +kernel
theorem dX1_isFolded_10 : decode cX1_isFolded 10 = .ok (.aload_n 0, 1) := by decide +kernel
theorem dX1_isFolded_11 : decode cX1_isFolded 11 = .ok (.iload_n 1, 1) := by decide +kernel
theorem dX1_isFolded_12 : decode cX1_isFolded 12 = .ok (.invokevirtual 52, 3) := by decide +kernel
theorem dX1_isFolded_15 : decode cX1_isFolded 15 = .ok (.ifCond .ne 7, 3) := by decide +kernel
theorem dX1_isFolded_18 : decode cX1_isFolded 18 = .ok (.iconst 1, 1) := by decide +kernel
theorem dX1_isFolded_19 : decode cX1_isFolded 19 = .ok (.goto 4, 3) := by decide +kernel
theorem dX1_isFolded_22 : decode cX1_isFolded 22 = .ok (.iconst 0, 1) := by decide +kernel
theorem dX1_isFolded_23 : decode cX1_isFolded 23 = .ok (.ireturn, 1) := by decide +kernel
theorem dX1_heightOf_0 : decode cX1_heightOf 0 = .ok (.aload_n 0, 1) := by decide +kernel
theorem dX1_heightOf_1 : decode cX1_heightOf 1 = .ok (.iload_n 1, 1) := by decide +kernel
theorem dX1_heightOf_2 : decode cX1_heightOf 2 = .ok (.invokevirtual 45, 3) := by decide +kernel
theorem dX1_heightOf_5 : decode cX1_heightOf 5 = .ok (.ifCond .eq 12, 3) := by decide +kernel
theorem dX1_heightOf_8 : decode cX1_heightOf 8 = .ok (.aload_n 0, 1) := by decide +kernel
theorem dX1_heightOf_9 : decode cX1_heightOf 9 = .ok (.getfield 22, 3) := by decide +kernel
theorem dX1_heightOf_12 : decode cX1_heightOf 12 = .ok (.iload_n 1, 1) := by decide +kernel
theorem dX1_heightOf_13 : decode cX1_heightOf 13 = .ok (.iaload, 1) := by decide +kernel
theorem dX1_heightOf_14 : decode cX1_heightOf 14 = .ok (.goto 4, 3) := by decide +kernel
theorem dX1_heightOf_17 : decode cX1_heightOf 17 = .ok (.iconst 0, 1) := by decide +kernel
theorem dX1_heightOf_18 : decode cX1_heightOf 18 = .ok (.ireturn, 1) := by decide +kernel
theorem dX1_come_0 : decode cX1_come 0 = .ok (.aload_n 0, 1) := by decide +kernel
theorem dX1_come_1 : decode cX1_come 1 = .ok (.getfield 37, 3) := by decide +kernel
theorem dX1_come_4 : decode cX1_come 4 = .ok (.bipush 12, 2) := by decide +kernel
theorem dX1_come_6 : decode cX1_come 6 = .ok (.if_icmp .lt 6, 3) := by decide +kernel
theorem dX1_come_9 : decode cX1_come 9 = .ok (.bipush (-4), 2) := by decide +kernel
theorem dX1_come_11 : decode cX1_come 11 = .ok (.ireturn, 1) := by decide +kernel
theorem dX1_come_12 : decode cX1_come 12 = .ok (.aload_n 0, 1) := by decide +kernel
theorem dX1_come_13 : decode cX1_come 13 = .ok (.getfield 37, 3) := by decide +kernel
theorem dX1_come_16 : decode cX1_come 16 = .ok (.istore_n 2, 1) := by decide +kernel
theorem dX1_come_17 : decode cX1_come 17 = .ok (.aload_n 0, 1) := by decide +kernel
theorem dX1_come_18 : decode cX1_come 18 = .ok (.getfield 9, 3) := by decide +kernel
theorem dX1_come_21 : decode cX1_come 21 = .ok (.iload_n 2, 1) := by decide +kernel
theorem dX1_come_22 : decode cX1_come 22 = .ok (.iload_n 1, 1) := by decide +kernel
theorem dX1_come_23 : decode cX1_come 23 = .ok (.iastore, 1) := by decide +kernel
theorem dX1_come_24 : decode cX1_come 24 = .ok (.aload_n 0, 1) := by decide +kernel
theorem dX1_come_25 : decode cX1_come 25 = .ok (.getfield 15, 3) := by decide +kernel
theorem dX1_come_28 : decode cX1_come 28 = .ok (.iload_n 2, 1) := by decide +kernel
theorem dX1_come_29 : decode cX1_come 29 = .ok (.bipush (-9), 2) := by decide +kernel
theorem dX1_come_31 : decode cX1_come 31 = .ok (.iastore, 1) := by decide +kernel
theorem dX1_come_32 : decode cX1_come 32 = .ok (.aload_n 0, 1) := by decide +kernel
theorem dX1_come_33 : decode cX1_come 33 = .ok (.getfield 18, 3) := by decide +kernel
theorem dX1_come_36 : decode cX1_come 36 = .ok (.iload_n 2, 1) := by decide +kernel
theorem dX1_come_37 : decode cX1_come 37 = .ok (.iconst 0, 1) := by decide +kernel
theorem dX1_come_38 : decode cX1_come 38 = .ok (.bastore, 1) := by decide +kernel
theorem dX1_come_39 : decode cX1_come 39 = .ok (.aload_n 0, 1) := by decide +kernel
theorem dX1_come_40 : decode cX1_come 40 = .ok (.dup, 1) := by decide +kernel
theorem dX1_come_41 : decode cX1_come 41 = .ok (.getfield 37, 3) := by decide +kernel
theorem dX1_come_44 : decode cX1_come 44 = .ok (.iconst 1, 1) := by decide +kernel
theorem dX1_come_45 : decode cX1_come 45 = .ok (.iadd, 1) := by decide +kernel
theorem dX1_come_46 : decode cX1_come 46 = .ok (.putfield 37, 3) := by decide +kernel
theorem dX1_come_49 : decode cX1_come 49 = .ok (.aload_n 0, 1) := by decide +kernel
theorem dX1_come_50 : decode cX1_come 50 = .ok (.iload_n 2, 1) := by decide +kernel
theorem dX1_come_51 : decode cX1_come 51 = .ok (.invokevirtual 55, 3) := by decide +kernel
theorem dX1_come_54 : decode cX1_come 54 = .ok (.iload_n 2, 1) := by decide +kernel
theorem dX1_come_55 : decode cX1_come 55 = .ok (.ireturn, 1) := by decide +kernel
theorem dX1_mayStandFor_0 : decode cX1_mayStandFor 0 = .ok (.iconst (-1), 1) := by decide +kernel
theorem dX1_mayStandFor_1 : decode cX1_mayStandFor 1 = .ok (.iload_n 1, 1) := by decide +kernel
theorem dX1_mayStandFor_2 : decode cX1_mayStandFor 2 = .ok (.ishl, 1) := by decide +kernel
theorem dX1_mayStandFor_3 : decode cX1_mayStandFor 3 = .ok (.istore_n 3, 1) := by decide +kernel
theorem dX1_mayStandFor_4 : decode cX1_mayStandFor 4 = .ok (.aload_n 0, 1) := by decide +kernel
theorem dX1_mayStandFor_5 : decode cX1_mayStandFor 5 = .ok (.getfield 33, 3) := by decide +kernel
theorem dX1_mayStandFor_8 : decode cX1_mayStandFor 8 = .ok (.iload_n 2, 1) := by decide +kernel
theorem dX1_mayStandFor_9 : decode cX1_mayStandFor 9 = .ok (.invokevirtual 59, 3) := by decide +kernel
theorem dX1_mayStandFor_12 : decode cX1_mayStandFor 12 = .ok (.iload_n 3, 1) := by decide +kernel
theorem dX1_mayStandFor_13 : decode cX1_mayStandFor 13 = .ok (.iand, 1) := by decide +kernel
theorem dX1_mayStandFor_14 : decode cX1_mayStandFor 14 = .ok (.ifCond .eq 5, 3) := by decide +kernel
theorem dX1_mayStandFor_17 : decode cX1_mayStandFor 17 = .ok (.iconst 0, 1) := by decide +kernel
theorem dX1_mayStandFor_18 : decode cX1_mayStandFor 18 = .ok (.ireturn, 1) := by decide +kernel
theorem dX1_mayStandFor_19 : decode cX1_mayStandFor 19 = .ok (.aload_n 0, 1) := by decide +kernel
theorem dX1_mayStandFor_20 : decode cX1_mayStandFor 20 = .ok (.iload_n 1, 1) := by decide +kernel
theorem dX1_mayStandFor_21 : decode cX1_mayStandFor 21 = .ok (.invokevirtual 64, 3) := by decide +kernel
theorem dX1_mayStandFor_24 : decode cX1_mayStandFor 24 = .ok (.istore 4, 2) := by decide +kernel
theorem dX1_mayStandFor_26 : decode cX1_mayStandFor 26 = .ok (.iload 4, 2) := by decide +kernel
theorem dX1_mayStandFor_28 : decode cX1_mayStandFor 28 = .ok (.iconst 2, 1) := by decide +kernel
theorem dX1_mayStandFor_29 : decode cX1_mayStandFor 29 = .ok (.if_icmp .ge 24, 3) := by decide +kernel
theorem dX1_mayStandFor_32 : decode cX1_mayStandFor 32 = .ok (.aload_n 0, 1) := by decide +kernel
theorem dX1_mayStandFor_33 : decode cX1_mayStandFor 33 = .ok (.getfield 33, 3) := by decide +kernel
theorem dX1_mayStandFor_36 : decode cX1_mayStandFor 36 = .ok (.iload_n 2, 1) := by decide +kernel
theorem dX1_mayStandFor_37 : decode cX1_mayStandFor 37 = .ok (.iload 4, 2) := by decide +kernel
theorem dX1_mayStandFor_39 : decode cX1_mayStandFor 39 = .ok (.invokevirtual 67, 3) := by decide +kernel
theorem dX1_mayStandFor_42 : decode cX1_mayStandFor 42 = .ok (.ifCond .eq 5, 3) := by decide +kernel
theorem dX1_mayStandFor_45 : decode cX1_mayStandFor 45 = .ok (.iconst 0, 1) := by decide +kernel
theorem dX1_mayStandFor_46 : decode cX1_mayStandFor 46 = .ok (.ireturn, 1) := by decide +kernel
theorem dX1_mayStandFor_47 : decode cX1_mayStandFor 47 = .ok (.iinc 4 1, 3) := by decide +kernel
theorem dX1_mayStandFor_50 : decode cX1_mayStandFor 50 = .ok (.goto (-24), 3) := by decide +kernel
theorem dX1_mayStandFor_53 : decode cX1_mayStandFor 53 = .ok (.iconst 1, 1) := by decide +kernel
theorem dX1_mayStandFor_54 : decode cX1_mayStandFor 54 = .ok (.ireturn, 1) := by decide +kernel
theorem dX1_redefine_0 : decode cX1_redefine 0 = .ok (.aload_n 0, 1) := by decide +kernel
theorem dX1_redefine_1 : decode cX1_redefine 1 = .ok (.iload_n 1, 1) := by decide +kernel
theorem dX1_redefine_2 : decode cX1_redefine 2 = .ok (.invokevirtual 45, 3) := by decide +kernel
theorem dX1_redefine_5 : decode cX1_redefine 5 = .ok (.ifCond .ne 5, 3) := by decide +kernel
theorem dX1_redefine_8 : decode cX1_redefine 8 = .ok (.iconst (-1), 1) := by decide +kernel
theorem dX1_redefine_9 : decode cX1_redefine 9 = .ok (.ireturn, 1) := by decide +kernel
theorem dX1_redefine_10 : decode cX1_redefine 10 = .ok (.aload_n 0, 1) := by decide +kernel
theorem dX1_redefine_11 : decode cX1_redefine 11 = .ok (.getfield 15, 3) := by decide +kernel
theorem dX1_redefine_14 : decode cX1_redefine 14 = .ok (.iload_n 1, 1) := by decide +kernel
theorem dX1_redefine_15 : decode cX1_redefine 15 = .ok (.iaload, 1) := by decide +kernel
theorem dX1_redefine_16 : decode cX1_redefine 16 = .ok (.istore_n 3, 1) := by decide +kernel
theorem dX1_redefine_17 : decode cX1_redefine 17 = .ok (.aload_n 0, 1) := by decide +kernel
theorem dX1_redefine_18 : decode cX1_redefine 18 = .ok (.getfield 15, 3) := by decide +kernel
theorem dX1_redefine_21 : decode cX1_redefine 21 = .ok (.iload_n 1, 1) := by decide +kernel
theorem dX1_redefine_22 : decode cX1_redefine 22 = .ok (.iload_n 2, 1) := by decide +kernel
theorem dX1_redefine_23 : decode cX1_redefine 23 = .ok (.iastore, 1) := by decide +kernel
theorem dX1_redefine_24 : decode cX1_redefine 24 = .ok (.aload_n 0, 1) := by decide +kernel
theorem dX1_redefine_25 : decode cX1_redefine 25 = .ok (.iload_n 1, 1) := by decide +kernel
theorem dX1_redefine_26 : decode cX1_redefine 26 = .ok (.invokevirtual 55, 3) := by decide +kernel
theorem dX1_redefine_29 : decode cX1_redefine 29 = .ok (.iload_n 3, 1) := by decide +kernel
theorem dX1_redefine_30 : decode cX1_redefine 30 = .ok (.ireturn, 1) := by decide +kernel
theorem dX1_cover_0 : decode cX1_cover 0 = .ok (.aload_n 0, 1) := by decide +kernel
theorem dX1_cover_1 : decode cX1_cover 1 = .ok (.iload_n 1, 1) := by decide +kernel
theorem dX1_cover_2 : decode cX1_cover 2 = .ok (.invokevirtual 45, 3) := by decide +kernel
theorem dX1_cover_5 : decode cX1_cover 5 = .ok (.ifCond .eq 13, 3) := by decide +kernel
theorem dX1_cover_8 : decode cX1_cover 8 = .ok (.aload_n 0, 1) := by decide +kernel
theorem dX1_cover_9 : decode cX1_cover 9 = .ok (.getfield 18, 3) := by decide +kernel
theorem dX1_cover_12 : decode cX1_cover 12 = .ok (.iload_n 1, 1) := by decide +kernel
theorem dX1_cover_13 : decode cX1_cover 13 = .ok (.baload, 1) := by decide +kernel
theorem dX1_cover_14 : decode cX1_cover 14 = .ok (.iload_n 2, 1) := by decide +kernel
theorem dX1_cover_15 : decode cX1_cover 15 = .ok (.if_icmp .ne 5, 3) := by decide +kernel
theorem dX1_cover_18 : decode cX1_cover 18 = .ok (.iconst 0, 1) := by decide +kernel
theorem dX1_cover_19 : decode cX1_cover 19 = .ok (.ireturn, 1) := by decide +kernel
theorem dX1_cover_20 : decode cX1_cover 20 = .ok (.aload_n 0, 1) := by decide +kernel
theorem dX1_cover_21 : decode cX1_cover 21 = .ok (.getfield 18, 3) := by decide +kernel
theorem dX1_cover_24 : decode cX1_cover 24 = .ok (.iload_n 1, 1) := by decide +kernel
theorem dX1_cover_25 : decode cX1_cover 25 = .ok (.iload_n 2, 1) := by decide +kernel
theorem dX1_cover_26 : decode cX1_cover 26 = .ok (.bastore, 1) := by decide +kernel
theorem dX1_cover_27 : decode cX1_cover 27 = .ok (.aload_n 0, 1) := by decide +kernel
theorem dX1_cover_28 : decode cX1_cover 28 = .ok (.iload_n 1, 1) := by decide +kernel
theorem dX1_cover_29 : decode cX1_cover 29 = .ok (.invokevirtual 55, 3) := by decide +kernel
theorem dX1_cover_32 : decode cX1_cover 32 = .ok (.iconst 1, 1) := by decide +kernel
theorem dX1_cover_33 : decode cX1_cover 33 = .ok (.ireturn, 1) := by decide +kernel
theorem dX1_settleFrom_0 : decode cX1_settleFrom 0 = .ok (.iload_n 1, 1) := by decide +kernel
theorem dX1_settleFrom_1 : decode cX1_settleFrom 1 = .ok (.istore_n 2, 1) := by decide +kernel
theorem dX1_settleFrom_2 : decode cX1_settleFrom 2 = .ok (.iload_n 2, 1) := by decide +kernel
theorem dX1_settleFrom_3 : decode cX1_settleFrom 3 = .ok (.aload_n 0, 1) := by decide +kernel
theorem dX1_settleFrom_4 : decode cX1_settleFrom 4 = .ok (.getfield 37, 3) := by decide +kernel
theorem dX1_settleFrom_7 : decode cX1_settleFrom 7 = .ok (.if_icmp .ge 30, 3) := by decide +kernel
theorem dX1_settleFrom_10 : decode cX1_settleFrom 10 = .ok (.aload_n 0, 1) := by decide +kernel
theorem dX1_settleFrom_11 : decode cX1_settleFrom 11 = .ok (.iload_n 2, 1) := by decide +kernel
theorem dX1_settleFrom_12 : decode cX1_settleFrom 12 = .ok (.invokevirtual 41, 3) := by decide +kernel
theorem dX1_settleFrom_15 : decode cX1_settleFrom 15 = .ok (.ifCond .eq 11, 3) := by decide +kernel
theorem dX1_settleFrom_18 : decode cX1_settleFrom 18 = .ok (.aload_n 0, 1) := by decide +kernel
theorem dX1_settleFrom_19 : decode cX1_settleFrom 19 = .ok (.iload_n 2, 1) := by decide +kernel
theorem dX1_settleFrom_20 : decode cX1_settleFrom 20 = .ok (.invokevirtual 71, 3) := by decide +kernel
theorem dX1_settleFrom_23 : decode cX1_settleFrom 23 = .ok (.goto 8, 3) := by decide +kernel
theorem dX1_settleFrom_26 : decode cX1_settleFrom 26 = .ok (.aload_n 0, 1) := by decide +kernel
theorem dX1_settleFrom_27 : decode cX1_settleFrom 27 = .ok (.iload_n 2, 1) := by decide +kernel
theorem dX1_settleFrom_28 : decode cX1_settleFrom 28 = .ok (.invokevirtual 74, 3) := by decide +kernel
theorem dX1_settleFrom_31 : decode cX1_settleFrom 31 = .ok (.iinc 2 1, 3) := by decide +kernel
theorem dX1_settleFrom_34 : decode cX1_settleFrom 34 = .ok (.goto (-32), 3) := by decide +kernel
theorem dX1_settleFrom_37 : decode cX1_settleFrom 37 = .ok (.return_, 1) := by decide +kernel
theorem dX1_settlePlain_0 : decode cX1_settlePlain 0 = .ok (.aload_n 0, 1) := by decide +kernel
theorem dX1_settlePlain_1 : decode cX1_settlePlain 1 = .ok (.iload_n 1, 1) := by decide +kernel
theorem dX1_settlePlain_2 : decode cX1_settlePlain 2 = .ok (.invokevirtual 45, 3) := by decide +kernel
theorem dX1_settlePlain_5 : decode cX1_settlePlain 5 = .ok (.ifCond .ne 4, 3) := by decide +kernel
theorem dX1_settlePlain_8 : decode cX1_settlePlain 8 = .ok (.return_, 1) := by decide +kernel
theorem dX1_settlePlain_9 : decode cX1_settlePlain 9 = .ok (.aload_n 0, 1) := by decide +kernel
theorem dX1_settlePlain_10 : decode cX1_settlePlain 10 = .ok (.getfield 22, 3) := by decide +kernel
theorem dX1_settlePlain_13 : decode cX1_settlePlain 13 = .ok (.iload_n 1, 1) := by decide +kernel
theorem dX1_settlePlain_14 : decode cX1_settlePlain 14 = .ok (.iconst 0, 1) := by decide +kernel
theorem dX1_settlePlain_15 : decode cX1_settlePlain 15 = .ok (.iastore, 1) := by decide +kernel
theorem dX1_settlePlain_16 : decode cX1_settlePlain 16 = .ok (.aload_n 0, 1) := by decide +kernel
theorem dX1_settlePlain_17 : decode cX1_settlePlain 17 = .ok (.getfield 25, 3) := by decide +kernel
theorem dX1_settlePlain_20 : decode cX1_settlePlain 20 = .ok (.iload_n 1, 1) := by decide +kernel
theorem dX1_settlePlain_21 : decode cX1_settlePlain 21 = .ok (.iload_n 1, 1) := by decide +kernel
theorem dX1_settlePlain_22 : decode cX1_settlePlain 22 = .ok (.iastore, 1) := by decide +kernel
theorem dX1_settlePlain_23 : decode cX1_settlePlain 23 = .ok (.iconst 0, 1) := by decide +kernel
theorem dX1_settlePlain_24 : decode cX1_settlePlain 24 = .ok (.istore_n 2, 1) := by decide +kernel
theorem dX1_settlePlain_25 : decode cX1_settlePlain 25 = .ok (.iload_n 2, 1) := by decide +kernel
theorem dX1_settlePlain_26 : decode cX1_settlePlain 26 = .ok (.iconst 2, 1) := by decide +kernel
theorem dX1_settlePlain_27 : decode cX1_settlePlain 27 = .ok (.if_icmp .ge 32, 3) := by decide +kernel
theorem dX1_settlePlain_30 : decode cX1_settlePlain 30 = .ok (.aload_n 0, 1) := by decide +kernel
theorem dX1_settlePlain_31 : decode cX1_settlePlain 31 = .ok (.getfield 30, 3) := by decide +kernel
theorem dX1_settlePlain_34 : decode cX1_settlePlain 34 = .ok (.iload_n 2, 1) := by decide +kernel
theorem dX1_settlePlain_35 : decode cX1_settlePlain 35 = .ok (.aaload, 1) := by decide +kernel
theorem dX1_settlePlain_36 : decode cX1_settlePlain 36 = .ok (.iload_n 1, 1) := by decide +kernel
theorem dX1_settlePlain_37 : decode cX1_settlePlain 37 = .ok (.iload_n 2, 1) := by decide +kernel
theorem dX1_settlePlain_38 : decode cX1_settlePlain 38 = .ok (.aload_n 0, 1) := by decide +kernel
theorem dX1_settlePlain_39 : decode cX1_settlePlain 39 = .ok (.getfield 9, 3) := by decide +kernel
theorem dX1_settlePlain_42 : decode cX1_settlePlain 42 = .ok (.iload_n 1, 1) := by decide +kernel
theorem dX1_settlePlain_43 : decode cX1_settlePlain 43 = .ok (.iaload, 1) := by decide +kernel
theorem dX1_settlePlain_44 : decode cX1_settlePlain 44 = .ok (.if_icmp .ge 7, 3) := by decide +kernel
theorem dX1_settlePlain_47 : decode cX1_settlePlain 47 = .ok (.lconst 1, 1) := by decide +kernel
theorem dX1_settlePlain_48 : decode cX1_settlePlain 48 = .ok (.goto 4, 3) := by decide +kernel
theorem dX1_settlePlain_51 : decode cX1_settlePlain 51 = .ok (.lconst 0, 1) := by decide +kernel
theorem dX1_settlePlain_52 : decode cX1_settlePlain 52 = .ok (.lastore, 1) := by decide +kernel
theorem dX1_settlePlain_53 : decode cX1_settlePlain 53 = .ok (.iinc 2 1, 3) := by decide +kernel
theorem dX1_settlePlain_56 : decode cX1_settlePlain 56 = .ok (.goto (-31), 3) := by decide +kernel
theorem dX1_settlePlain_59 : decode cX1_settlePlain 59 = .ok (.aload_n 0, 1) := by decide +kernel
theorem dX1_settlePlain_60 : decode cX1_settlePlain 60 = .ok (.getfield 30, 3) := by decide +kernel
theorem dX1_settlePlain_63 : decode cX1_settlePlain 63 = .ok (.iconst 2, 1) := by decide +kernel
theorem dX1_settlePlain_64 : decode cX1_settlePlain 64 = .ok (.aaload, 1) := by decide +kernel
theorem dX1_settlePlain_65 : decode cX1_settlePlain 65 = .ok (.iload_n 1, 1) := by decide +kernel
theorem dX1_settlePlain_66 : decode cX1_settlePlain 66 = .ok (.lconst 1, 1) := by decide +kernel
theorem dX1_settlePlain_67 : decode cX1_settlePlain 67 = .ok (.lastore, 1) := by decide +kernel
theorem dX1_settlePlain_68 : decode cX1_settlePlain 68 = .ok (.aload_n 0, 1) := by decide +kernel
theorem dX1_settlePlain_69 : decode cX1_settlePlain 69 = .ok (.getfield 30, 3) := by decide +kernel
theorem dX1_settlePlain_72 : decode cX1_settlePlain 72 = .ok (.iconst 3, 1) := by decide +kernel
theorem dX1_settlePlain_73 : decode cX1_settlePlain 73 = .ok (.aaload, 1) := by decide +kernel
theorem dX1_settlePlain_74 : decode cX1_settlePlain 74 = .ok (.iload_n 1, 1) := by decide +kernel
theorem dX1_settlePlain_75 : decode cX1_settlePlain 75 = .ok (.lconst 0, 1) := by decide +kernel
theorem dX1_settlePlain_76 : decode cX1_settlePlain 76 = .ok (.lastore, 1) := by decide +kernel
theorem dX1_settlePlain_77 : decode cX1_settlePlain 77 = .ok (.return_, 1) := by decide +kernel
theorem dX1_settleFolded_0 : decode cX1_settleFolded 0 = .ok (.aload_n 0, 1) := by decide +kernel
theorem dX1_settleFolded_1 : decode cX1_settleFolded 1 = .ok (.iload_n 1, 1) := by decide +kernel
theorem dX1_settleFolded_2 : decode cX1_settleFolded 2 = .ok (.invokevirtual 45, 3) := by decide +kernel
theorem dX1_settleFolded_5 : decode cX1_settleFolded 5 = .ok (.ifCond .ne 4, 3) := by decide +kernel
theorem dX1_settleFolded_8 : decode cX1_settleFolded 8 = .ok (.return_, 1) := by decide +kernel
theorem dX1_settleFolded_9 : decode cX1_settleFolded 9 = .ok (.aload_n 0, 1) := by decide +kernel
theorem dX1_settleFolded_10 : decode cX1_settleFolded 10 = .ok (.getfield 15, 3) := by decide +kernel
theorem dX1_settleFolded_13 : decode cX1_settleFolded 13 = .ok (.iload_n 1, 1) := by decide +kernel
theorem dX1_settleFolded_14 : decode cX1_settleFolded 14 = .ok (.iaload, 1) := by decide +kernel
theorem dX1_settleFolded_15 : decode cX1_settleFolded 15 = .ok (.istore_n 2, 1) := by decide +kernel
theorem dX1_settleFolded_16 : decode cX1_settleFolded 16 = .ok (.aload_n 0, 1) := by decide +kernel
theorem dX1_settleFolded_17 : decode cX1_settleFolded 17 = .ok (.getfield 22, 3) := by decide +kernel
theorem dX1_settleFolded_20 : decode cX1_settleFolded 20 = .ok (.iload_n 1, 1) := by decide +kernel
theorem dX1_settleFolded_21 : decode cX1_settleFolded 21 = .ok (.iconst 1, 1) := by decide +kernel
theorem dX1_settleFolded_22 : decode cX1_settleFolded 22 = .ok (.aload_n 0, 1) := by decide +kernel
theorem dX1_settleFolded_23 : decode cX1_settleFolded 23 = .ok (.iload_n 2, 1) := by decide +kernel
theorem dX1_settleFolded_24 : decode cX1_settleFolded 24 = .ok (.invokevirtual 77, 3) := by decide +kernel
theorem dX1_settleFolded_27 : decode cX1_settleFolded 27 = .ok (.iadd, 1) := by decide +kernel
theorem dX1_settleFolded_28 : decode cX1_settleFolded 28 = .ok (.iastore, 1) := by decide +kernel
theorem dX1_settleFolded_29 : decode cX1_settleFolded 29 = .ok (.aload_n 0, 1) := by decide +kernel
theorem dX1_settleFolded_30 : decode cX1_settleFolded 30 = .ok (.getfield 25, 3) := by decide +kernel
theorem dX1_settleFolded_33 : decode cX1_settleFolded 33 = .ok (.iload_n 1, 1) := by decide +kernel
theorem dX1_settleFolded_34 : decode cX1_settleFolded 34 = .ok (.aload_n 0, 1) := by decide +kernel
theorem dX1_settleFolded_35 : decode cX1_settleFolded 35 = .ok (.iload_n 2, 1) := by decide +kernel
theorem dX1_settleFolded_36 : decode cX1_settleFolded 36 = .ok (.invokevirtual 80, 3) := by decide +kernel
theorem dX1_settleFolded_39 : decode cX1_settleFolded 39 = .ok (.iastore, 1) := by decide +kernel
theorem dX1_settleFolded_40 : decode cX1_settleFolded 40 = .ok (.iconst 0, 1) := by decide +kernel
theorem dX1_settleFolded_41 : decode cX1_settleFolded 41 = .ok (.istore_n 3, 1) := by decide +kernel
theorem dX1_settleFolded_42 : decode cX1_settleFolded 42 = .ok (.iload_n 3, 1) := by decide +kernel
theorem dX1_settleFolded_43 : decode cX1_settleFolded 43 = .ok (.iconst 4, 1) := by decide +kernel
theorem dX1_settleFolded_44 : decode cX1_settleFolded 44 = .ok (.if_icmp .ge 24, 3) := by decide +kernel
theorem dX1_settleFolded_47 : decode cX1_settleFolded 47 = .ok (.aload_n 0, 1) := by decide +kernel
theorem dX1_settleFolded_48 : decode cX1_settleFolded 48 = .ok (.getfield 30, 3) := by decide +kernel
theorem dX1_settleFolded_51 : decode cX1_settleFolded 51 = .ok (.iload_n 3, 1) := by decide +kernel
theorem dX1_settleFolded_52 : decode cX1_settleFolded 52 = .ok (.aaload, 1) := by decide +kernel
theorem dX1_settleFolded_53 : decode cX1_settleFolded 53 = .ok (.iload_n 1, 1) := by decide +kernel
theorem dX1_settleFolded_54 : decode cX1_settleFolded 54 = .ok (.aload_n 0, 1) := by decide +kernel
theorem dX1_settleFolded_55 : decode cX1_settleFolded 55 = .ok (.iload_n 2, 1) := by decide +kernel
theorem dX1_settleFolded_56 : decode cX1_settleFolded 56 = .ok (.iload_n 3, 1) := by decide +kernel
theorem dX1_settleFolded_57 : decode cX1_settleFolded 57 = .ok (.iconst 1, 1) := by decide +kernel
theorem dX1_settleFolded_58 : decode cX1_settleFolded 58 = .ok (.invokevirtual 83, 3) := by decide +kernel
theorem dX1_settleFolded_61 : decode cX1_settleFolded 61 = .ok (.lastore, 1) := by decide +kernel
theorem dX1_settleFolded_62 : decode cX1_settleFolded 62 = .ok (.iinc 3 1, 3) := by decide +kernel
theorem dX1_settleFolded_65 : decode cX1_settleFolded 65 = .ok (.goto (-23), 3) := by decide +kernel
theorem dX1_settleFolded_68 : decode cX1_settleFolded 68 = .ok (.aload_n 0, 1) := by decide +kernel
theorem dX1_settleFolded_69 : decode cX1_settleFolded 69 = .ok (.getfield 30, 3) := by decide +kernel
theorem dX1_settleFolded_72 : decode cX1_settleFolded 72 = .ok (.iconst 3, 1) := by decide +kernel
theorem dX1_settleFolded_73 : decode cX1_settleFolded 73 = .ok (.aaload, 1) := by decide +kernel
theorem dX1_settleFolded_74 : decode cX1_settleFolded 74 = .ok (.iload_n 1, 1) := by decide +kernel
theorem dX1_settleFolded_75 : decode cX1_settleFolded 75 = .ok (.lconst 1, 1) := by decide +kernel
theorem dX1_settleFolded_76 : decode cX1_settleFolded 76 = .ok (.aload_n 0, 1) := by decide +kernel
theorem dX1_settleFolded_77 : decode cX1_settleFolded 77 = .ok (.getfield 30, 3) := by decide +kernel
theorem dX1_settleFolded_80 : decode cX1_settleFolded 80 = .ok (.iconst 3, 1) := by decide +kernel
theorem dX1_settleFolded_81 : decode cX1_settleFolded 81 = .ok (.aaload, 1) := by decide +kernel
theorem dX1_settleFolded_82 : decode cX1_settleFolded 82 = .ok (.iload_n 1, 1) := by decide +kernel
theorem dX1_settleFolded_83 : decode cX1_settleFolded 83 = .ok (.laload, 1) := by decide +kernel
theorem dX1_settleFolded_84 : decode cX1_settleFolded 84 = .ok (.invokestatic 87, 3) := by decide +kernel
theorem dX1_settleFolded_87 : decode cX1_settleFolded 87 = .ok (.lastore, 1) := by decide +kernel
theorem dX1_settleFolded_88 : decode cX1_settleFolded 88 = .ok (.return_, 1) := by decide +kernel
theorem dX1_greatestHeightIn_0 : decode cX1_greatestHeightIn 0 = .ok (.aload_n 0, 1) := by decide +kernel
theorem dX1_greatestHeightIn_1 : decode cX1_greatestHeightIn 1 = .ok (.getfield 33, 3) := by decide +kernel
theorem dX1_greatestHeightIn_4 : decode cX1_greatestHeightIn 4 = .ok (.iload_n 1, 1) := by decide +kernel
theorem dX1_greatestHeightIn_5 : decode cX1_greatestHeightIn 5 = .ok (.invokevirtual 59, 3) := by decide +kernel
theorem dX1_greatestHeightIn_8 : decode cX1_greatestHeightIn 8 = .ok (.istore_n 2, 1) := by decide +kernel
theorem dX1_greatestHeightIn_9 : decode cX1_greatestHeightIn 9 = .ok (.iconst 0, 1) := by decide +kernel
theorem dX1_greatestHeightIn_10 : decode cX1_greatestHeightIn 10 = .ok (.istore_n 3, 1) := by decide +kernel
theorem dX1_greatestHeightIn_11 : decode cX1_greatestHeightIn 11 = .ok (.iconst 0, 1) := by decide +kernel
theorem dX1_greatestHeightIn_12 : decode cX1_greatestHeightIn 12 = .ok (.istore 4, 2) := by decide +kernel
theorem dX1_greatestHeightIn_14 : decode cX1_greatestHeightIn 14 = .ok (.iload 4, 2) := by decide +kernel
theorem dX1_greatestHeightIn_16 : decode cX1_greatestHeightIn 16 = .ok (.aload_n 0, 1) := by decide +kernel
theorem dX1_greatestHeightIn_17 : decode cX1_greatestHeightIn 17 = .ok (.getfield 37, 3) := by decide +kernel
theorem dX1_greatestHeightIn_20 : decode cX1_greatestHeightIn 20 = .ok (.if_icmp .ge 31, 3) := by decide +kernel
theorem dX1_greatestHeightIn_23 : decode cX1_greatestHeightIn 23 = .ok (.iload_n 2, 1) := by decide +kernel
theorem dX1_greatestHeightIn_24 : decode cX1_greatestHeightIn 24 = .ok (.iload 4, 2) := by decide +kernel
theorem dX1_greatestHeightIn_26 : decode cX1_greatestHeightIn 26 = .ok (.ishr, 1) := by decide +kernel
theorem dX1_greatestHeightIn_27 : decode cX1_greatestHeightIn 27 = .ok (.iconst 1, 1) := by decide +kernel
theorem dX1_greatestHeightIn_28 : decode cX1_greatestHeightIn 28 = .ok (.iand, 1) := by decide +kernel
theorem dX1_greatestHeightIn_29 : decode cX1_greatestHeightIn 29 = .ok (.iconst 1, 1) := by decide +kernel
theorem dX1_greatestHeightIn_30 : decode cX1_greatestHeightIn 30 = .ok (.if_icmp .ne 15, 3) := by decide +kernel
theorem dX1_greatestHeightIn_33 : decode cX1_greatestHeightIn 33 = .ok (.iload_n 3, 1) := by decide +kernel
theorem dX1_greatestHeightIn_34 : decode cX1_greatestHeightIn 34 = .ok (.aload_n 0, 1) := by decide +kernel
theorem dX1_greatestHeightIn_35 : decode cX1_greatestHeightIn 35 = .ok (.getfield 22, 3) := by decide +kernel
theorem dX1_greatestHeightIn_38 : decode cX1_greatestHeightIn 38 = .ok (.iload 4, 2) := by decide +kernel
theorem dX1_greatestHeightIn_40 : decode cX1_greatestHeightIn 40 = .ok (.iaload, 1) := by decide +kernel
theorem dX1_greatestHeightIn_41 : decode cX1_greatestHeightIn 41 = .ok (.invokestatic 91, 3) := by decide +kernel
theorem dX1_greatestHeightIn_44 : decode cX1_greatestHeightIn 44 = .ok (.istore_n 3, 1) := by decide +kernel
theorem dX1_greatestHeightIn_45 : decode cX1_greatestHeightIn 45 = .ok (.iinc 4 1, 3) := by decide +kernel
theorem dX1_greatestHeightIn_48 : decode cX1_greatestHeightIn 48 = .ok (.goto (-34), 3) := by decide +kernel
theorem dX1_greatestHeightIn_51 : decode cX1_greatestHeightIn 51 = .ok (.iload_n 3, 1) := by decide +kernel
theorem dX1_greatestHeightIn_52 : decode cX1_greatestHeightIn 52 = .ok (.ireturn, 1) := by decide +kernel
theorem dX1_frontOfWhole_0 : decode cX1_frontOfWhole 0 = .ok (.iload_n 1, 1) := by decide +kernel
theorem dX1_frontOfWhole_1 : decode cX1_frontOfWhole 1 = .ok (.istore_n 2, 1) := by decide +kernel
theorem dX1_frontOfWhole_2 : decode cX1_frontOfWhole 2 = .ok (.iconst 0, 1) := by decide +kernel
theorem dX1_frontOfWhole_3 : decode cX1_frontOfWhole 3 = .ok (.istore_n 3, 1) := by decide +kernel
theorem dX1_frontOfWhole_4 : decode cX1_frontOfWhole 4 = .ok (.iload_n 3, 1) := by decide +kernel
theorem dX1_frontOfWhole_5 : decode cX1_frontOfWhole 5 = .ok (.iconst 4, 1) := by decide +kernel
theorem dX1_frontOfWhole_6 : decode cX1_frontOfWhole 6 = .ok (.if_icmp .ge 64, 3) := by decide +kernel
theorem dX1_frontOfWhole_9 : decode cX1_frontOfWhole 9 = .ok (.aload_n 0, 1) := by decide +kernel
theorem dX1_frontOfWhole_10 : decode cX1_frontOfWhole 10 = .ok (.getfield 33, 3) := by decide +kernel
theorem dX1_frontOfWhole_13 : decode cX1_frontOfWhole 13 = .ok (.iload_n 2, 1) := by decide +kernel
theorem dX1_frontOfWhole_14 : decode cX1_frontOfWhole 14 = .ok (.invokevirtual 96, 3) := by decide +kernel
theorem dX1_frontOfWhole_17 : decode cX1_frontOfWhole 17 = .ok (.istore 4, 2) := by decide +kernel
theorem dX1_frontOfWhole_19 : decode cX1_frontOfWhole 19 = .ok (.aload_n 0, 1) := by decide +kernel
theorem dX1_frontOfWhole_20 : decode cX1_frontOfWhole 20 = .ok (.iload 4, 2) := by decide +kernel
theorem dX1_frontOfWhole_22 : decode cX1_frontOfWhole 22 = .ok (.invokevirtual 45, 3) := by decide +kernel
theorem dX1_frontOfWhole_25 : decode cX1_frontOfWhole 25 = .ok (.ifCond .ne 6, 3) := by decide +kernel
theorem dX1_frontOfWhole_28 : decode cX1_frontOfWhole 28 = .ok (.iload 4, 2) := by decide +kernel
theorem dX1_frontOfWhole_30 : decode cX1_frontOfWhole 30 = .ok (.ireturn, 1) := by decide +kernel
theorem dX1_frontOfWhole_31 : decode cX1_frontOfWhole 31 = .ok (.aload_n 0, 1) := by decide +kernel
theorem dX1_frontOfWhole_32 : decode cX1_frontOfWhole 32 = .ok (.getfield 25, 3) := by decide +kernel
theorem dX1_frontOfWhole_35 : decode cX1_frontOfWhole 35 = .ok (.iload 4, 2) := by decide +kernel
theorem dX1_frontOfWhole_37 : decode cX1_frontOfWhole 37 = .ok (.iaload, 1) := by decide +kernel
theorem dX1_frontOfWhole_38 : decode cX1_frontOfWhole 38 = .ok (.istore 5, 2) := by decide +kernel
theorem dX1_frontOfWhole_40 : decode cX1_frontOfWhole 40 = .ok (.iload 5, 2) := by decide +kernel
theorem dX1_frontOfWhole_42 : decode cX1_frontOfWhole 42 = .ok (.bipush 100, 2) := by decide +kernel
theorem dX1_frontOfWhole_44 : decode cX1_frontOfWhole 44 = .ok (.if_icmp .ge 6, 3) := by decide +kernel
theorem dX1_frontOfWhole_47 : decode cX1_frontOfWhole 47 = .ok (.iload 5, 2) := by decide +kernel
theorem dX1_frontOfWhole_49 : decode cX1_frontOfWhole 49 = .ok (.ireturn, 1) := by decide +kernel
theorem dX1_frontOfWhole_50 : decode cX1_frontOfWhole 50 = .ok (.aload_n 0, 1) := by decide +kernel
theorem dX1_frontOfWhole_51 : decode cX1_frontOfWhole 51 = .ok (.getfield 33, 3) := by decide +kernel
theorem dX1_frontOfWhole_54 : decode cX1_frontOfWhole 54 = .ok (.iload_n 2, 1) := by decide +kernel
theorem dX1_frontOfWhole_55 : decode cX1_frontOfWhole 55 = .ok (.iload 5, 2) := by decide +kernel
theorem dX1_frontOfWhole_57 : decode cX1_frontOfWhole 57 = .ok (.bipush 100, 2) := by decide +kernel
theorem dX1_frontOfWhole_59 : decode cX1_frontOfWhole 59 = .ok (.isub, 1) := by decide +kernel
theorem dX1_frontOfWhole_60 : decode cX1_frontOfWhole 60 = .ok (.invokevirtual 99, 3) := by decide +kernel
theorem dX1_frontOfWhole_63 : decode cX1_frontOfWhole 63 = .ok (.istore_n 2, 1) := by decide +kernel
theorem dX1_frontOfWhole_64 : decode cX1_frontOfWhole 64 = .ok (.iinc 3 1, 3) := by decide +kernel
theorem dX1_frontOfWhole_67 : decode cX1_frontOfWhole 67 = .ok (.goto (-63), 3) := by decide +kernel
theorem dX1_frontOfWhole_70 : decode cX1_frontOfWhole 70 = .ok (.bipush (-9), 2) := by decide +kernel
theorem dX1_frontOfWhole_72 : decode cX1_frontOfWhole 72 = .ok (.ireturn, 1) := by decide +kernel
theorem dX1_countInWhole_0 : decode cX1_countInWhole 0 = .ok (.iload_n 2, 1) := by decide +kernel
theorem dX1_countInWhole_1 : decode cX1_countInWhole 1 = .ok (.ifCond .lt 13, 3) := by decide +kernel
theorem dX1_countInWhole_4 : decode cX1_countInWhole 4 = .ok (.iload_n 2, 1) := by decide +kernel
theorem dX1_countInWhole_5 : decode cX1_countInWhole 5 = .ok (.iconst 4, 1) := by decide +kernel
theorem dX1_countInWhole_6 : decode cX1_countInWhole 6 = .ok (.if_icmp .ge 8, 3) := by decide +kernel
theorem dX1_countInWhole_9 : decode cX1_countInWhole 9 = .ok (.iload_n 3, 1) := by decide +kernel
theorem dX1_countInWhole_10 : decode cX1_countInWhole 10 = .ok (.iconst 4, 1) := by decide +kernel
theorem dX1_countInWhole_11 : decode cX1_countInWhole 11 = .ok (.if_icmp .le 5, 3) := by decide +kernel
theorem dX1_countInWhole_14 : decode cX1_countInWhole 14 = .ok (.lconst 0, 1) := by decide +kernel
theorem dX1_countInWhole_15 : decode cX1_countInWhole 15 = .ok (.lreturn, 1) := by decide +kernel
theorem dX1_countInWhole_16 : decode cX1_countInWhole 16 = .ok (.aload_n 0, 1) := by decide +kernel
theorem dX1_countInWhole_17 : decode cX1_countInWhole 17 = .ok (.getfield 33, 3) := by decide +kernel
theorem dX1_countInWhole_20 : decode cX1_countInWhole 20 = .ok (.iload_n 1, 1) := by decide +kernel
theorem dX1_countInWhole_21 : decode cX1_countInWhole 21 = .ok (.invokevirtual 96, 3) := by decide +kernel
theorem dX1_countInWhole_24 : decode cX1_countInWhole 24 = .ok (.istore 4, 2) := by decide +kernel
theorem dX1_countInWhole_26 : decode cX1_countInWhole 26 = .ok (.aload_n 0, 1) := by decide +kernel
theorem dX1_countInWhole_27 : decode cX1_countInWhole 27 = .ok (.iload 4, 2) := by decide +kernel
theorem dX1_countInWhole_29 : decode cX1_countInWhole 29 = .ok (.invokevirtual 45, 3) := by decide +kernel
theorem dX1_countInWhole_32 : decode cX1_countInWhole 32 = .ok (.ifCond .ne 18, 3) := by decide +kernel
theorem dX1_countInWhole_35 : decode cX1_countInWhole 35 = .ok (.iload 4, 2) := by decide +kernel
theorem dX1_countInWhole_37 : decode cX1_countInWhole 37 = .ok (.bipush 100, 2) := by decide +kernel
theorem dX1_countInWhole_39 : decode cX1_countInWhole 39 = .ok (.iload_n 2, 1) := by decide +kernel
theorem dX1_countInWhole_40 : decode cX1_countInWhole 40 = .ok (.iadd, 1) := by decide +kernel
theorem dX1_countInWhole_41 : decode cX1_countInWhole 41 = .ok (.if_icmp .ne 7, 3) := by decide +kernel
theorem dX1_countInWhole_44 : decode cX1_countInWhole 44 = .ok (.lconst 1, 1) := by decide +kernel
theorem dX1_countInWhole_45 : decode cX1_countInWhole 45 = .ok (.goto 4, 3) := by decide +kernel
theorem dX1_countInWhole_48 : decode cX1_countInWhole 48 = .ok (.lconst 0, 1) := by decide +kernel
theorem dX1_countInWhole_49 : decode cX1_countInWhole 49 = .ok (.lreturn, 1) := by decide +kernel
theorem dX1_countInWhole_50 : decode cX1_countInWhole 50 = .ok (.iload_n 2, 1) := by decide +kernel
theorem dX1_countInWhole_51 : decode cX1_countInWhole 51 = .ok (.iconst 2, 1) := by decide +kernel
theorem dX1_countInWhole_52 : decode cX1_countInWhole 52 = .ok (.if_icmp .ge 7, 3) := by decide +kernel
theorem dX1_countInWhole_55 : decode cX1_countInWhole 55 = .ok (.lconst 0, 1) := by decide +kernel
theorem dX1_countInWhole_56 : decode cX1_countInWhole 56 = .ok (.goto 12, 3) := by decide +kernel
theorem dX1_countInWhole_59 : decode cX1_countInWhole 59 = .ok (.aload_n 0, 1) := by decide +kernel
theorem dX1_countInWhole_60 : decode cX1_countInWhole 60 = .ok (.getfield 30, 3) := by decide +kernel
theorem dX1_countInWhole_63 : decode cX1_countInWhole 63 = .ok (.iload_n 2, 1) := by decide +kernel
theorem dX1_countInWhole_64 : decode cX1_countInWhole 64 = .ok (.aaload, 1) := by decide +kernel
theorem dX1_countInWhole_65 : decode cX1_countInWhole 65 = .ok (.iload 4, 2) := by decide +kernel
theorem dX1_countInWhole_67 : decode cX1_countInWhole 67 = .ok (.laload, 1) := by decide +kernel
theorem dX1_countInWhole_68 : decode cX1_countInWhole 68 = .ok (.lstore 5, 2) := by decide +kernel
theorem dX1_countInWhole_70 : decode cX1_countInWhole 70 = .ok (.iconst 0, 1) := by decide +kernel
theorem dX1_countInWhole_71 : decode cX1_countInWhole 71 = .ok (.istore 7, 2) := by decide +kernel
theorem dX1_countInWhole_73 : decode cX1_countInWhole 73 = .ok (.iload 7, 2) := by decide +kernel
theorem dX1_countInWhole_75 : decode cX1_countInWhole 75 = .ok (.aload_n 0, 1) := by decide +kernel
theorem dX1_countInWhole_76 : decode cX1_countInWhole 76 = .ok (.getfield 9, 3) := by decide +kernel
theorem dX1_countInWhole_79 : decode cX1_countInWhole 79 = .ok (.iload 4, 2) := by decide +kernel
theorem dX1_countInWhole_81 : decode cX1_countInWhole 81 = .ok (.iaload, 1) := by decide +kernel
theorem dX1_countInWhole_82 : decode cX1_countInWhole 82 = .ok (.if_icmp .ge 57, 3) := by decide +kernel
theorem dX1_countInWhole_85 : decode cX1_countInWhole 85 = .ok (.iload 7, 2) := by decide +kernel
theorem dX1_countInWhole_87 : decode cX1_countInWhole 87 = .ok (.iconst 2, 1) := by decide +kernel
theorem dX1_countInWhole_88 : decode cX1_countInWhole 88 = .ok (.if_icmp .ge 51, 3) := by decide +kernel
theorem dX1_countInWhole_91 : decode cX1_countInWhole 91 = .ok (.aload_n 0, 1) := by decide +kernel
theorem dX1_countInWhole_92 : decode cX1_countInWhole 92 = .ok (.aload_n 0, 1) := by decide +kernel
theorem dX1_countInWhole_93 : decode cX1_countInWhole 93 = .ok (.getfield 33, 3) := by decide +kernel
theorem dX1_countInWhole_96 : decode cX1_countInWhole 96 = .ok (.iload_n 1, 1) := by decide +kernel
theorem dX1_countInWhole_97 : decode cX1_countInWhole 97 = .ok (.iload 7, 2) := by decide +kernel
theorem dX1_countInWhole_99 : decode cX1_countInWhole 99 = .ok (.invokevirtual 99, 3) := by decide +kernel
theorem dX1_countInWhole_102 : decode cX1_countInWhole 102 = .ok (.iload_n 2, 1) := by decide +kernel
theorem dX1_countInWhole_103 : decode cX1_countInWhole 103 = .ok (.iload_n 3, 1) := by decide +kernel
theorem dX1_countInWhole_104 : decode cX1_countInWhole 104 = .ok (.iconst 1, 1) := by decide +kernel
theorem dX1_countInWhole_105 : decode cX1_countInWhole 105 = .ok (.iadd, 1) := by decide +kernel
theorem dX1_countInWhole_106 : decode cX1_countInWhole 106 = .ok (.invokevirtual 83, 3) := by decide +kernel
theorem dX1_countInWhole_109 : decode cX1_countInWhole 109 = .ok (.lstore 8, 2) := by decide +kernel
theorem dX1_countInWhole_111 : decode cX1_countInWhole 111 = .ok (.lload 5, 2) := by decide +kernel
theorem dX1_countInWhole_113 : decode cX1_countInWhole 113 = .ok (.aload_n 0, 1) := by decide +kernel
theorem dX1_countInWhole_114 : decode cX1_countInWhole 114 = .ok (.getfield 30, 3) := by decide +kernel
theorem dX1_countInWhole_117 : decode cX1_countInWhole 117 = .ok (.iload 7, 2) := by decide +kernel
theorem dX1_countInWhole_119 : decode cX1_countInWhole 119 = .ok (.aaload, 1) := by decide +kernel
theorem dX1_countInWhole_120 : decode cX1_countInWhole 120 = .ok (.iload 4, 2) := by decide +kernel
theorem dX1_countInWhole_122 : decode cX1_countInWhole 122 = .ok (.laload, 1) := by decide +kernel
theorem dX1_countInWhole_123 : decode cX1_countInWhole 123 = .ok (.lload 8, 2) := by decide +kernel
theorem dX1_countInWhole_125 : decode cX1_countInWhole 125 = .ok (.invokestatic 102, 3) := by decide +kernel
theorem dX1_countInWhole_128 : decode cX1_countInWhole 128 = .ok (.invokestatic 87, 3) := by decide +kernel
theorem dX1_countInWhole_131 : decode cX1_countInWhole 131 = .ok (.lstore 5, 2) := by decide +kernel
theorem dX1_countInWhole_133 : decode cX1_countInWhole 133 = .ok (.iinc 7 1, 3) := by decide +kernel
theorem dX1_countInWhole_136 : decode cX1_countInWhole 136 = .ok (.goto (-63), 3) := by decide +kernel
theorem dX1_countInWhole_139 : decode cX1_countInWhole 139 = .ok (.lload 5, 2) := by decide +kernel
theorem dX1_countInWhole_141 : decode cX1_countInWhole 141 = .ok (.lreturn, 1) := by decide +kernel
theorem dX1_sizeUnfolded_0 : decode cX1_sizeUnfolded 0 = .ok (.aload_n 0, 1) := by decide +kernel
theorem dX1_sizeUnfolded_1 : decode cX1_sizeUnfolded 1 = .ok (.getfield 33, 3) := by decide +kernel
theorem dX1_sizeUnfolded_4 : decode cX1_sizeUnfolded 4 = .ok (.iload_n 1, 1) := by decide +kernel
theorem dX1_sizeUnfolded_5 : decode cX1_sizeUnfolded 5 = .ok (.invokevirtual 96, 3) := by decide +kernel
theorem dX1_sizeUnfolded_8 : decode cX1_sizeUnfolded 8 = .ok (.istore_n 2, 1) := by decide +kernel
theorem dX1_sizeUnfolded_9 : decode cX1_sizeUnfolded 9 = .ok (.aload_n 0, 1) := by decide +kernel
theorem dX1_sizeUnfolded_10 : decode cX1_sizeUnfolded 10 = .ok (.iload_n 2, 1) := by decide +kernel
theorem dX1_sizeUnfolded_11 : decode cX1_sizeUnfolded 11 = .ok (.invokevirtual 41, 3) := by decide +kernel
theorem dX1_sizeUnfolded_14 : decode cX1_sizeUnfolded 14 = .ok (.ifCond .ne 5, 3) := by decide +kernel
theorem dX1_sizeUnfolded_17 : decode cX1_sizeUnfolded 17 = .ok (.lconst 0, 1) := by decide +kernel
theorem dX1_sizeUnfolded_18 : decode cX1_sizeUnfolded 18 = .ok (.lreturn, 1) := by decide +kernel
theorem dX1_sizeUnfolded_19 : decode cX1_sizeUnfolded 19 = .ok (.aload_n 0, 1) := by decide +kernel
theorem dX1_sizeUnfolded_20 : decode cX1_sizeUnfolded 20 = .ok (.iload_n 2, 1) := by decide +kernel
theorem dX1_sizeUnfolded_21 : decode cX1_sizeUnfolded 21 = .ok (.invokevirtual 48, 3) := by decide +kernel
theorem dX1_sizeUnfolded_24 : decode cX1_sizeUnfolded 24 = .ok (.istore_n 3, 1) := by decide +kernel
theorem dX1_sizeUnfolded_25 : decode cX1_sizeUnfolded 25 = .ok (.aload_n 0, 1) := by decide +kernel
theorem dX1_sizeUnfolded_26 : decode cX1_sizeUnfolded 26 = .ok (.getfield 33, 3) := by decide +kernel
theorem dX1_sizeUnfolded_29 : decode cX1_sizeUnfolded 29 = .ok (.iload_n 3, 1) := by decide +kernel
theorem dX1_sizeUnfolded_30 : decode cX1_sizeUnfolded 30 = .ok (.invokevirtual 105, 3) := by decide +kernel
theorem dX1_sizeUnfolded_33 : decode cX1_sizeUnfolded 33 = .ok (.i2l, 1) := by decide +kernel
theorem dX1_sizeUnfolded_34 : decode cX1_sizeUnfolded 34 = .ok (.lstore 4, 2) := by decide +kernel
theorem dX1_sizeUnfolded_36 : decode cX1_sizeUnfolded 36 = .ok (.iconst 0, 1) := by decide +kernel
theorem dX1_sizeUnfolded_37 : decode cX1_sizeUnfolded 37 = .ok (.istore 6, 2) := by decide +kernel
theorem dX1_sizeUnfolded_39 : decode cX1_sizeUnfolded 39 = .ok (.iload 6, 2) := by decide +kernel
theorem dX1_sizeUnfolded_41 : decode cX1_sizeUnfolded 41 = .ok (.iconst 2, 1) := by decide +kernel
theorem dX1_sizeUnfolded_42 : decode cX1_sizeUnfolded 42 = .ok (.if_icmp .ge 45, 3) := by decide +kernel
theorem dX1_sizeUnfolded_45 : decode cX1_sizeUnfolded 45 = .ok (.lload 4, 2) := by decide +kernel
theorem dX1_sizeUnfolded_47 : decode cX1_sizeUnfolded 47 = .ok (.aload_n 0, 1) := by decide +kernel
theorem dX1_sizeUnfolded_48 : decode cX1_sizeUnfolded 48 = .ok (.getfield 33, 3) := by decide +kernel
theorem dX1_sizeUnfolded_51 : decode cX1_sizeUnfolded 51 = .ok (.iload_n 3, 1) := by decide +kernel
theorem dX1_sizeUnfolded_52 : decode cX1_sizeUnfolded 52 = .ok (.iload 6, 2) := by decide +kernel
theorem dX1_sizeUnfolded_54 : decode cX1_sizeUnfolded 54 = .ok (.invokevirtual 67, 3) := by decide +kernel
theorem dX1_sizeUnfolded_57 : decode cX1_sizeUnfolded 57 = .ok (.aload_n 0, 1) := by decide +kernel
theorem dX1_sizeUnfolded_58 : decode cX1_sizeUnfolded 58 = .ok (.getfield 33, 3) := by decide +kernel
theorem dX1_sizeUnfolded_61 : decode cX1_sizeUnfolded 61 = .ok (.aload_n 0, 1) := by decide +kernel
theorem dX1_sizeUnfolded_62 : decode cX1_sizeUnfolded 62 = .ok (.getfield 33, 3) := by decide +kernel
theorem dX1_sizeUnfolded_65 : decode cX1_sizeUnfolded 65 = .ok (.iload_n 1, 1) := by decide +kernel
theorem dX1_sizeUnfolded_66 : decode cX1_sizeUnfolded 66 = .ok (.iload 6, 2) := by decide +kernel
theorem dX1_sizeUnfolded_68 : decode cX1_sizeUnfolded 68 = .ok (.invokevirtual 99, 3) := by decide +kernel
theorem dX1_sizeUnfolded_71 : decode cX1_sizeUnfolded 71 = .ok (.invokevirtual 105, 3) := by decide +kernel
theorem dX1_sizeUnfolded_74 : decode cX1_sizeUnfolded 74 = .ok (.iconst 1, 1) := by decide +kernel
theorem dX1_sizeUnfolded_75 : decode cX1_sizeUnfolded 75 = .ok (.isub, 1) := by decide +kernel
theorem dX1_sizeUnfolded_76 : decode cX1_sizeUnfolded 76 = .ok (.imul, 1) := by decide +kernel
theorem dX1_sizeUnfolded_77 : decode cX1_sizeUnfolded 77 = .ok (.i2l, 1) := by decide +kernel
theorem dX1_sizeUnfolded_78 : decode cX1_sizeUnfolded 78 = .ok (.ladd, 1) := by decide +kernel
theorem dX1_sizeUnfolded_79 : decode cX1_sizeUnfolded 79 = .ok (.lstore 4, 2) := by decide +kernel
theorem dX1_sizeUnfolded_81 : decode cX1_sizeUnfolded 81 = .ok (.iinc 6 1, 3) := by decide +kernel
theorem dX1_sizeUnfolded_84 : decode cX1_sizeUnfolded 84 = .ok (.goto (-45), 3) := by decide +kernel
theorem dX1_sizeUnfolded_87 : decode cX1_sizeUnfolded 87 = .ok (.lload 4, 2) := by decide +kernel
theorem dX1_sizeUnfolded_89 : decode cX1_sizeUnfolded 89 = .ok (.lreturn, 1) := by decide +kernel
theorem dX1_sizeOfWhole_0 : decode cX1_sizeOfWhole 0 = .ok (.aload_n 0, 1) := by decide +kernel
theorem dX1_sizeOfWhole_1 : decode cX1_sizeOfWhole 1 = .ok (.iload_n 1, 1) := by decide +kernel
theorem dX1_sizeOfWhole_2 : decode cX1_sizeOfWhole 2 = .ok (.iconst 0, 1) := by decide +kernel
theorem dX1_sizeOfWhole_3 : decode cX1_sizeOfWhole 3 = .ok (.iconst 1, 1) := by decide +kernel
theorem dX1_sizeOfWhole_4 : decode cX1_sizeOfWhole 4 = .ok (.invokevirtual 83, 3) := by decide +kernel
theorem dX1_sizeOfWhole_7 : decode cX1_sizeOfWhole 7 = .ok (.aload_n 0, 1) := by decide +kernel
theorem dX1_sizeOfWhole_8 : decode cX1_sizeOfWhole 8 = .ok (.iload_n 1, 1) := by decide +kernel
theorem dX1_sizeOfWhole_9 : decode cX1_sizeOfWhole 9 = .ok (.iconst 1, 1) := by decide +kernel
theorem dX1_sizeOfWhole_10 : decode cX1_sizeOfWhole 10 = .ok (.iconst 1, 1) := by decide +kernel
theorem dX1_sizeOfWhole_11 : decode cX1_sizeOfWhole 11 = .ok (.invokevirtual 83, 3) := by decide +kernel
theorem dX1_sizeOfWhole_14 : decode cX1_sizeOfWhole 14 = .ok (.invokestatic 87, 3) := by decide +kernel
theorem dX1_sizeOfWhole_17 : decode cX1_sizeOfWhole 17 = .ok (.lstore_n 2, 1) := by decide +kernel
theorem dX1_sizeOfWhole_18 : decode cX1_sizeOfWhole 18 = .ok (.lload_n 2, 1) := by decide +kernel
theorem dX1_sizeOfWhole_19 : decode cX1_sizeOfWhole 19 = .ok (.aload_n 0, 1) := by decide +kernel
theorem dX1_sizeOfWhole_20 : decode cX1_sizeOfWhole 20 = .ok (.iload_n 1, 1) := by decide +kernel
theorem dX1_sizeOfWhole_21 : decode cX1_sizeOfWhole 21 = .ok (.iconst 2, 1) := by decide +kernel
theorem dX1_sizeOfWhole_22 : decode cX1_sizeOfWhole 22 = .ok (.iconst 1, 1) := by decide +kernel
theorem dX1_sizeOfWhole_23 : decode cX1_sizeOfWhole 23 = .ok (.invokevirtual 83, 3) := by decide +kernel
theorem dX1_sizeOfWhole_26 : decode cX1_sizeOfWhole 26 = .ok (.invokestatic 87, 3) := by decide +kernel
theorem dX1_sizeOfWhole_29 : decode cX1_sizeOfWhole 29 = .ok (.lreturn, 1) := by decide +kernel
theorem dX1_unfoldingsOutermost_0 : decode cX1_unfoldingsOutermost 0 = .ok (.aload_n 0, 1) := by decide +kernel
theorem dX1_unfoldingsOutermost_1 : decode cX1_unfoldingsOutermost 1 = .ok (.iload_n 1, 1) := by decide +kernel
theorem dX1_unfoldingsOutermost_2 : decode cX1_unfoldingsOutermost 2 = .ok (.iconst 3, 1) := by decide +kernel
theorem dX1_unfoldingsOutermost_3 : decode cX1_unfoldingsOutermost 3 = .ok (.iconst 1, 1) := by decide +kernel
theorem dX1_unfoldingsOutermost_4 : decode cX1_unfoldingsOutermost 4 = .ok (.invokevirtual 83, 3) := by decide +kernel
theorem dX1_unfoldingsOutermost_7 : decode cX1_unfoldingsOutermost 7 = .ok (.lreturn, 1) := by decide +kernel
theorem dX1_sum_0 : decode cX1_sum 0 = .ok (.ldc2_w 108, 3) := by decide +kernel
theorem dX1_sum_3 : decode cX1_sum 3 = .ok (.lload_n 0, 1) := by decide +kernel
theorem dX1_sum_4 : decode cX1_sum 4 = .ok (.lload_n 2, 1) := by decide +kernel
theorem dX1_sum_5 : decode cX1_sum 5 = .ok (.ladd, 1) := by decide +kernel
theorem dX1_sum_6 : decode cX1_sum 6 = .ok (.invokestatic 110, 3) := by decide +kernel
theorem dX1_sum_9 : decode cX1_sum 9 = .ok (.lreturn, 1) := by decide +kernel
theorem dX1_product_0 : decode cX1_product 0 = .ok (.lload_n 0, 1) := by decide +kernel
theorem dX1_product_1 : decode cX1_product 1 = .ok (.lconst 0, 1) := by decide +kernel
theorem dX1_product_2 : decode cX1_product 2 = .ok (.lcmp, 1) := by decide +kernel
theorem dX1_product_3 : decode cX1_product 3 = .ok (.ifCond .eq 9, 3) := by decide +kernel
theorem dX1_product_6 : decode cX1_product 6 = .ok (.lload_n 2, 1) := by decide +kernel
theorem dX1_product_7 : decode cX1_product 7 = .ok (.lconst 0, 1) := by decide +kernel
theorem dX1_product_8 : decode cX1_product 8 = .ok (.lcmp, 1) := by decide +kernel
theorem dX1_product_9 : decode cX1_product 9 = .ok (.ifCond .ne 5, 3) := by decide +kernel
theorem dX1_product_12 : decode cX1_product 12 = .ok (.lconst 0, 1) := by decide +kernel
theorem dX1_product_13 : decode cX1_product 13 = .ok (.lreturn, 1) := by decide +kernel
theorem dX1_product_14 : decode cX1_product 14 = .ok (.lload_n 0, 1) := by decide +kernel
theorem dX1_product_15 : decode cX1_product 15 = .ok (.ldc2_w 108, 3) := by decide +kernel
theorem dX1_product_18 : decode cX1_product 18 = .ok (.lload_n 2, 1) := by decide +kernel
theorem dX1_product_19 : decode cX1_product 19 = .ok (.ldiv, 1) := by decide +kernel
theorem dX1_product_20 : decode cX1_product 20 = .ok (.lcmp, 1) := by decide +kernel
theorem dX1_product_21 : decode cX1_product 21 = .ok (.ifCond .le 9, 3) := by decide +kernel
theorem dX1_product_24 : decode cX1_product 24 = .ok (.ldc2_w 108, 3) := by decide +kernel
theorem dX1_product_27 : decode cX1_product 27 = .ok (.goto 6, 3) := by decide +kernel
theorem dX1_product_30 : decode cX1_product 30 = .ok (.lload_n 0, 1) := by decide +kernel
theorem dX1_product_31 : decode cX1_product 31 = .ok (.lload_n 2, 1) := by decide +kernel
theorem dX1_product_32 : decode cX1_product 32 = .ok (.lmul, 1) := by decide +kernel
theorem dX1_product_33 : decode cX1_product 33 = .ok (.lreturn, 1) := by decide +kernel
end
section
theorem dX2_init_0 : decode cX2_init 0 = .ok (.aload_n 0, 1) := by decide +kernel
theorem dX2_init_1 : decode cX2_init 1 = .ok (.invokespecial 3, 3) := by decide +kernel
theorem dX2_init_4 : decode cX2_init 4 = .ok (.aload_n 0, 1) := by decide +kernel
theorem dX2_init_5 : decode cX2_init 5 = .ok (.sipush 370, 3) := by decide +kernel
theorem dX2_init_8 : decode cX2_init 8 = .ok (.newarray .int, 2) := by decide +kernel
theorem dX2_init_10 : decode cX2_init 10 = .ok (.putfield 9, 3) := by decide +kernel
theorem dX2_init_13 : decode cX2_init 13 = .ok (.aload_n 0, 1) := by decide +kernel
theorem dX2_init_14 : decode cX2_init 14 = .ok (.sipush 370, 3) := by decide +kernel
theorem dX2_init_17 : decode cX2_init 17 = .ok (.newarray .int, 2) := by decide +kernel
theorem dX2_init_19 : decode cX2_init 19 = .ok (.putfield 15, 3) := by decide +kernel
theorem dX2_init_22 : decode cX2_init 22 = .ok (.aload_n 0, 1) := by decide +kernel
theorem dX2_init_23 : decode cX2_init 23 = .ok (.sipush 370, 3) := by decide +kernel
theorem dX2_init_26 : decode cX2_init 26 = .ok (.newarray .int, 2) := by decide +kernel
theorem dX2_init_28 : decode cX2_init 28 = .ok (.putfield 18, 3) := by decide +kernel
theorem dX2_init_31 : decode cX2_init 31 = .ok (.aload_n 0, 1) := by decide +kernel
theorem dX2_init_32 : decode cX2_init 32 = .ok (.bipush 90, 2) := by decide +kernel
theorem dX2_init_34 : decode cX2_init 34 = .ok (.newarray .int, 2) := by decide +kernel
theorem dX2_init_36 : decode cX2_init 36 = .ok (.putfield 21, 3) := by decide +kernel
theorem dX2_init_39 : decode cX2_init 39 = .ok (.aload_n 0, 1) := by decide +kernel
theorem dX2_init_40 : decode cX2_init 40 = .ok (.bipush 90, 2) := by decide +kernel
theorem dX2_init_42 : decode cX2_init 42 = .ok (.newarray .int, 2) := by decide +kernel
theorem dX2_init_44 : decode cX2_init 44 = .ok (.putfield 24, 3) := by decide +kernel
theorem dX2_init_47 : decode cX2_init 47 = .ok (.aload_n 0, 1) := by decide +kernel
theorem dX2_init_48 : decode cX2_init 48 = .ok (.bipush 90, 2) := by decide +kernel
theorem dX2_init_50 : decode cX2_init 50 = .ok (.newarray .int, 2) := by decide +kernel
theorem dX2_init_52 : decode cX2_init 52 = .ok (.putfield 27, 3) := by decide +kernel
theorem dX2_init_55 : decode cX2_init 55 = .ok (.aload_n 0, 1) := by decide +kernel
theorem dX2_init_56 : decode cX2_init 56 = .ok (.bipush 90, 2) := by decide +kernel
theorem dX2_init_58 : decode cX2_init 58 = .ok (.newarray .int, 2) := by decide +kernel
theorem dX2_init_60 : decode cX2_init 60 = .ok (.putfield 30, 3) := by decide +kernel
theorem dX2_init_63 : decode cX2_init 63 = .ok (.aload_n 0, 1) := by decide +kernel
theorem dX2_init_64 : decode cX2_init 64 = .ok (.bipush 90, 2) := by decide +kernel
theorem dX2_init_66 : decode cX2_init 66 = .ok (.newarray .int, 2) := by decide +kernel
theorem dX2_init_68 : decode cX2_init 68 = .ok (.putfield 33, 3) := by decide +kernel
theorem dX2_init_71 : decode cX2_init 71 = .ok (.aload_n 0, 1) := by decide +kernel
theorem dX2_init_72 : decode cX2_init 72 = .ok (.iconst 0, 1) := by decide +kernel
theorem dX2_init_73 : decode cX2_init 73 = .ok (.putfield 36, 3) := by decide +kernel
theorem dX2_init_76 : decode cX2_init 76 = .ok (.aload_n 0, 1) := by decide +kernel
theorem dX2_init_77 : decode cX2_init 77 = .ok (.iconst 0, 1) := by decide +kernel
theorem dX2_init_78 : decode cX2_init 78 = .ok (.putfield 40, 3) := by decide +kernel
theorem dX2_init_81 : decode cX2_init 81 = .ok (.return_, 1) := by decide +kernel
theorem dX2_wasMade_0 : decode cX2_wasMade 0 = .ok (.iload_n 1, 1) := by decide +kernel
theorem dX2_wasMade_1 : decode cX2_wasMade 1 = .ok (.ifCond .lt 15, 3) := by decide +kernel
theorem dX2_wasMade_4 : decode cX2_wasMade 4 = .ok (.iload_n 1, 1) := by decide +kernel
theorem dX2_wasMade_5 : decode cX2_wasMade 5 = .ok (.aload_n 0, 1) := by decide +kernel
theorem dX2_wasMade_6 : decode cX2_wasMade 6 = .ok (.getfield 36, 3) := by decide +kernel
theorem dX2_wasMade_9 : decode cX2_wasMade 9 = .ok (.if_icmp .ge 7, 3) := by decide +kernel
theorem dX2_wasMade_12 : decode cX2_wasMade 12 = .ok (.iconst 1, 1) := by decide +kernel
theorem dX2_wasMade_13 : decode cX2_wasMade 13 = .ok (.goto 4, 3) := by decide +kernel
theorem dX2_wasMade_16 : decode cX2_wasMade 16 = .ok (.iconst 0, 1) := by decide +kernel
theorem dX2_wasMade_17 : decode cX2_wasMade 17 = .ok (.ireturn, 1) := by decide +kernel
theorem dX2_isHeld_0 : decode cX2_isHeld 0 = .ok (.iload_n 1, 1) := by decide +kernel
theorem dX2_isHeld_1 : decode cX2_isHeld 1 = .ok (.ifCond .lt 15, 3) := by decide +kernel
theorem dX2_isHeld_4 : decode cX2_isHeld 4 = .ok (.iload_n 1, 1) := by decide +kernel
theorem dX2_isHeld_5 : decode cX2_isHeld 5 = .ok (.aload_n 0, 1) := by decide +kernel
theorem dX2_isHeld_6 : decode cX2_isHeld 6 = .ok (.getfield 40, 3) := by decide +kernel
theorem dX2_isHeld_9 : decode cX2_isHeld 9 = .ok (.if_icmp .ge 7, 3) := by decide +kernel
theorem dX2_isHeld_12 : decode cX2_isHeld 12 = .ok (.iconst 1, 1) := by decide +kernel
theorem dX2_isHeld_13 : decode cX2_isHeld 13 = .ok (.goto 4, 3) := by decide +kernel
theorem dX2_isHeld_16 : decode cX2_isHeld 16 = .ok (.iconst 0, 1) := by decide +kernel
theorem dX2_isHeld_17 : decode cX2_isHeld 17 = .ok (.ireturn, 1) := by decide +kernel
theorem dX2_howMany_0 : decode cX2_howMany 0 = .ok (.aload_n 0, 1) := by decide +kernel
theorem dX2_howMany_1 : decode cX2_howMany 1 = .ok (.getfield 36, 3) := by decide +kernel
theorem dX2_howMany_4 : decode cX2_howMany 4 = .ok (.ireturn, 1) := by decide +kernel
theorem dX2_howManyClosed_0 : decode cX2_howManyClosed 0 = .ok (.iconst 0, 1) := by decide +kernel
theorem dX2_howManyClosed_1 : decode cX2_howManyClosed 1 = .ok (.istore_n 1, 1) := by decide +kernel
theorem dX2_howManyClosed_2 : decode cX2_howManyClosed 2 = .ok (.iconst 0, 1) := by decide +kernel
theorem dX2_howManyClosed_3 : decode cX2_howManyClosed 3 = .ok (.istore_n 2, 1) := by decide +kernel
theorem dX2_howManyClosed_4 : decode cX2_howManyClosed 4 = .ok (.iload_n 2, 1) := by decide +kernel
theorem dX2_howManyClosed_5 : decode cX2_howManyClosed 5 = .ok (.aload_n 0, 1) := by decide +kernel
theorem dX2_howManyClosed_6 : decode cX2_howManyClosed 6 = .ok (.getfield 36, 3) := by decide +kernel
theorem dX2_howManyClosed_9 : decode cX2_howManyClosed 9 = .ok (.if_icmp .ge 20, 3) := by decide +kernel
theorem dX2_howManyClosed_12 : decode cX2_howManyClosed 12 = .ok (.aload_n 0, 1) := by decide +kernel
theorem dX2_howManyClosed_13 : decode cX2_howManyClosed 13 = .ok (.iload_n 2, 1) := by decide +kernel
theorem dX2_howManyClosed_14 : decode cX2_howManyClosed 14 = .ok (.invokevirtual 43, 3) := by decide +kernel
theorem dX2_howManyClosed_17 : decode cX2_howManyClosed 17 = .ok (.ifCond .eq 6, 3) := by decide +kernel
theorem dX2_howManyClosed_20 : decode cX2_howManyClosed 20 = .ok (.iinc 1 1, 3) := by decide +kernel
theorem dX2_howManyClosed_23 : decode cX2_howManyClosed 23 = .ok (.iinc 2 1, 3) := by decide +kernel
theorem dX2_howManyClosed_26 : decode cX2_howManyClosed 26 = .ok (.goto (-22), 3) := by decide +kernel
theorem dX2_howManyClosed_29 : decode cX2_howManyClosed 29 = .ok (.iload_n 1, 1) := by decide +kernel
theorem dX2_howManyClosed_30 : decode cX2_howManyClosed 30 = .ok (.ireturn, 1) := by decide +kernel
theorem dX2_frontOf_0 : decode cX2_frontOf 0 = .ok (.aload_n 0, 1) := by decide +kernel
theorem dX2_frontOf_1 : decode cX2_frontOf 1 = .ok (.iload_n 1, 1) := by decide +kernel
theorem dX2_frontOf_2 : decode cX2_frontOf 2 = .ok (.invokevirtual 47, 3) := by decide +kernel
theorem dX2_frontOf_5 : decode cX2_frontOf 5 = .ok (.ifCond .eq 12, 3) := by decide +kernel
theorem dX2_frontOf_8 : decode cX2_frontOf 8 = .ok (.aload_n 0, 1) := by decide +kernel
theorem dX2_frontOf_9 : decode cX2_frontOf 9 = .ok (.getfield 9, 3) := by decide +kernel
theorem dX2_frontOf_12 : decode cX2_frontOf 12 = .ok (.iload_n 1, 1) := by decide +kernel
theorem dX2_frontOf_13 : decode cX2_frontOf 13 = .ok (.iaload, 1) := by decide +kernel
theorem dX2_frontOf_14 : decode cX2_frontOf 14 = .ok (.goto 5, 3) := by decide +kernel
theorem dX2_frontOf_17 : decode cX2_frontOf 17 = .ok (.bipush (-9), 2) := by decide +kernel
theorem dX2_frontOf_19 : decode cX2_frontOf 19 = .ok (.ireturn, 1) := by decide +kernel
theorem dX2_partOf_0 : decode cX2_partOf 0 = .ok (.aload_n 0, 1) := by decide +kernel
theorem dX2_partOf_1 : decode cX2_partOf 1 = .ok (.iload_n 1, 1) := by decide +kernel
theorem dX2_partOf_2 : decode cX2_partOf 2 = .ok (.invokevirtual 47, 3) := by decide +kernel
theorem dX2_partOf_5 : decode cX2_partOf 5 = .ok (.ifCond .ne 6, 3) := by decide +kernel
theorem dX2_partOf_8 : decode cX2_partOf 8 = .ok (.bipush (-9), 2) := by decide +kernel
theorem dX2_partOf_10 : decode cX2_partOf 10 = .ok (.ireturn, 1) := by decide +kernel
theorem dX2_partOf_11 : decode cX2_partOf 11 = .ok (.iload_n 2, 1) := by decide +kernel
theorem dX2_partOf_12 : decode cX2_partOf 12 = .ok (.ifCond .ne 12, 3) := by decide +kernel
theorem dX2_partOf_15 : decode cX2_partOf 15 = .ok (.aload_n 0, 1) := by decide +kernel
theorem dX2_partOf_16 : decode cX2_partOf 16 = .ok (.getfield 15, 3) := by decide +kernel
theorem dX2_partOf_19 : decode cX2_partOf 19 = .ok (.iload_n 1, 1) := by decide +kernel
theorem dX2_partOf_20 : decode cX2_partOf 20 = .ok (.iaload, 1) := by decide +kernel
theorem dX2_partOf_21 : decode cX2_partOf 21 = .ok (.goto 9, 3) := by decide +kernel
theorem dX2_partOf_24 : decode cX2_partOf 24 = .ok (.aload_n 0, 1) := by decide +kernel
theorem dX2_partOf_25 : decode cX2_partOf 25 = .ok (.getfield 18, 3) := by decide +kernel
theorem dX2_partOf_28 : decode cX2_partOf 28 = .ok (.iload_n 1, 1) := by decide +kernel
theorem dX2_partOf_29 : decode cX2_partOf 29 = .ok (.iaload, 1) := by decide +kernel
theorem dX2_partOf_30 : decode cX2_partOf 30 = .ok (.ireturn, 1) := by decide +kernel
theorem dX2_depthOf_0 : decode cX2_depthOf 0 = .ok (.aload_n 0, 1) := by decide +kernel
theorem dX2_depthOf_1 : decode cX2_depthOf 1 = .ok (.iload_n 1, 1) := by decide +kernel
theorem dX2_depthOf_2 : decode cX2_depthOf 2 = .ok (.invokevirtual 50, 3) := by decide +kernel
theorem dX2_depthOf_5 : decode cX2_depthOf 5 = .ok (.ifCond .eq 12, 3) := by decide +kernel
theorem dX2_depthOf_8 : decode cX2_depthOf 8 = .ok (.aload_n 0, 1) := by decide +kernel
theorem dX2_depthOf_9 : decode cX2_depthOf 9 = .ok (.getfield 21, 3) := by decide +kernel
theorem dX2_depthOf_12 : decode cX2_depthOf 12 = .ok (.iload_n 1, 1) := by decide +kernel
theorem dX2_depthOf_13 : decode cX2_depthOf 13 = .ok (.iaload, 1) := by decide +kernel
theorem dX2_depthOf_14 : decode cX2_depthOf 14 = .ok (.goto 4, 3) := by decide +kernel
theorem dX2_depthOf_17 : decode cX2_depthOf 17 = .ok (.iconst 0, 1) := by decide +kernel
theorem dX2_depthOf_18 : decode cX2_depthOf 18 = .ok (.ireturn, 1) := by decide +kernel
theorem dX2_depthAbove_0 : decode cX2_depthAbove 0 = .ok (.iconst 1, 1) := by decide +kernel
theorem dX2_depthAbove_1 : decode cX2_depthAbove 1 = .ok (.aload_n 0, 1) := by decide +kernel
theorem dX2_depthAbove_2 : decode cX2_depthAbove 2 = .ok (.iload_n 1, 1) := by decide +kernel
theorem dX2_depthAbove_3 : decode cX2_depthAbove 3 = .ok (.invokevirtual 53, 3) := by decide +kernel
theorem dX2_depthAbove_6 : decode cX2_depthAbove 6 = .ok (.aload_n 0, 1) := by decide +kernel
theorem dX2_depthAbove_7 : decode cX2_depthAbove 7 = .ok (.iload_n 2, 1) := by decide +kernel
theorem dX2_depthAbove_8 : decode cX2_depthAbove 8 = .ok (.invokevirtual 53, 3) := by decide +kernel
theorem dX2_depthAbove_11 : decode cX2_depthAbove 11 = .ok (.invokestatic 57, 3) := by decide +kernel
theorem dX2_depthAbove_14 : decode cX2_depthAbove 14 = .ok (.iadd, 1) := by decide +kernel
theorem dX2_depthAbove_15 : decode cX2_depthAbove 15 = .ok (.ireturn, 1) := by decide +kernel
theorem dX2_sizeOf_0 : decode cX2_sizeOf 0 = .ok (.aload_n 0, 1) := by decide +kernel
theorem dX2_sizeOf_1 : decode cX2_sizeOf 1 = .ok (.iload_n 1, 1) := by decide +kernel
theorem dX2_sizeOf_2 : decode cX2_sizeOf 2 = .ok (.invokevirtual 50, 3) := by decide +kernel
theorem dX2_sizeOf_5 : decode cX2_sizeOf 5 = .ok (.ifCond .eq 12, 3) := by decide +kernel
theorem dX2_sizeOf_8 : decode cX2_sizeOf 8 = .ok (.aload_n 0, 1) := by decide +kernel
theorem dX2_sizeOf_9 : decode cX2_sizeOf 9 = .ok (.getfield 24, 3) := by decide +kernel
theorem dX2_sizeOf_12 : decode cX2_sizeOf 12 = .ok (.iload_n 1, 1) := by decide +kernel
theorem dX2_sizeOf_13 : decode cX2_sizeOf 13 = .ok (.iaload, 1) := by decide +kernel
theorem dX2_sizeOf_14 : decode cX2_sizeOf 14 = .ok (.goto 4, 3) := by decide +kernel
theorem dX2_sizeOf_17 : decode cX2_sizeOf 17 = .ok (.iconst 0, 1) := by decide +kernel
theorem dX2_sizeOf_18 : decode cX2_sizeOf 18 = .ok (.ireturn, 1) := by decide +kernel
theorem dX2_namesIn_0 : decode cX2_namesIn 0 = .ok (.aload_n 0, 1) := by decide +kernel
theorem dX2_namesIn_1 : decode cX2_namesIn 1 = .ok (.iload_n 1, 1) := by decide +kernel
theorem dX2_namesIn_2 : decode cX2_namesIn 2 = .ok (.invokevirtual 50, 3) := by decide +kernel
theorem dX2_namesIn_5 : decode cX2_namesIn 5 = .ok (.ifCond .eq 12, 3) := by decide +kernel
theorem dX2_namesIn_8 : decode cX2_namesIn 8 = .ok (.aload_n 0, 1) := by decide +kernel
theorem dX2_namesIn_9 : decode cX2_namesIn 9 = .ok (.getfield 27, 3) := by decide +kernel
theorem dX2_namesIn_12 : decode cX2_namesIn 12 = .ok (.iload_n 1, 1) := by decide +kernel
theorem dX2_namesIn_13 : decode cX2_namesIn 13 = .ok (.iaload, 1) := by decide +kernel
theorem dX2_namesIn_14 : decode cX2_namesIn 14 = .ok (.goto 4, 3) := by decide +kernel
theorem dX2_namesIn_17 : decode cX2_namesIn 17 = .ok (.iconst 0, 1) := by decide +kernel
theorem dX2_namesIn_18 : decode cX2_namesIn 18 = .ok (.ireturn, 1) := by decide +kernel
theorem dX2_timesOfParameter_0 : decode cX2_timesOfParameter 0 = .ok (.aload_n 0, 1) := by decide +kernel
theorem dX2_timesOfParameter_1 : decode cX2_timesOfParameter 1 = .ok (.iload_n 1, 1) := by decide +kernel
theorem dX2_timesOfParameter_2 : decode cX2_timesOfParameter 2 = .ok (.invokevirtual 50, 3) := by decide +kernel
theorem dX2_timesOfParameter_5 : decode cX2_timesOfParameter 5 = .ok (.ifCond .ne 5, 3) := by decide +kernel
theorem dX2_timesOfParameter_8 : decode cX2_timesOfParameter 8 = .ok (.iconst 0, 1) := by decide +kernel
theorem dX2_timesOfParameter_9 : decode cX2_timesOfParameter 9 = .ok (.ireturn, 1) := by decide +kernel
theorem dX2_timesOfParameter_10 : decode cX2_timesOfParameter 10 = .ok (.iload_n 2, 1) := by decide +kernel
theorem dX2_timesOfParameter_11 : decode cX2_timesOfParameter 11 = .ok (.ifCond .ne 12, 3) := by decide +kernel
theorem dX2_timesOfParameter_14 : decode cX2_timesOfParameter 14 = .ok (.aload_n 0, 1) := by decide +kernel
theorem dX2_timesOfParameter_15 : decode cX2_timesOfParameter 15 = .ok (.getfield 30, 3) := by decide +kernel
theorem dX2_timesOfParameter_18 : decode cX2_timesOfParameter 18 = .ok (.iload_n 1, 1) := by decide +kernel
theorem dX2_timesOfParameter_19 : decode cX2_timesOfParameter 19 = .ok (.iaload, 1) := by decide +kernel
theorem dX2_timesOfParameter_20 : decode cX2_timesOfParameter 20 = .ok (.goto 9, 3) := by decide +kernel
theorem dX2_timesOfParameter_23 : decode cX2_timesOfParameter 23 = .ok (.aload_n 0, 1) := by decide +kernel
theorem dX2_timesOfParameter_24 : decode cX2_timesOfParameter 24 = .ok (.getfield 33, 3) := by decide +kernel
theorem dX2_timesOfParameter_27 : decode cX2_timesOfParameter 27 = .ok (.iload_n 1, 1) := by decide +kernel
theorem dX2_timesOfParameter_28 : decode cX2_timesOfParameter 28 = .ok (.iaload, 1) := by decide +kernel
theorem dX2_timesOfParameter_29 : decode cX2_timesOfParameter 29 = .ok (.ireturn, 1) := by decide +kernel
theorem dX2_isClosed_0 : decode cX2_isClosed 0 = .ok (.aload_n 0, 1) := by decide +kernel
theorem dX2_isClosed_1 : decode cX2_isClosed 1 = .ok (.iload_n 1, 1) := by decide +kernel
theorem dX2_isClosed_2 : decode cX2_isClosed 2 = .ok (.iconst 0, 1) := by decide +kernel
theorem dX2_isClosed_3 : decode cX2_isClosed 3 = .ok (.invokevirtual 63, 3) := by decide +kernel
theorem dX2_isClosed_6 : decode cX2_isClosed 6 = .ok (.ifCond .ne 16, 3) := by decide +kernel
theorem dX2_isClosed_9 : decode cX2_isClosed 9 = .ok (.aload_n 0, 1) := by decide +kernel
theorem dX2_isClosed_10 : decode cX2_isClosed 10 = .ok (.iload_n 1, 1) := by decide +kernel
theorem dX2_isClosed_11 : decode cX2_isClosed 11 = .ok (.iconst 1, 1) := by decide +kernel
theorem dX2_isClosed_12 : decode cX2_isClosed 12 = .ok (.invokevirtual 63, 3) := by decide +kernel
theorem dX2_isClosed_15 : decode cX2_isClosed 15 = .ok (.ifCond .ne 7, 3) := by decide +kernel
theorem dX2_isClosed_18 : decode cX2_isClosed 18 = .ok (.iconst 1, 1) := by decide +kernel
theorem dX2_isClosed_19 : decode cX2_isClosed 19 = .ok (.goto 4, 3) := by decide +kernel
theorem dX2_isClosed_22 : decode cX2_isClosed 22 = .ok (.iconst 0, 1) := by decide +kernel
theorem dX2_isClosed_23 : decode cX2_isClosed 23 = .ok (.ireturn, 1) := by decide +kernel
theorem dX2_numberOf_0 : decode cX2_numberOf 0 = .ok (.aload_n 0, 1) := by decide +kernel
theorem dX2_numberOf_1 : decode cX2_numberOf 1 = .ok (.iload_n 1, 1) := by decide +kernel
theorem dX2_numberOf_2 : decode cX2_numberOf 2 = .ok (.iload_n 2, 1) := by decide +kernel
theorem dX2_numberOf_3 : decode cX2_numberOf 3 = .ok (.iload_n 3, 1) := by decide +kernel
theorem dX2_numberOf_4 : decode cX2_numberOf 4 = .ok (.invokevirtual 66, 3) := by decide +kernel
theorem dX2_numberOf_7 : decode cX2_numberOf 7 = .ok (.istore 4, 2) := by decide +kernel
theorem dX2_numberOf_9 : decode cX2_numberOf 9 = .ok (.iload 4, 2) := by decide +kernel
theorem dX2_numberOf_11 : decode cX2_numberOf 11 = .ok (.bipush (-9), 2) := by decide +kernel
theorem dX2_numberOf_13 : decode cX2_numberOf 13 = .ok (.if_icmp .eq 6, 3) := by decide +kernel
theorem dX2_numberOf_16 : decode cX2_numberOf 16 = .ok (.iload 4, 2) := by decide +kernel
theorem dX2_numberOf_18 : decode cX2_numberOf 18 = .ok (.ireturn, 1) := by decide +kernel
theorem dX2_numberOf_19 : decode cX2_numberOf 19 = .ok (.aload_n 0, 1) := by decide +kernel
theorem dX2_numberOf_20 : decode cX2_numberOf 20 = .ok (.getfield 36, 3) := by decide +kernel
theorem dX2_numberOf_23 : decode cX2_numberOf 23 = .ok (.bipush 90, 2) := by decide +kernel
theorem dX2_numberOf_25 : decode cX2_numberOf 25 = .ok (.if_icmp .lt 6, 3) := by decide +kernel
theorem dX2_numberOf_28 : decode cX2_numberOf 28 = .ok (.bipush (-4), 2) := by decide +kernel
theorem dX2_numberOf_30 : decode cX2_numberOf 30 = .ok (.ireturn, 1) := by decide +kernel
theorem dX2_numberOf_31 : decode cX2_numberOf 31 = .ok (.aload_n 0, 1) := by decide +kernel
theorem dX2_numberOf_32 : decode cX2_numberOf 32 = .ok (.iload_n 1, 1) := by decide +kernel
theorem dX2_numberOf_33 : decode cX2_numberOf 33 = .ok (.iload_n 2, 1) := by decide +kernel
theorem dX2_numberOf_34 : decode cX2_numberOf 34 = .ok (.iload_n 3, 1) := by decide +kernel
theorem dX2_numberOf_35 : decode cX2_numberOf 35 = .ok (.invokevirtual 70, 3) := by decide +kernel
theorem dX2_numberOf_38 : decode cX2_numberOf 38 = .ok (.istore 4, 2) := by decide +kernel
theorem dX2_numberOf_40 : decode cX2_numberOf 40 = .ok (.aload_n 0, 1) := by decide +kernel
theorem dX2_numberOf_41 : decode cX2_numberOf 41 = .ok (.aload_n 0, 1) := by decide +kernel
theorem dX2_numberOf_42 : decode cX2_numberOf 42 = .ok (.getfield 40, 3) := by decide +kernel
theorem dX2_numberOf_45 : decode cX2_numberOf 45 = .ok (.putfield 36, 3) := by decide +kernel
theorem dX2_numberOf_48 : decode cX2_numberOf 48 = .ok (.aload_n 0, 1) := by decide +kernel
theorem dX2_numberOf_49 : decode cX2_numberOf 49 = .ok (.iload 4, 2) := by decide +kernel
theorem dX2_numberOf_51 : decode cX2_numberOf 51 = .ok (.invokevirtual 73, 3) := by decide +kernel
theorem dX2_numberOf_54 : decode cX2_numberOf 54 = .ok (.iload 4, 2) := by decide +kernel
theorem dX2_numberOf_56 : decode cX2_numberOf 56 = .ok (.ireturn, 1) := by decide +kernel
theorem dX2_unfolded_0 : decode cX2_unfolded 0 = .ok (.aload_n 0, 1) := by decide +kernel
theorem dX2_unfolded_1 : decode cX2_unfolded 1 = .ok (.iload_n 1, 1) := by decide +kernel
theorem dX2_unfolded_2 : decode cX2_unfolded 2 = .ok (.iload_n 2, 1) := by decide +kernel
theorem dX2_unfolded_3 : decode cX2_unfolded 3 = .ok (.iload_n 3, 1) := by decide +kernel
theorem dX2_unfolded_4 : decode cX2_unfolded 4 = .ok (.iconst 1, 1) := by decide +kernel
theorem dX2_unfolded_5 : decode cX2_unfolded 5 = .ok (.invokevirtual 77, 3) := by decide +kernel
theorem dX2_unfolded_8 : decode cX2_unfolded 8 = .ok (.ireturn, 1) := by decide +kernel
theorem dX2_filled_0 : decode cX2_filled 0 = .ok (.aload_n 0, 1) := by decide +kernel
theorem dX2_filled_1 : decode cX2_filled 1 = .ok (.iload_n 1, 1) := by decide +kernel
theorem dX2_filled_2 : decode cX2_filled 2 = .ok (.invokevirtual 50, 3) := by decide +kernel
theorem dX2_filled_5 : decode cX2_filled 5 = .ok (.ifCond .eq 9, 3) := by decide +kernel
theorem dX2_filled_8 : decode cX2_filled 8 = .ok (.iload 4, 2) := by decide +kernel
theorem dX2_filled_10 : decode cX2_filled 10 = .ok (.iconst 4, 1) := by decide +kernel
theorem dX2_filled_11 : decode cX2_filled 11 = .ok (.if_icmp .le 6, 3) := by decide +kernel
theorem dX2_filled_14 : decode cX2_filled 14 = .ok (.bipush (-9), 2) := by decide +kernel
theorem dX2_filled_16 : decode cX2_filled 16 = .ok (.ireturn, 1) := by decide +kernel
theorem dX2_filled_17 : decode cX2_filled 17 = .ok (.aload_n 0, 1) := by decide +kernel
theorem dX2_filled_18 : decode cX2_filled 18 = .ok (.getfield 30, 3) := by decide +kernel
theorem dX2_filled_21 : decode cX2_filled 21 = .ok (.iload_n 1, 1) := by decide +kernel
theorem dX2_filled_22 : decode cX2_filled 22 = .ok (.iaload, 1) := by decide +kernel
theorem dX2_filled_23 : decode cX2_filled 23 = .ok (.ifCond .ne 14, 3) := by decide +kernel
theorem dX2_filled_26 : decode cX2_filled 26 = .ok (.aload_n 0, 1) := by decide +kernel
theorem dX2_filled_27 : decode cX2_filled 27 = .ok (.getfield 33, 3) := by decide +kernel
theorem dX2_filled_30 : decode cX2_filled 30 = .ok (.iload_n 1, 1) := by decide +kernel
theorem dX2_filled_31 : decode cX2_filled 31 = .ok (.iaload, 1) := by decide +kernel
theorem dX2_filled_32 : decode cX2_filled 32 = .ok (.ifCond .ne 5, 3) := by decide +kernel
theorem dX2_filled_35 : decode cX2_filled 35 = .ok (.iload_n 1, 1) := by decide +kernel
theorem dX2_filled_36 : decode cX2_filled 36 = .ok (.ireturn, 1) := by decide +kernel
theorem dX2_filled_37 : decode cX2_filled 37 = .ok (.aload_n 0, 1) := by decide +kernel
theorem dX2_filled_38 : decode cX2_filled 38 = .ok (.getfield 9, 3) := by decide +kernel
theorem dX2_filled_41 : decode cX2_filled 41 = .ok (.iload_n 1, 1) := by decide +kernel
theorem dX2_filled_42 : decode cX2_filled 42 = .ok (.iaload, 1) := by decide +kernel
theorem dX2_filled_43 : decode cX2_filled 43 = .ok (.istore 5, 2) := by decide +kernel
theorem dX2_filled_45 : decode cX2_filled 45 = .ok (.iload 5, 2) := by decide +kernel
theorem dX2_filled_47 : decode cX2_filled 47 = .ok (.bipush 100, 2) := by decide +kernel
theorem dX2_filled_49 : decode cX2_filled 49 = .ok (.if_icmp .ne 5, 3) := by decide +kernel
theorem dX2_filled_52 : decode cX2_filled 52 = .ok (.iload_n 2, 1) := by decide +kernel
theorem dX2_filled_53 : decode cX2_filled 53 = .ok (.ireturn, 1) := by decide +kernel
theorem dX2_filled_54 : decode cX2_filled 54 = .ok (.iload 5, 2) := by decide +kernel
theorem dX2_filled_56 : decode cX2_filled 56 = .ok (.bipush 100, 2) := by decide +kernel
theorem dX2_filled_58 : decode cX2_filled 58 = .ok (.if_icmp .le 5, 3) := by decide +kernel
theorem dX2_filled_61 : decode cX2_filled 61 = .ok (.iload_n 3, 1) := by decide +kernel
theorem dX2_filled_62 : decode cX2_filled 62 = .ok (.ireturn, 1) := by decide +kernel
theorem dX2_filled_63 : decode cX2_filled 63 = .ok (.aload_n 0, 1) := by decide +kernel
theorem dX2_filled_64 : decode cX2_filled 64 = .ok (.aload_n 0, 1) := by decide +kernel
theorem dX2_filled_65 : decode cX2_filled 65 = .ok (.getfield 15, 3) := by decide +kernel
theorem dX2_filled_68 : decode cX2_filled 68 = .ok (.iload_n 1, 1) := by decide +kernel
theorem dX2_filled_69 : decode cX2_filled 69 = .ok (.iaload, 1) := by decide +kernel
theorem dX2_filled_70 : decode cX2_filled 70 = .ok (.iload_n 2, 1) := by decide +kernel
theorem dX2_filled_71 : decode cX2_filled 71 = .ok (.iload_n 3, 1) := by decide +kernel
theorem dX2_filled_72 : decode cX2_filled 72 = .ok (.iload 4, 2) := by decide +kernel
theorem dX2_filled_74 : decode cX2_filled 74 = .ok (.iconst 1, 1) := by decide +kernel
theorem dX2_filled_75 : decode cX2_filled 75 = .ok (.iadd, 1) := by decide +kernel
theorem dX2_filled_76 : decode cX2_filled 76 = .ok (.invokevirtual 77, 3) := by decide +kernel
theorem dX2_filled_79 : decode cX2_filled 79 = .ok (.istore 6, 2) := by decide +kernel
theorem dX2_filled_81 : decode cX2_filled 81 = .ok (.aload_n 0, 1) := by decide +kernel
theorem dX2_filled_82 : decode cX2_filled 82 = .ok (.aload_n 0, 1) := by decide +kernel
theorem dX2_filled_83 : decode cX2_filled 83 = .ok (.getfield 18, 3) := by decide +kernel
theorem dX2_filled_86 : decode cX2_filled 86 = .ok (.iload_n 1, 1) := by decide +kernel
theorem dX2_filled_87 : decode cX2_filled 87 = .ok (.iaload, 1) := by decide +kernel
theorem dX2_filled_88 : decode cX2_filled 88 = .ok (.iload_n 2, 1) := by decide +kernel
theorem dX2_filled_89 : decode cX2_filled 89 = .ok (.iload_n 3, 1) := by decide +kernel
theorem dX2_filled_90 : decode cX2_filled 90 = .ok (.iload 4, 2) := by decide +kernel
theorem dX2_filled_92 : decode cX2_filled 92 = .ok (.iconst 1, 1) := by decide +kernel
theorem dX2_filled_93 : decode cX2_filled 93 = .ok (.iadd, 1) := by decide +kernel
theorem dX2_filled_94 : decode cX2_filled 94 = .ok (.invokevirtual 77, 3) := by decide +kernel
theorem dX2_filled_97 : decode cX2_filled 97 = .ok (.istore 7, 2) := by decide +kernel
theorem dX2_filled_99 : decode cX2_filled 99 = .ok (.aload_n 0, 1) := by decide +kernel
theorem dX2_filled_100 : decode cX2_filled 100 = .ok (.iload 5, 2) := by decide +kernel
theorem dX2_filled_102 : decode cX2_filled 102 = .ok (.iload 6, 2) := by decide +kernel
theorem dX2_filled_104 : decode cX2_filled 104 = .ok (.iload 7, 2) := by decide +kernel
theorem dX2_filled_106 : decode cX2_filled 106 = .ok (.invokevirtual 66, 3) := by decide +kernel
theorem dX2_filled_109 : decode cX2_filled 109 = .ok (.istore 8, 2) := by decide +kernel
theorem dX2_filled_111 : decode cX2_filled 111 = .ok (.iload 8, 2) := by decide +kernel
theorem dX2_filled_113 : decode cX2_filled 113 = .ok (.bipush (-9), 2) := by decide +kernel
theorem dX2_filled_115 : decode cX2_filled 115 = .ok (.if_icmp .eq 8, 3) := by decide +kernel
theorem dX2_filled_118 : decode cX2_filled 118 = .ok (.iload 8, 2) := by decide +kernel
theorem dX2_filled_120 : decode cX2_filled 120 = .ok (.goto 13, 3) := by decide +kernel
theorem dX2_filled_123 : decode cX2_filled 123 = .ok (.aload_n 0, 1) := by decide +kernel
theorem dX2_filled_124 : decode cX2_filled 124 = .ok (.iload 5, 2) := by decide +kernel
theorem dX2_filled_126 : decode cX2_filled 126 = .ok (.iload 6, 2) := by decide +kernel
theorem dX2_filled_128 : decode cX2_filled 128 = .ok (.iload 7, 2) := by decide +kernel
theorem dX2_filled_130 : decode cX2_filled 130 = .ok (.invokevirtual 70, 3) := by decide +kernel
theorem dX2_filled_133 : decode cX2_filled 133 = .ok (.ireturn, 1) := by decide +kernel
theorem dX2_dropNotMade_0 : decode cX2_dropNotMade 0 = .ok (.aload_n 0, 1) := by decide +kernel
theorem dX2_dropNotMade_1 : decode cX2_dropNotMade 1 = .ok (.aload_n 0, 1) := by decide +kernel
theorem dX2_dropNotMade_2 : decode cX2_dropNotMade 2 = .ok (.getfield 36, 3) := by decide +kernel
theorem dX2_dropNotMade_5 : decode cX2_dropNotMade 5 = .ok (.putfield 40, 3) := by decide +kernel
theorem dX2_dropNotMade_8 : decode cX2_dropNotMade 8 = .ok (.return_, 1) := by decide +kernel
theorem dX2_find_0 : decode cX2_find 0 = .ok (.iconst 0, 1) := by decide +kernel
theorem dX2_find_1 : decode cX2_find 1 = .ok (.istore 4, 2) := by decide +kernel
theorem dX2_find_3 : decode cX2_find 3 = .ok (.iload 4, 2) := by decide +kernel
theorem dX2_find_5 : decode cX2_find 5 = .ok (.aload_n 0, 1) := by decide +kernel
theorem dX2_find_6 : decode cX2_find 6 = .ok (.getfield 40, 3) := by decide +kernel
theorem dX2_find_9 : decode cX2_find 9 = .ok (.if_icmp .ge 45, 3) := by decide +kernel
theorem dX2_find_12 : decode cX2_find 12 = .ok (.aload_n 0, 1) := by decide +kernel
theorem dX2_find_13 : decode cX2_find 13 = .ok (.getfield 9, 3) := by decide +kernel
theorem dX2_find_16 : decode cX2_find 16 = .ok (.iload 4, 2) := by decide +kernel
theorem dX2_find_18 : decode cX2_find 18 = .ok (.iaload, 1) := by decide +kernel
theorem dX2_find_19 : decode cX2_find 19 = .ok (.iload_n 1, 1) := by decide +kernel
theorem dX2_find_20 : decode cX2_find 20 = .ok (.if_icmp .ne 28, 3) := by decide +kernel
theorem dX2_find_23 : decode cX2_find 23 = .ok (.aload_n 0, 1) := by decide +kernel
theorem dX2_find_24 : decode cX2_find 24 = .ok (.getfield 15, 3) := by decide +kernel
theorem dX2_find_27 : decode cX2_find 27 = .ok (.iload 4, 2) := by decide +kernel
theorem dX2_find_29 : decode cX2_find 29 = .ok (.iaload, 1) := by decide +kernel
theorem dX2_find_30 : decode cX2_find 30 = .ok (.iload_n 2, 1) := by decide +kernel
theorem dX2_find_31 : decode cX2_find 31 = .ok (.if_icmp .ne 17, 3) := by decide +kernel
theorem dX2_find_34 : decode cX2_find 34 = .ok (.aload_n 0, 1) := by decide +kernel
theorem dX2_find_35 : decode cX2_find 35 = .ok (.getfield 18, 3) := by decide +kernel
theorem dX2_find_38 : decode cX2_find 38 = .ok (.iload 4, 2) := by decide +kernel
theorem dX2_find_40 : decode cX2_find 40 = .ok (.iaload, 1) := by decide +kernel
theorem dX2_find_41 : decode cX2_find 41 = .ok (.iload_n 3, 1) := by decide +kernel
theorem dX2_find_42 : decode cX2_find 42 = .ok (.if_icmp .ne 6, 3) := by decide +kernel
theorem dX2_find_45 : decode cX2_find 45 = .ok (.iload 4, 2) := by decide +kernel
theorem dX2_find_47 : decode cX2_find 47 = .ok (.ireturn, 1) := by decide +kernel
theorem dX2_find_48 : decode cX2_find 48 = .ok (.iinc 4 1, 3) := by decide +kernel
theorem dX2_find_51 : decode cX2_find 51 = .ok (.goto (-48), 3) := by decide +kernel
theorem dX2_find_54 : decode cX2_find 54 = .ok (.bipush (-9), 2) := by decide +kernel
theorem dX2_find_56 : decode cX2_find 56 = .ok (.ireturn, 1) := by decide +kernel
theorem dX2_hold_0 : decode cX2_hold 0 = .ok (.aload_n 0, 1) := by decide +kernel
theorem dX2_hold_1 : decode cX2_hold 1 = .ok (.getfield 40, 3) := by decide +kernel
theorem dX2_hold_4 : decode cX2_hold 4 = .ok (.sipush 370, 3) := by decide +kernel
theorem dX2_hold_7 : decode cX2_hold 7 = .ok (.if_icmp .lt 6, 3) := by decide +kernel
theorem dX2_hold_10 : decode cX2_hold 10 = .ok (.bipush (-9), 2) := by decide +kernel
theorem dX2_hold_12 : decode cX2_hold 12 = .ok (.ireturn, 1) := by decide +kernel
theorem dX2_hold_13 : decode cX2_hold 13 = .ok (.aload_n 0, 1) := by decide +kernel
theorem dX2_hold_14 : decode cX2_hold 14 = .ok (.getfield 40, 3) := by decide +kernel
theorem dX2_hold_17 : decode cX2_hold 17 = .ok (.istore 4, 2) := by decide +kernel
theorem dX2_hold_19 : decode cX2_hold 19 = .ok (.aload_n 0, 1) := by decide +kernel
theorem dX2_hold_20 : decode cX2_hold 20 = .ok (.getfield 9, 3) := by decide +kernel
theorem dX2_hold_23 : decode cX2_hold 23 = .ok (.iload 4, 2) := by decide +kernel
theorem dX2_hold_25 : decode cX2_hold 25 = .ok (.iload_n 1, 1) := by decide +kernel
theorem dX2_hold_26 : decode cX2_hold 26 = .ok (.iastore, 1) := by decide +kernel
theorem dX2_hold_27 : decode cX2_hold 27 = .ok (.aload_n 0, 1) := by decide +kernel
theorem dX2_hold_28 : decode cX2_hold 28 = .ok (.getfield 15, 3) := by decide +kernel
theorem dX2_hold_31 : decode cX2_hold 31 = .ok (.iload 4, 2) := by decide +kernel
theorem dX2_hold_33 : decode cX2_hold 33 = .ok (.iload_n 2, 1) := by decide +kernel
theorem dX2_hold_34 : decode cX2_hold 34 = .ok (.iastore, 1) := by decide +kernel
theorem dX2_hold_35 : decode cX2_hold 35 = .ok (.aload_n 0, 1) := by decide +kernel
theorem dX2_hold_36 : decode cX2_hold 36 = .ok (.getfield 18, 3) := by decide +kernel
theorem dX2_hold_39 : decode cX2_hold 39 = .ok (.iload 4, 2) := by decide +kernel
theorem dX2_hold_41 : decode cX2_hold 41 = .ok (.iload_n 3, 1) := by decide +kernel
theorem dX2_hold_42 : decode cX2_hold 42 = .ok (.iastore, 1) := by decide +kernel
theorem dX2_hold_43 : decode cX2_hold 43 = .ok (.aload_n 0, 1) := by decide +kernel
theorem dX2_hold_44 : decode cX2_hold 44 = .ok (.dup, 1) := by decide +kernel
theorem dX2_hold_45 : decode cX2_hold 45 = .ok (.getfield 40, 3) := by decide +kernel
theorem dX2_hold_48 : decode cX2_hold 48 = .ok (.iconst 1, 1) := by decide +kernel
theorem dX2_hold_49 : decode cX2_hold 49 = .ok (.iadd, 1) := by decide +kernel
theorem dX2_hold_50 : decode cX2_hold 50 = .ok (.putfield 40, 3) := by decide +kernel
theorem dX2_hold_53 : decode cX2_hold 53 = .ok (.iload 4, 2) := by decide +kernel
theorem dX2_hold_55 : decode cX2_hold 55 = .ok (.ireturn, 1) := by decide +kernel
theorem dX2_measure_0 : decode cX2_measure 0 = .ok (.aload_n 0, 1) := by decide +kernel
theorem dX2_measure_1 : decode cX2_measure 1 = .ok (.iload_n 1, 1) := by decide +kernel
theorem dX2_measure_2 : decode cX2_measure 2 = .ok (.invokevirtual 50, 3) := by decide +kernel
theorem dX2_measure_5 : decode cX2_measure 5 = .ok (.ifCond .ne 4, 3) := by decide +kernel
theorem dX2_measure_8 : decode cX2_measure 8 = .ok (.return_, 1) := by decide +kernel
theorem dX2_measure_9 : decode cX2_measure 9 = .ok (.aload_n 0, 1) := by decide +kernel
theorem dX2_measure_10 : decode cX2_measure 10 = .ok (.getfield 9, 3) := by decide +kernel
theorem dX2_measure_13 : decode cX2_measure 13 = .ok (.iload_n 1, 1) := by decide +kernel
theorem dX2_measure_14 : decode cX2_measure 14 = .ok (.iaload, 1) := by decide +kernel
theorem dX2_measure_15 : decode cX2_measure 15 = .ok (.istore_n 2, 1) := by decide +kernel
theorem dX2_measure_16 : decode cX2_measure 16 = .ok (.aload_n 0, 1) := by decide +kernel
theorem dX2_measure_17 : decode cX2_measure 17 = .ok (.getfield 15, 3) := by decide +kernel
theorem dX2_measure_20 : decode cX2_measure 20 = .ok (.iload_n 1, 1) := by decide +kernel
theorem dX2_measure_21 : decode cX2_measure 21 = .ok (.iaload, 1) := by decide +kernel
theorem dX2_measure_22 : decode cX2_measure 22 = .ok (.istore_n 3, 1) := by decide +kernel
theorem dX2_measure_23 : decode cX2_measure 23 = .ok (.aload_n 0, 1) := by decide +kernel
theorem dX2_measure_24 : decode cX2_measure 24 = .ok (.getfield 18, 3) := by decide +kernel
theorem dX2_measure_27 : decode cX2_measure 27 = .ok (.iload_n 1, 1) := by decide +kernel
theorem dX2_measure_28 : decode cX2_measure 28 = .ok (.iaload, 1) := by decide +kernel
theorem dX2_measure_29 : decode cX2_measure 29 = .ok (.istore 4, 2) := by decide +kernel
theorem dX2_measure_31 : decode cX2_measure 31 = .ok (.aload_n 0, 1) := by decide +kernel
theorem dX2_measure_32 : decode cX2_measure 32 = .ok (.getfield 21, 3) := by decide +kernel
theorem dX2_measure_35 : decode cX2_measure 35 = .ok (.iload_n 1, 1) := by decide +kernel
theorem dX2_measure_36 : decode cX2_measure 36 = .ok (.aload_n 0, 1) := by decide +kernel
theorem dX2_measure_37 : decode cX2_measure 37 = .ok (.iload_n 3, 1) := by decide +kernel
theorem dX2_measure_38 : decode cX2_measure 38 = .ok (.iload 4, 2) := by decide +kernel
theorem dX2_measure_40 : decode cX2_measure 40 = .ok (.invokevirtual 81, 3) := by decide +kernel
theorem dX2_measure_43 : decode cX2_measure 43 = .ok (.iastore, 1) := by decide +kernel
theorem dX2_measure_44 : decode cX2_measure 44 = .ok (.aload_n 0, 1) := by decide +kernel
theorem dX2_measure_45 : decode cX2_measure 45 = .ok (.getfield 24, 3) := by decide +kernel
theorem dX2_measure_48 : decode cX2_measure 48 = .ok (.iload_n 1, 1) := by decide +kernel
theorem dX2_measure_49 : decode cX2_measure 49 = .ok (.iconst 1, 1) := by decide +kernel
theorem dX2_measure_50 : decode cX2_measure 50 = .ok (.aload_n 0, 1) := by decide +kernel
theorem dX2_measure_51 : decode cX2_measure 51 = .ok (.iload_n 3, 1) := by decide +kernel
theorem dX2_measure_52 : decode cX2_measure 52 = .ok (.invokevirtual 84, 3) := by decide +kernel
theorem dX2_measure_55 : decode cX2_measure 55 = .ok (.iadd, 1) := by decide +kernel
theorem dX2_measure_56 : decode cX2_measure 56 = .ok (.aload_n 0, 1) := by decide +kernel
theorem dX2_measure_57 : decode cX2_measure 57 = .ok (.iload 4, 2) := by decide +kernel
theorem dX2_measure_59 : decode cX2_measure 59 = .ok (.invokevirtual 84, 3) := by decide +kernel
theorem dX2_measure_62 : decode cX2_measure 62 = .ok (.iadd, 1) := by decide +kernel
theorem dX2_measure_63 : decode cX2_measure 63 = .ok (.iastore, 1) := by decide +kernel
theorem dX2_measure_64 : decode cX2_measure 64 = .ok (.aload_n 0, 1) := by decide +kernel
theorem dX2_measure_65 : decode cX2_measure 65 = .ok (.getfield 27, 3) := by decide +kernel
theorem dX2_measure_68 : decode cX2_measure 68 = .ok (.iload_n 1, 1) := by decide +kernel
theorem dX2_measure_69 : decode cX2_measure 69 = .ok (.aload_n 0, 1) := by decide +kernel
theorem dX2_measure_70 : decode cX2_measure 70 = .ok (.iload_n 3, 1) := by decide +kernel
theorem dX2_measure_71 : decode cX2_measure 71 = .ok (.invokevirtual 87, 3) := by decide +kernel
theorem dX2_measure_74 : decode cX2_measure 74 = .ok (.aload_n 0, 1) := by decide +kernel
theorem dX2_measure_75 : decode cX2_measure 75 = .ok (.iload 4, 2) := by decide +kernel
theorem dX2_measure_77 : decode cX2_measure 77 = .ok (.invokevirtual 87, 3) := by decide +kernel
theorem dX2_measure_80 : decode cX2_measure 80 = .ok (.ior, 1) := by decide +kernel
theorem dX2_measure_81 : decode cX2_measure 81 = .ok (.iload_n 2, 1) := by decide +kernel
theorem dX2_measure_82 : decode cX2_measure 82 = .ok (.bipush 100, 2) := by decide +kernel
theorem dX2_measure_84 : decode cX2_measure 84 = .ok (.if_icmp .ge 9, 3) := by decide +kernel
theorem dX2_measure_87 : decode cX2_measure 87 = .ok (.iconst 1, 1) := by decide +kernel
theorem dX2_measure_88 : decode cX2_measure 88 = .ok (.iload_n 2, 1) := by decide +kernel
theorem dX2_measure_89 : decode cX2_measure 89 = .ok (.ishl, 1) := by decide +kernel
theorem dX2_measure_90 : decode cX2_measure 90 = .ok (.goto 4, 3) := by decide +kernel
theorem dX2_measure_93 : decode cX2_measure 93 = .ok (.iconst 0, 1) := by decide +kernel
theorem dX2_measure_94 : decode cX2_measure 94 = .ok (.ior, 1) := by decide +kernel
theorem dX2_measure_95 : decode cX2_measure 95 = .ok (.iastore, 1) := by decide +kernel
theorem dX2_measure_96 : decode cX2_measure 96 = .ok (.aload_n 0, 1) := by decide +kernel
theorem dX2_measure_97 : decode cX2_measure 97 = .ok (.getfield 30, 3) := by decide +kernel
theorem dX2_measure_100 : decode cX2_measure 100 = .ok (.iload_n 1, 1) := by decide +kernel
theorem dX2_measure_101 : decode cX2_measure 101 = .ok (.aload_n 0, 1) := by decide +kernel
theorem dX2_measure_102 : decode cX2_measure 102 = .ok (.iload_n 3, 1) := by decide +kernel
theorem dX2_measure_103 : decode cX2_measure 103 = .ok (.iconst 0, 1) := by decide +kernel
theorem dX2_measure_104 : decode cX2_measure 104 = .ok (.invokevirtual 63, 3) := by decide +kernel
theorem dX2_measure_107 : decode cX2_measure 107 = .ok (.aload_n 0, 1) := by decide +kernel
theorem dX2_measure_108 : decode cX2_measure 108 = .ok (.iload 4, 2) := by decide +kernel
theorem dX2_measure_110 : decode cX2_measure 110 = .ok (.iconst 0, 1) := by decide +kernel
theorem dX2_measure_111 : decode cX2_measure 111 = .ok (.invokevirtual 63, 3) := by decide +kernel
theorem dX2_measure_114 : decode cX2_measure 114 = .ok (.iadd, 1) := by decide +kernel
theorem dX2_measure_115 : decode cX2_measure 115 = .ok (.iload_n 2, 1) := by decide +kernel
theorem dX2_measure_116 : decode cX2_measure 116 = .ok (.bipush 100, 2) := by decide +kernel
theorem dX2_measure_118 : decode cX2_measure 118 = .ok (.if_icmp .ne 7, 3) := by decide +kernel
theorem dX2_measure_121 : decode cX2_measure 121 = .ok (.iconst 1, 1) := by decide +kernel
theorem dX2_measure_122 : decode cX2_measure 122 = .ok (.goto 4, 3) := by decide +kernel
theorem dX2_measure_125 : decode cX2_measure 125 = .ok (.iconst 0, 1) := by decide +kernel
theorem dX2_measure_126 : decode cX2_measure 126 = .ok (.iadd, 1) := by decide +kernel
theorem dX2_measure_127 : decode cX2_measure 127 = .ok (.iastore, 1) := by decide +kernel
theorem dX2_measure_128 : decode cX2_measure 128 = .ok (.aload_n 0, 1) := by decide +kernel
theorem dX2_measure_129 : decode cX2_measure 129 = .ok (.getfield 33, 3) := by decide +kernel
theorem dX2_measure_132 : decode cX2_measure 132 = .ok (.iload_n 1, 1) := by decide +kernel
theorem dX2_measure_133 : decode cX2_measure 133 = .ok (.aload_n 0, 1) := by decide +kernel
theorem dX2_measure_134 : decode cX2_measure 134 = .ok (.iload_n 3, 1) := by decide +kernel
theorem dX2_measure_135 : decode cX2_measure 135 = .ok (.iconst 1, 1) := by decide +kernel
theorem dX2_measure_136 : decode cX2_measure 136 = .ok (.invokevirtual 63, 3) := by decide +kernel
theorem dX2_measure_139 : decode cX2_measure 139 = .ok (.aload_n 0, 1) := by decide +kernel
theorem dX2_measure_140 : decode cX2_measure 140 = .ok (.iload 4, 2) := by decide +kernel
theorem dX2_measure_142 : decode cX2_measure 142 = .ok (.iconst 1, 1) := by decide +kernel
theorem dX2_measure_143 : decode cX2_measure 143 = .ok (.invokevirtual 63, 3) := by decide +kernel
theorem dX2_measure_146 : decode cX2_measure 146 = .ok (.iadd, 1) := by decide +kernel
theorem dX2_measure_147 : decode cX2_measure 147 = .ok (.iload_n 2, 1) := by decide +kernel
theorem dX2_measure_148 : decode cX2_measure 148 = .ok (.bipush 100, 2) := by decide +kernel
theorem dX2_measure_150 : decode cX2_measure 150 = .ok (.if_icmp .le 7, 3) := by decide +kernel
theorem dX2_measure_153 : decode cX2_measure 153 = .ok (.iconst 1, 1) := by decide +kernel
theorem dX2_measure_154 : decode cX2_measure 154 = .ok (.goto 4, 3) := by decide +kernel
theorem dX2_measure_157 : decode cX2_measure 157 = .ok (.iconst 0, 1) := by decide +kernel
theorem dX2_measure_158 : decode cX2_measure 158 = .ok (.iadd, 1) := by decide +kernel
theorem dX2_measure_159 : decode cX2_measure 159 = .ok (.iastore, 1) := by decide +kernel
theorem dX2_measure_160 : decode cX2_measure 160 = .ok (.return_, 1) := by decide +kernel
end
section
theorem dX3_init_0 : decode cX3_init 0 = .ok (.aload_n 0, 1) := by decide +kernel
theorem dX3_init_1 : decode cX3_init 1 = .ok (.invokespecial 5, 3) := by decide +kernel
theorem dX3_init_4 : decode cX3_init 4 = .ok (.aload_n 0, 1) := by decide +kernel
theorem dX3_init_5 : decode cX3_init 5 = .ok (.new 11, 3) := by decide +kernel
theorem dX3_init_8 : decode cX3_init 8 = .ok (.dup, 1) := by decide +kernel
theorem dX3_init_9 : decode cX3_init 9 = .ok (.invokespecial 13, 3) := by decide +kernel
theorem dX3_init_12 : decode cX3_init 12 = .ok (.putfield 14, 3) := by decide +kernel
theorem dX3_init_15 : decode cX3_init 15 = .ok (.aload_n 0, 1) := by decide +kernel
theorem dX3_init_16 : decode cX3_init 16 = .ok (.new 18, 3) := by decide +kernel
theorem dX3_init_19 : decode cX3_init 19 = .ok (.dup, 1) := by decide +kernel
theorem dX3_init_20 : decode cX3_init 20 = .ok (.aload_n 0, 1) := by decide +kernel
theorem dX3_init_21 : decode cX3_init 21 = .ok (.getfield 14, 3) := by decide +kernel
theorem dX3_init_24 : decode cX3_init 24 = .ok (.invokespecial 20, 3) := by decide +kernel
theorem dX3_init_27 : decode cX3_init 27 = .ok (.putfield 23, 3) := by decide +kernel
theorem dX3_init_30 : decode cX3_init 30 = .ok (.aload_n 0, 1) := by decide +kernel
theorem dX3_init_31 : decode cX3_init 31 = .ok (.new 27, 3) := by decide +kernel
theorem dX3_init_34 : decode cX3_init 34 = .ok (.dup, 1) := by decide +kernel
theorem dX3_init_35 : decode cX3_init 35 = .ok (.aload_n 0, 1) := by decide +kernel
theorem dX3_init_36 : decode cX3_init 36 = .ok (.getfield 14, 3) := by decide +kernel
theorem dX3_init_39 : decode cX3_init 39 = .ok (.aload_n 0, 1) := by decide +kernel
theorem dX3_init_40 : decode cX3_init 40 = .ok (.getfield 23, 3) := by decide +kernel
theorem dX3_init_43 : decode cX3_init 43 = .ok (.invokespecial 29, 3) := by decide +kernel
theorem dX3_init_46 : decode cX3_init 46 = .ok (.putfield 32, 3) := by decide +kernel
theorem dX3_init_49 : decode cX3_init 49 = .ok (.return_, 1) := by decide +kernel
theorem dX3_name_0 : decode cX3_name 0 = .ok (.iload_n 1, 1) := by decide +kernel
theorem dX3_name_1 : decode cX3_name 1 = .ok (.ifCond .lt 8, 3) := by decide +kernel
theorem dX3_name_4 : decode cX3_name 4 = .ok (.iload_n 1, 1) := by decide +kernel
theorem dX3_name_5 : decode cX3_name 5 = .ok (.iconst 2, 1) := by decide +kernel
theorem dX3_name_6 : decode cX3_name 6 = .ok (.if_icmp .le 6, 3) := by decide +kernel
theorem dX3_name_9 : decode cX3_name 9 = .ok (.bipush (-2), 2) := by decide +kernel
theorem dX3_name_11 : decode cX3_name 11 = .ok (.ireturn, 1) := by decide +kernel
theorem dX3_name_12 : decode cX3_name 12 = .ok (.aload_n 0, 1) := by decide +kernel
theorem dX3_name_13 : decode cX3_name 13 = .ok (.getfield 23, 3) := by decide +kernel
theorem dX3_name_16 : decode cX3_name 16 = .ok (.iload_n 1, 1) := by decide +kernel
theorem dX3_name_17 : decode cX3_name 17 = .ok (.invokevirtual 36, 3) := by decide +kernel
theorem dX3_name_20 : decode cX3_name 20 = .ok (.ireturn, 1) := by decide +kernel
theorem dX3_parameter_0 : decode cX3_parameter 0 = .ok (.iload_n 1, 1) := by decide +kernel
theorem dX3_parameter_1 : decode cX3_parameter 1 = .ok (.ifCond .lt 8, 3) := by decide +kernel
theorem dX3_parameter_4 : decode cX3_parameter 4 = .ok (.iload_n 1, 1) := by decide +kernel
theorem dX3_parameter_5 : decode cX3_parameter 5 = .ok (.iconst 2, 1) := by decide +kernel
theorem dX3_parameter_6 : decode cX3_parameter 6 = .ok (.if_icmp .lt 6, 3) := by decide +kernel
theorem dX3_parameter_9 : decode cX3_parameter 9 = .ok (.bipush (-2), 2) := by decide +kernel
theorem dX3_parameter_11 : decode cX3_parameter 11 = .ok (.ireturn, 1) := by decide +kernel
theorem dX3_parameter_12 : decode cX3_parameter 12 = .ok (.aload_n 0, 1) := by decide +kernel
theorem dX3_parameter_13 : decode cX3_parameter 13 = .ok (.getfield 14, 3) := by decide +kernel
theorem dX3_parameter_16 : decode cX3_parameter 16 = .ok (.bipush 100, 2) := by decide +kernel
theorem dX3_parameter_18 : decode cX3_parameter 18 = .ok (.iload_n 1, 1) := by decide +kernel
theorem dX3_parameter_19 : decode cX3_parameter 19 = .ok (.iadd, 1) := by decide +kernel
theorem dX3_parameter_20 : decode cX3_parameter 20 = .ok (.bipush (-9), 2) := by decide +kernel
theorem dX3_parameter_22 : decode cX3_parameter 22 = .ok (.bipush (-9), 2) := by decide +kernel
theorem dX3_parameter_24 : decode cX3_parameter 24 = .ok (.invokevirtual 40, 3) := by decide +kernel
theorem dX3_parameter_27 : decode cX3_parameter 27 = .ok (.ireturn, 1) := by decide +kernel
theorem dX3_term_0 : decode cX3_term 0 = .ok (.aload_n 0, 1) := by decide +kernel
theorem dX3_term_1 : decode cX3_term 1 = .ok (.getfield 23, 3) := by decide +kernel
theorem dX3_term_4 : decode cX3_term 4 = .ok (.iload_n 1, 1) := by decide +kernel
theorem dX3_term_5 : decode cX3_term 5 = .ok (.invokevirtual 44, 3) := by decide +kernel
theorem dX3_term_8 : decode cX3_term 8 = .ok (.ifCond .ne 5, 3) := by decide +kernel
theorem dX3_term_11 : decode cX3_term 11 = .ok (.iconst (-1), 1) := by decide +kernel
theorem dX3_term_12 : decode cX3_term 12 = .ok (.ireturn, 1) := by decide +kernel
theorem dX3_term_13 : decode cX3_term 13 = .ok (.aload_n 0, 1) := by decide +kernel
theorem dX3_term_14 : decode cX3_term 14 = .ok (.getfield 23, 3) := by decide +kernel
theorem dX3_term_17 : decode cX3_term 17 = .ok (.iload_n 1, 1) := by decide +kernel
theorem dX3_term_18 : decode cX3_term 18 = .ok (.invokevirtual 48, 3) := by decide +kernel
theorem dX3_term_21 : decode cX3_term 21 = .ok (.istore 4, 2) := by decide +kernel
theorem dX3_term_23 : decode cX3_term 23 = .ok (.iload 4, 2) := by decide +kernel
theorem dX3_term_25 : decode cX3_term 25 = .ok (.ifCond .le 16, 3) := by decide +kernel
theorem dX3_term_28 : decode cX3_term 28 = .ok (.aload_n 0, 1) := by decide +kernel
theorem dX3_term_29 : decode cX3_term 29 = .ok (.getfield 14, 3) := by decide +kernel
theorem dX3_term_32 : decode cX3_term 32 = .ok (.iload_n 2, 1) := by decide +kernel
theorem dX3_term_33 : decode cX3_term 33 = .ok (.invokevirtual 51, 3) := by decide +kernel
theorem dX3_term_36 : decode cX3_term 36 = .ok (.ifCond .ne 5, 3) := by decide +kernel
theorem dX3_term_39 : decode cX3_term 39 = .ok (.iconst (-1), 1) := by decide +kernel
theorem dX3_term_40 : decode cX3_term 40 = .ok (.ireturn, 1) := by decide +kernel
theorem dX3_term_41 : decode cX3_term 41 = .ok (.iload 4, 2) := by decide +kernel
theorem dX3_term_43 : decode cX3_term 43 = .ok (.iconst 1, 1) := by decide +kernel
theorem dX3_term_44 : decode cX3_term 44 = .ok (.if_icmp .le 16, 3) := by decide +kernel
theorem dX3_term_47 : decode cX3_term 47 = .ok (.aload_n 0, 1) := by decide +kernel
theorem dX3_term_48 : decode cX3_term 48 = .ok (.getfield 14, 3) := by decide +kernel
theorem dX3_term_51 : decode cX3_term 51 = .ok (.iload_n 3, 1) := by decide +kernel
theorem dX3_term_52 : decode cX3_term 52 = .ok (.invokevirtual 51, 3) := by decide +kernel
theorem dX3_term_55 : decode cX3_term 55 = .ok (.ifCond .ne 5, 3) := by decide +kernel
theorem dX3_term_58 : decode cX3_term 58 = .ok (.iconst (-1), 1) := by decide +kernel
theorem dX3_term_59 : decode cX3_term 59 = .ok (.ireturn, 1) := by decide +kernel
theorem dX3_term_60 : decode cX3_term 60 = .ok (.iload 4, 2) := by decide +kernel
theorem dX3_term_62 : decode cX3_term 62 = .ok (.iconst 1, 1) := by decide +kernel
theorem dX3_term_63 : decode cX3_term 63 = .ok (.if_icmp .ge 12, 3) := by decide +kernel
theorem dX3_term_66 : decode cX3_term 66 = .ok (.iload_n 2, 1) := by decide +kernel
theorem dX3_term_67 : decode cX3_term 67 = .ok (.bipush (-9), 2) := by decide +kernel
theorem dX3_term_69 : decode cX3_term 69 = .ok (.if_icmp .eq 6, 3) := by decide +kernel
theorem dX3_term_72 : decode cX3_term 72 = .ok (.bipush (-2), 2) := by decide +kernel
theorem dX3_term_74 : decode cX3_term 74 = .ok (.ireturn, 1) := by decide +kernel
theorem dX3_term_75 : decode cX3_term 75 = .ok (.iload 4, 2) := by decide +kernel
theorem dX3_term_77 : decode cX3_term 77 = .ok (.iconst 2, 1) := by decide +kernel
theorem dX3_term_78 : decode cX3_term 78 = .ok (.if_icmp .ge 12, 3) := by decide +kernel
theorem dX3_term_81 : decode cX3_term 81 = .ok (.iload_n 3, 1) := by decide +kernel
theorem dX3_term_82 : decode cX3_term 82 = .ok (.bipush (-9), 2) := by decide +kernel
theorem dX3_term_84 : decode cX3_term 84 = .ok (.if_icmp .eq 6, 3) := by decide +kernel
theorem dX3_term_87 : decode cX3_term 87 = .ok (.bipush (-2), 2) := by decide +kernel
theorem dX3_term_89 : decode cX3_term 89 = .ok (.ireturn, 1) := by decide +kernel
theorem dX3_term_90 : decode cX3_term 90 = .ok (.aload_n 0, 1) := by decide +kernel
theorem dX3_term_91 : decode cX3_term 91 = .ok (.getfield 14, 3) := by decide +kernel
theorem dX3_term_94 : decode cX3_term 94 = .ok (.iload_n 2, 1) := by decide +kernel
theorem dX3_term_95 : decode cX3_term 95 = .ok (.iload_n 3, 1) := by decide +kernel
theorem dX3_term_96 : decode cX3_term 96 = .ok (.invokevirtual 54, 3) := by decide +kernel
theorem dX3_term_99 : decode cX3_term 99 = .ok (.iconst 4, 1) := by decide +kernel
theorem dX3_term_100 : decode cX3_term 100 = .ok (.if_icmp .le 6, 3) := by decide +kernel
theorem dX3_term_103 : decode cX3_term 103 = .ok (.bipush (-3), 2) := by decide +kernel
theorem dX3_term_105 : decode cX3_term 105 = .ok (.ireturn, 1) := by decide +kernel
theorem dX3_term_106 : decode cX3_term 106 = .ok (.aload_n 0, 1) := by decide +kernel
theorem dX3_term_107 : decode cX3_term 107 = .ok (.getfield 14, 3) := by decide +kernel
theorem dX3_term_110 : decode cX3_term 110 = .ok (.iload_n 1, 1) := by decide +kernel
theorem dX3_term_111 : decode cX3_term 111 = .ok (.iload_n 2, 1) := by decide +kernel
theorem dX3_term_112 : decode cX3_term 112 = .ok (.iload_n 3, 1) := by decide +kernel
theorem dX3_term_113 : decode cX3_term 113 = .ok (.invokevirtual 40, 3) := by decide +kernel
theorem dX3_term_116 : decode cX3_term 116 = .ok (.ireturn, 1) := by decide +kernel
theorem dX3_define_0 : decode cX3_define 0 = .ok (.aload_n 0, 1) := by decide +kernel
theorem dX3_define_1 : decode cX3_define 1 = .ok (.getfield 23, 3) := by decide +kernel
theorem dX3_define_4 : decode cX3_define 4 = .ok (.iload_n 1, 1) := by decide +kernel
theorem dX3_define_5 : decode cX3_define 5 = .ok (.invokevirtual 44, 3) := by decide +kernel
theorem dX3_define_8 : decode cX3_define 8 = .ok (.ifCond .ne 5, 3) := by decide +kernel
theorem dX3_define_11 : decode cX3_define 11 = .ok (.iconst (-1), 1) := by decide +kernel
theorem dX3_define_12 : decode cX3_define 12 = .ok (.ireturn, 1) := by decide +kernel
theorem dX3_define_13 : decode cX3_define 13 = .ok (.iload_n 2, 1) := by decide +kernel
theorem dX3_define_14 : decode cX3_define 14 = .ok (.bipush (-9), 2) := by decide +kernel
theorem dX3_define_16 : decode cX3_define 16 = .ok (.if_icmp .ne 14, 3) := by decide +kernel
theorem dX3_define_19 : decode cX3_define 19 = .ok (.aload_n 0, 1) := by decide +kernel
theorem dX3_define_20 : decode cX3_define 20 = .ok (.getfield 23, 3) := by decide +kernel
theorem dX3_define_23 : decode cX3_define 23 = .ok (.iload_n 1, 1) := by decide +kernel
theorem dX3_define_24 : decode cX3_define 24 = .ok (.bipush (-9), 2) := by decide +kernel
theorem dX3_define_26 : decode cX3_define 26 = .ok (.invokevirtual 58, 3) := by decide +kernel
theorem dX3_define_29 : decode cX3_define 29 = .ok (.ireturn, 1) := by decide +kernel
theorem dX3_define_30 : decode cX3_define 30 = .ok (.aload_n 0, 1) := by decide +kernel
theorem dX3_define_31 : decode cX3_define 31 = .ok (.getfield 14, 3) := by decide +kernel
theorem dX3_define_34 : decode cX3_define 34 = .ok (.iload_n 2, 1) := by decide +kernel
theorem dX3_define_35 : decode cX3_define 35 = .ok (.invokevirtual 51, 3) := by decide +kernel
theorem dX3_define_38 : decode cX3_define 38 = .ok (.ifCond .ne 5, 3) := by decide +kernel
theorem dX3_define_41 : decode cX3_define 41 = .ok (.iconst (-1), 1) := by decide +kernel
theorem dX3_define_42 : decode cX3_define 42 = .ok (.ireturn, 1) := by decide +kernel
theorem dX3_define_43 : decode cX3_define 43 = .ok (.aload_n 0, 1) := by decide +kernel
theorem dX3_define_44 : decode cX3_define 44 = .ok (.getfield 23, 3) := by decide +kernel
theorem dX3_define_47 : decode cX3_define 47 = .ok (.iload_n 1, 1) := by decide +kernel
theorem dX3_define_48 : decode cX3_define 48 = .ok (.iload_n 2, 1) := by decide +kernel
theorem dX3_define_49 : decode cX3_define 49 = .ok (.invokevirtual 61, 3) := by decide +kernel
theorem dX3_define_52 : decode cX3_define 52 = .ok (.ifCond .ne 6, 3) := by decide +kernel
theorem dX3_define_55 : decode cX3_define 55 = .ok (.bipush (-3), 2) := by decide +kernel
theorem dX3_define_57 : decode cX3_define 57 = .ok (.ireturn, 1) := by decide +kernel
theorem dX3_define_58 : decode cX3_define 58 = .ok (.aload_n 0, 1) := by decide +kernel
theorem dX3_define_59 : decode cX3_define 59 = .ok (.getfield 23, 3) := by decide +kernel
theorem dX3_define_62 : decode cX3_define 62 = .ok (.iload_n 1, 1) := by decide +kernel
theorem dX3_define_63 : decode cX3_define 63 = .ok (.iload_n 2, 1) := by decide +kernel
theorem dX3_define_64 : decode cX3_define 64 = .ok (.invokevirtual 58, 3) := by decide +kernel
theorem dX3_define_67 : decode cX3_define 67 = .ok (.ireturn, 1) := by decide +kernel
theorem dX3_opaque_0 : decode cX3_opaque 0 = .ok (.aload_n 0, 1) := by decide +kernel
theorem dX3_opaque_1 : decode cX3_opaque 1 = .ok (.getfield 23, 3) := by decide +kernel
theorem dX3_opaque_4 : decode cX3_opaque 4 = .ok (.iload_n 1, 1) := by decide +kernel
theorem dX3_opaque_5 : decode cX3_opaque 5 = .ok (.invokevirtual 44, 3) := by decide +kernel
theorem dX3_opaque_8 : decode cX3_opaque 8 = .ok (.ifCond .ne 5, 3) := by decide +kernel
theorem dX3_opaque_11 : decode cX3_opaque 11 = .ok (.iconst (-1), 1) := by decide +kernel
theorem dX3_opaque_12 : decode cX3_opaque 12 = .ok (.ireturn, 1) := by decide +kernel
theorem dX3_opaque_13 : decode cX3_opaque 13 = .ok (.aload_n 0, 1) := by decide +kernel
theorem dX3_opaque_14 : decode cX3_opaque 14 = .ok (.getfield 23, 3) := by decide +kernel
theorem dX3_opaque_17 : decode cX3_opaque 17 = .ok (.iload_n 1, 1) := by decide +kernel
theorem dX3_opaque_18 : decode cX3_opaque 18 = .ok (.iload_n 2, 1) := by decide +kernel
theorem dX3_opaque_19 : decode cX3_opaque 19 = .ok (.invokevirtual 65, 3) := by decide +kernel
theorem dX3_opaque_22 : decode cX3_opaque 22 = .ok (.ifCond .eq 7, 3) := by decide +kernel
theorem dX3_opaque_25 : decode cX3_opaque 25 = .ok (.iconst 1, 1) := by decide +kernel
theorem dX3_opaque_26 : decode cX3_opaque 26 = .ok (.goto 4, 3) := by decide +kernel
theorem dX3_opaque_29 : decode cX3_opaque 29 = .ok (.iconst 0, 1) := by decide +kernel
theorem dX3_opaque_30 : decode cX3_opaque 30 = .ok (.ireturn, 1) := by decide +kernel
theorem dX3_ofName_0 : decode cX3_ofName 0 = .ok (.aload_n 0, 1) := by decide +kernel
theorem dX3_ofName_1 : decode cX3_ofName 1 = .ok (.getfield 23, 3) := by decide +kernel
theorem dX3_ofName_4 : decode cX3_ofName 4 = .ok (.iload_n 1, 1) := by decide +kernel
theorem dX3_ofName_5 : decode cX3_ofName 5 = .ok (.invokevirtual 44, 3) := by decide +kernel
theorem dX3_ofName_8 : decode cX3_ofName 8 = .ok (.ifCond .ne 5, 3) := by decide +kernel
theorem dX3_ofName_11 : decode cX3_ofName 11 = .ok (.iconst (-1), 1) := by decide +kernel
theorem dX3_ofName_12 : decode cX3_ofName 12 = .ok (.ireturn, 1) := by decide +kernel
theorem dX3_ofName_13 : decode cX3_ofName 13 = .ok (.iload_n 2, 1) := by decide +kernel
theorem dX3_ofName_14 : decode cX3_ofName 14 = .ok (.tableswitch 74 0 3 #[30, 39, 48, 65], 30) := by decide +kernel
theorem dX3_ofName_44 : decode cX3_ofName 44 = .ok (.aload_n 0, 1) := by decide +kernel
theorem dX3_ofName_45 : decode cX3_ofName 45 = .ok (.getfield 23, 3) := by decide +kernel
theorem dX3_ofName_48 : decode cX3_ofName 48 = .ok (.iload_n 1, 1) := by decide +kernel
theorem dX3_ofName_49 : decode cX3_ofName 49 = .ok (.invokevirtual 48, 3) := by decide +kernel
theorem dX3_ofName_52 : decode cX3_ofName 52 = .ok (.ireturn, 1) := by decide +kernel
theorem dX3_ofName_53 : decode cX3_ofName 53 = .ok (.aload_n 0, 1) := by decide +kernel
theorem dX3_ofName_54 : decode cX3_ofName 54 = .ok (.getfield 23, 3) := by decide +kernel
theorem dX3_ofName_57 : decode cX3_ofName 57 = .ok (.iload_n 1, 1) := by decide +kernel
theorem dX3_ofName_58 : decode cX3_ofName 58 = .ok (.invokevirtual 69, 3) := by decide +kernel
theorem dX3_ofName_61 : decode cX3_ofName 61 = .ok (.ireturn, 1) := by decide +kernel
theorem dX3_ofName_62 : decode cX3_ofName 62 = .ok (.aload_n 0, 1) := by decide +kernel
theorem dX3_ofName_63 : decode cX3_ofName 63 = .ok (.getfield 23, 3) := by decide +kernel
theorem dX3_ofName_66 : decode cX3_ofName 66 = .ok (.iload_n 1, 1) := by decide +kernel
theorem dX3_ofName_67 : decode cX3_ofName 67 = .ok (.invokevirtual 72, 3) := by decide +kernel
theorem dX3_ofName_70 : decode cX3_ofName 70 = .ok (.ifCond .eq 7, 3) := by decide +kernel
theorem dX3_ofName_73 : decode cX3_ofName 73 = .ok (.iconst 1, 1) := by decide +kernel
theorem dX3_ofName_74 : decode cX3_ofName 74 = .ok (.goto 4, 3) := by decide +kernel
theorem dX3_ofName_77 : decode cX3_ofName 77 = .ok (.iconst 0, 1) := by decide +kernel
theorem dX3_ofName_78 : decode cX3_ofName 78 = .ok (.ireturn, 1) := by decide +kernel
theorem dX3_ofName_79 : decode cX3_ofName 79 = .ok (.aload_n 0, 1) := by decide +kernel
theorem dX3_ofName_80 : decode cX3_ofName 80 = .ok (.getfield 23, 3) := by decide +kernel
theorem dX3_ofName_83 : decode cX3_ofName 83 = .ok (.iload_n 1, 1) := by decide +kernel
theorem dX3_ofName_84 : decode cX3_ofName 84 = .ok (.invokevirtual 75, 3) := by decide +kernel
theorem dX3_ofName_87 : decode cX3_ofName 87 = .ok (.ireturn, 1) := by decide +kernel
theorem dX3_ofName_88 : decode cX3_ofName 88 = .ok (.bipush (-2), 2) := by decide +kernel
theorem dX3_ofName_90 : decode cX3_ofName 90 = .ok (.ireturn, 1) := by decide +kernel
theorem dX3_ofTerm_0 : decode cX3_ofTerm 0 = .ok (.aload_n 0, 1) := by decide +kernel
theorem dX3_ofTerm_1 : decode cX3_ofTerm 1 = .ok (.getfield 14, 3) := by decide +kernel
theorem dX3_ofTerm_4 : decode cX3_ofTerm 4 = .ok (.iload_n 1, 1) := by decide +kernel
theorem dX3_ofTerm_5 : decode cX3_ofTerm 5 = .ok (.invokevirtual 51, 3) := by decide +kernel
theorem dX3_ofTerm_8 : decode cX3_ofTerm 8 = .ok (.ifCond .ne 5, 3) := by decide +kernel
theorem dX3_ofTerm_11 : decode cX3_ofTerm 11 = .ok (.iconst (-1), 1) := by decide +kernel
theorem dX3_ofTerm_12 : decode cX3_ofTerm 12 = .ok (.ireturn, 1) := by decide +kernel
theorem dX3_ofTerm_13 : decode cX3_ofTerm 13 = .ok (.aload_n 0, 1) := by decide +kernel
theorem dX3_ofTerm_14 : decode cX3_ofTerm 14 = .ok (.getfield 14, 3) := by decide +kernel
theorem dX3_ofTerm_17 : decode cX3_ofTerm 17 = .ok (.iload_n 1, 1) := by decide +kernel
theorem dX3_ofTerm_18 : decode cX3_ofTerm 18 = .ok (.invokevirtual 78, 3) := by decide +kernel
theorem dX3_ofTerm_21 : decode cX3_ofTerm 21 = .ok (.istore_n 3, 1) := by decide +kernel
theorem dX3_ofTerm_22 : decode cX3_ofTerm 22 = .ok (.iload_n 2, 1) := by decide +kernel
theorem dX3_ofTerm_23 : decode cX3_ofTerm 23 = .ok (.tableswitch 112 0 5 #[37, 50, 60, 70, 86, 103], 37) := by decide +kernel
theorem dX3_ofTerm_60 : decode cX3_ofTerm 60 = .ok (.iload_n 3, 1) := by decide +kernel
theorem dX3_ofTerm_61 : decode cX3_ofTerm 61 = .ok (.bipush 100, 2) := by decide +kernel
theorem dX3_ofTerm_63 : decode cX3_ofTerm 63 = .ok (.if_icmp .ge 7, 3) := by decide +kernel
theorem dX3_ofTerm_66 : decode cX3_ofTerm 66 = .ok (.iload_n 3, 1) := by decide +kernel
theorem dX3_ofTerm_67 : decode cX3_ofTerm 67 = .ok (.goto 5, 3) := by decide +kernel
theorem dX3_ofTerm_70 : decode cX3_ofTerm 70 = .ok (.bipush (-9), 2) := by decide +kernel
theorem dX3_ofTerm_72 : decode cX3_ofTerm 72 = .ok (.ireturn, 1) := by decide +kernel
theorem dX3_ofTerm_73 : decode cX3_ofTerm 73 = .ok (.aload_n 0, 1) := by decide +kernel
theorem dX3_ofTerm_74 : decode cX3_ofTerm 74 = .ok (.getfield 14, 3) := by decide +kernel
theorem dX3_ofTerm_77 : decode cX3_ofTerm 77 = .ok (.iload_n 1, 1) := by decide +kernel
theorem dX3_ofTerm_78 : decode cX3_ofTerm 78 = .ok (.iconst 0, 1) := by decide +kernel
theorem dX3_ofTerm_79 : decode cX3_ofTerm 79 = .ok (.invokevirtual 81, 3) := by decide +kernel
theorem dX3_ofTerm_82 : decode cX3_ofTerm 82 = .ok (.ireturn, 1) := by decide +kernel
theorem dX3_ofTerm_83 : decode cX3_ofTerm 83 = .ok (.aload_n 0, 1) := by decide +kernel
theorem dX3_ofTerm_84 : decode cX3_ofTerm 84 = .ok (.getfield 14, 3) := by decide +kernel
theorem dX3_ofTerm_87 : decode cX3_ofTerm 87 = .ok (.iload_n 1, 1) := by decide +kernel
theorem dX3_ofTerm_88 : decode cX3_ofTerm 88 = .ok (.iconst 1, 1) := by decide +kernel
theorem dX3_ofTerm_89 : decode cX3_ofTerm 89 = .ok (.invokevirtual 81, 3) := by decide +kernel
theorem dX3_ofTerm_92 : decode cX3_ofTerm 92 = .ok (.ireturn, 1) := by decide +kernel
theorem dX3_ofTerm_93 : decode cX3_ofTerm 93 = .ok (.iload_n 3, 1) := by decide +kernel
theorem dX3_ofTerm_94 : decode cX3_ofTerm 94 = .ok (.bipush 100, 2) := by decide +kernel
theorem dX3_ofTerm_96 : decode cX3_ofTerm 96 = .ok (.if_icmp .ge 8, 3) := by decide +kernel
theorem dX3_ofTerm_99 : decode cX3_ofTerm 99 = .ok (.bipush (-9), 2) := by decide +kernel
theorem dX3_ofTerm_101 : decode cX3_ofTerm 101 = .ok (.goto 7, 3) := by decide +kernel
theorem dX3_ofTerm_104 : decode cX3_ofTerm 104 = .ok (.iload_n 3, 1) := by decide +kernel
theorem dX3_ofTerm_105 : decode cX3_ofTerm 105 = .ok (.bipush 100, 2) := by decide +kernel
theorem dX3_ofTerm_107 : decode cX3_ofTerm 107 = .ok (.isub, 1) := by decide +kernel
theorem dX3_ofTerm_108 : decode cX3_ofTerm 108 = .ok (.ireturn, 1) := by decide +kernel
theorem dX3_ofTerm_109 : decode cX3_ofTerm 109 = .ok (.aload_n 0, 1) := by decide +kernel
theorem dX3_ofTerm_110 : decode cX3_ofTerm 110 = .ok (.getfield 14, 3) := by decide +kernel
theorem dX3_ofTerm_113 : decode cX3_ofTerm 113 = .ok (.iload_n 1, 1) := by decide +kernel
theorem dX3_ofTerm_114 : decode cX3_ofTerm 114 = .ok (.invokevirtual 84, 3) := by decide +kernel
theorem dX3_ofTerm_117 : decode cX3_ofTerm 117 = .ok (.ifCond .eq 7, 3) := by decide +kernel
theorem dX3_ofTerm_120 : decode cX3_ofTerm 120 = .ok (.iconst 1, 1) := by decide +kernel
theorem dX3_ofTerm_121 : decode cX3_ofTerm 121 = .ok (.goto 4, 3) := by decide +kernel
theorem dX3_ofTerm_124 : decode cX3_ofTerm 124 = .ok (.iconst 0, 1) := by decide +kernel
theorem dX3_ofTerm_125 : decode cX3_ofTerm 125 = .ok (.ireturn, 1) := by decide +kernel
theorem dX3_ofTerm_126 : decode cX3_ofTerm 126 = .ok (.aload_n 0, 1) := by decide +kernel
theorem dX3_ofTerm_127 : decode cX3_ofTerm 127 = .ok (.getfield 14, 3) := by decide +kernel
theorem dX3_ofTerm_130 : decode cX3_ofTerm 130 = .ok (.iload_n 1, 1) := by decide +kernel
theorem dX3_ofTerm_131 : decode cX3_ofTerm 131 = .ok (.invokevirtual 87, 3) := by decide +kernel
theorem dX3_ofTerm_134 : decode cX3_ofTerm 134 = .ok (.ireturn, 1) := by decide +kernel
theorem dX3_ofTerm_135 : decode cX3_ofTerm 135 = .ok (.bipush (-2), 2) := by decide +kernel
theorem dX3_ofTerm_137 : decode cX3_ofTerm 137 = .ok (.ireturn, 1) := by decide +kernel
theorem dX3_size_0 : decode cX3_size 0 = .ok (.aload_n 0, 1) := by decide +kernel
theorem dX3_size_1 : decode cX3_size 1 = .ok (.getfield 14, 3) := by decide +kernel
theorem dX3_size_4 : decode cX3_size 4 = .ok (.iload_n 1, 1) := by decide +kernel
theorem dX3_size_5 : decode cX3_size 5 = .ok (.invokevirtual 51, 3) := by decide +kernel
theorem dX3_size_8 : decode cX3_size 8 = .ok (.ifCond .ne 7, 3) := by decide +kernel
theorem dX3_size_11 : decode cX3_size 11 = .ok (.ldc2_w 90, 3) := by decide +kernel
theorem dX3_size_14 : decode cX3_size 14 = .ok (.lreturn, 1) := by decide +kernel
theorem dX3_size_15 : decode cX3_size 15 = .ok (.iload_n 2, 1) := by decide +kernel
theorem dX3_size_16 : decode cX3_size 16 = .ok (.tableswitch 69 0 3 #[32, 42, 51, 60], 32) := by decide +kernel
theorem dX3_size_48 : decode cX3_size 48 = .ok (.aload_n 0, 1) := by decide +kernel
theorem dX3_size_49 : decode cX3_size 49 = .ok (.getfield 14, 3) := by decide +kernel
theorem dX3_size_52 : decode cX3_size 52 = .ok (.iload_n 1, 1) := by decide +kernel
theorem dX3_size_53 : decode cX3_size 53 = .ok (.invokevirtual 92, 3) := by decide +kernel
theorem dX3_size_56 : decode cX3_size 56 = .ok (.i2l, 1) := by decide +kernel
theorem dX3_size_57 : decode cX3_size 57 = .ok (.lreturn, 1) := by decide +kernel
theorem dX3_size_58 : decode cX3_size 58 = .ok (.aload_n 0, 1) := by decide +kernel
theorem dX3_size_59 : decode cX3_size 59 = .ok (.getfield 23, 3) := by decide +kernel
theorem dX3_size_62 : decode cX3_size 62 = .ok (.iload_n 1, 1) := by decide +kernel
theorem dX3_size_63 : decode cX3_size 63 = .ok (.invokevirtual 95, 3) := by decide +kernel
theorem dX3_size_66 : decode cX3_size 66 = .ok (.lreturn, 1) := by decide +kernel
theorem dX3_size_67 : decode cX3_size 67 = .ok (.aload_n 0, 1) := by decide +kernel
theorem dX3_size_68 : decode cX3_size 68 = .ok (.getfield 23, 3) := by decide +kernel
theorem dX3_size_71 : decode cX3_size 71 = .ok (.iload_n 1, 1) := by decide +kernel
theorem dX3_size_72 : decode cX3_size 72 = .ok (.invokevirtual 99, 3) := by decide +kernel
theorem dX3_size_75 : decode cX3_size 75 = .ok (.lreturn, 1) := by decide +kernel
theorem dX3_size_76 : decode cX3_size 76 = .ok (.aload_n 0, 1) := by decide +kernel
theorem dX3_size_77 : decode cX3_size 77 = .ok (.getfield 23, 3) := by decide +kernel
theorem dX3_size_80 : decode cX3_size 80 = .ok (.iload_n 1, 1) := by decide +kernel
theorem dX3_size_81 : decode cX3_size 81 = .ok (.invokevirtual 102, 3) := by decide +kernel
theorem dX3_size_84 : decode cX3_size 84 = .ok (.lreturn, 1) := by decide +kernel
theorem dX3_size_85 : decode cX3_size 85 = .ok (.ldc2_w 90, 3) := by decide +kernel
theorem dX3_size_88 : decode cX3_size 88 = .ok (.lreturn, 1) := by decide +kernel
theorem dX3_front_0 : decode cX3_front 0 = .ok (.aload_n 0, 1) := by decide +kernel
theorem dX3_front_1 : decode cX3_front 1 = .ok (.getfield 14, 3) := by decide +kernel
theorem dX3_front_4 : decode cX3_front 4 = .ok (.iload_n 1, 1) := by decide +kernel
theorem dX3_front_5 : decode cX3_front 5 = .ok (.invokevirtual 51, 3) := by decide +kernel
theorem dX3_front_8 : decode cX3_front 8 = .ok (.ifCond .ne 5, 3) := by decide +kernel
theorem dX3_front_11 : decode cX3_front 11 = .ok (.iconst (-1), 1) := by decide +kernel
theorem dX3_front_12 : decode cX3_front 12 = .ok (.ireturn, 1) := by decide +kernel
theorem dX3_front_13 : decode cX3_front 13 = .ok (.aload_n 0, 1) := by decide +kernel
theorem dX3_front_14 : decode cX3_front 14 = .ok (.getfield 23, 3) := by decide +kernel
theorem dX3_front_17 : decode cX3_front 17 = .ok (.iload_n 1, 1) := by decide +kernel
theorem dX3_front_18 : decode cX3_front 18 = .ok (.invokevirtual 105, 3) := by decide +kernel
theorem dX3_front_21 : decode cX3_front 21 = .ok (.ireturn, 1) := by decide +kernel
theorem dX3_check_0 : decode cX3_check 0 = .ok (.aload_n 0, 1) := by decide +kernel
theorem dX3_check_1 : decode cX3_check 1 = .ok (.getfield 14, 3) := by decide +kernel
theorem dX3_check_4 : decode cX3_check 4 = .ok (.iload_n 1, 1) := by decide +kernel
theorem dX3_check_5 : decode cX3_check 5 = .ok (.invokevirtual 51, 3) := by decide +kernel
theorem dX3_check_8 : decode cX3_check 8 = .ok (.ifCond .eq 14, 3) := by decide +kernel
theorem dX3_check_11 : decode cX3_check 11 = .ok (.aload_n 0, 1) := by decide +kernel
theorem dX3_check_12 : decode cX3_check 12 = .ok (.getfield 14, 3) := by decide +kernel
theorem dX3_check_15 : decode cX3_check 15 = .ok (.iload_n 2, 1) := by decide +kernel
theorem dX3_check_16 : decode cX3_check 16 = .ok (.invokevirtual 51, 3) := by decide +kernel
theorem dX3_check_19 : decode cX3_check 19 = .ok (.ifCond .ne 5, 3) := by decide +kernel
theorem dX3_check_22 : decode cX3_check 22 = .ok (.iconst (-1), 1) := by decide +kernel
theorem dX3_check_23 : decode cX3_check 23 = .ok (.ireturn, 1) := by decide +kernel
theorem dX3_check_24 : decode cX3_check 24 = .ok (.aload_n 0, 1) := by decide +kernel
theorem dX3_check_25 : decode cX3_check 25 = .ok (.getfield 14, 3) := by decide +kernel
theorem dX3_check_28 : decode cX3_check 28 = .ok (.iload_n 1, 1) := by decide +kernel
theorem dX3_check_29 : decode cX3_check 29 = .ok (.invokevirtual 84, 3) := by decide +kernel
theorem dX3_check_32 : decode cX3_check 32 = .ok (.ifCond .eq 14, 3) := by decide +kernel
theorem dX3_check_35 : decode cX3_check 35 = .ok (.aload_n 0, 1) := by decide +kernel
theorem dX3_check_36 : decode cX3_check 36 = .ok (.getfield 14, 3) := by decide +kernel
theorem dX3_check_39 : decode cX3_check 39 = .ok (.iload_n 2, 1) := by decide +kernel
theorem dX3_check_40 : decode cX3_check 40 = .ok (.invokevirtual 84, 3) := by decide +kernel
theorem dX3_check_43 : decode cX3_check 43 = .ok (.ifCond .ne 6, 3) := by decide +kernel
theorem dX3_check_46 : decode cX3_check 46 = .ok (.bipush (-3), 2) := by decide +kernel
theorem dX3_check_48 : decode cX3_check 48 = .ok (.ireturn, 1) := by decide +kernel
theorem dX3_check_49 : decode cX3_check 49 = .ok (.aload_n 0, 1) := by decide +kernel
theorem dX3_check_50 : decode cX3_check 50 = .ok (.getfield 32, 3) := by decide +kernel
theorem dX3_check_53 : decode cX3_check 53 = .ok (.iload_n 1, 1) := by decide +kernel
theorem dX3_check_54 : decode cX3_check 54 = .ok (.iload_n 2, 1) := by decide +kernel
theorem dX3_check_55 : decode cX3_check 55 = .ok (.invokevirtual 108, 3) := by decide +kernel
theorem dX3_check_58 : decode cX3_check 58 = .ok (.ireturn, 1) := by decide +kernel
theorem dX3_checked_0 : decode cX3_checked 0 = .ok (.aload_n 0, 1) := by decide +kernel
theorem dX3_checked_1 : decode cX3_checked 1 = .ok (.getfield 32, 3) := by decide +kernel
theorem dX3_checked_4 : decode cX3_checked 4 = .ok (.iload_n 1, 1) := by decide +kernel
theorem dX3_checked_5 : decode cX3_checked 5 = .ok (.invokevirtual 111, 3) := by decide +kernel
theorem dX3_checked_8 : decode cX3_checked 8 = .ok (.ireturn, 1) := by decide +kernel
theorem dX3_many_0 : decode cX3_many 0 = .ok (.iload_n 1, 1) := by decide +kernel
theorem dX3_many_1 : decode cX3_many 1 = .ok (.tableswitch 75 0 4 #[35, 43, 51, 59, 67], 35) := by decide +kernel
theorem dX3_many_36 : decode cX3_many 36 = .ok (.aload_n 0, 1) := by decide +kernel
theorem dX3_many_37 : decode cX3_many 37 = .ok (.getfield 23, 3) := by decide +kernel
theorem dX3_many_40 : decode cX3_many 40 = .ok (.invokevirtual 114, 3) := by decide +kernel
theorem dX3_many_43 : decode cX3_many 43 = .ok (.ireturn, 1) := by decide +kernel
theorem dX3_many_44 : decode cX3_many 44 = .ok (.aload_n 0, 1) := by decide +kernel
theorem dX3_many_45 : decode cX3_many 45 = .ok (.getfield 14, 3) := by decide +kernel
theorem dX3_many_48 : decode cX3_many 48 = .ok (.invokevirtual 118, 3) := by decide +kernel
theorem dX3_many_51 : decode cX3_many 51 = .ok (.ireturn, 1) := by decide +kernel
theorem dX3_many_52 : decode cX3_many 52 = .ok (.aload_n 0, 1) := by decide +kernel
theorem dX3_many_53 : decode cX3_many 53 = .ok (.getfield 23, 3) := by decide +kernel
theorem dX3_many_56 : decode cX3_many 56 = .ok (.invokevirtual 119, 3) := by decide +kernel
theorem dX3_many_59 : decode cX3_many 59 = .ok (.ireturn, 1) := by decide +kernel
theorem dX3_many_60 : decode cX3_many 60 = .ok (.aload_n 0, 1) := by decide +kernel
theorem dX3_many_61 : decode cX3_many 61 = .ok (.getfield 23, 3) := by decide +kernel
theorem dX3_many_64 : decode cX3_many 64 = .ok (.invokevirtual 122, 3) := by decide +kernel
theorem dX3_many_67 : decode cX3_many 67 = .ok (.ireturn, 1) := by decide +kernel
theorem dX3_many_68 : decode cX3_many 68 = .ok (.aload_n 0, 1) := by decide +kernel
theorem dX3_many_69 : decode cX3_many 69 = .ok (.getfield 14, 3) := by decide +kernel
theorem dX3_many_72 : decode cX3_many 72 = .ok (.invokevirtual 125, 3) := by decide +kernel
theorem dX3_many_75 : decode cX3_many 75 = .ok (.ireturn, 1) := by decide +kernel
theorem dX3_many_76 : decode cX3_many 76 = .ok (.bipush (-2), 2) := by decide +kernel
theorem dX3_many_78 : decode cX3_many 78 = .ok (.ireturn, 1) := by decide +kernel
end
section
theorem dX4_init_0 : decode cX4_init 0 = .ok (.aload_n 0, 1) := by decide +kernel
theorem dX4_init_1 : decode cX4_init 1 = .ok (.invokespecial 1, 3) := by decide +kernel
theorem dX4_init_4 : decode cX4_init 4 = .ok (.aload_n 0, 1) := by decide +kernel
theorem dX4_init_5 : decode cX4_init 5 = .ok (.bipush 12, 2) := by decide +kernel
theorem dX4_init_7 : decode cX4_init 7 = .ok (.newarray .int, 2) := by decide +kernel
theorem dX4_init_9 : decode cX4_init 9 = .ok (.putfield 7, 3) := by decide +kernel
theorem dX4_init_12 : decode cX4_init 12 = .ok (.aload_n 0, 1) := by decide +kernel
theorem dX4_init_13 : decode cX4_init 13 = .ok (.bipush 12, 2) := by decide +kernel
theorem dX4_init_15 : decode cX4_init 15 = .ok (.newarray .int, 2) := by decide +kernel
theorem dX4_init_17 : decode cX4_init 17 = .ok (.putfield 13, 3) := by decide +kernel
theorem dX4_init_20 : decode cX4_init 20 = .ok (.aload_n 0, 1) := by decide +kernel
theorem dX4_init_21 : decode cX4_init 21 = .ok (.bipush 12, 2) := by decide +kernel
theorem dX4_init_23 : decode cX4_init 23 = .ok (.newarray .boolean, 2) := by decide +kernel
theorem dX4_init_25 : decode cX4_init 25 = .ok (.putfield 16, 3) := by decide +kernel
theorem dX4_init_28 : decode cX4_init 28 = .ok (.aload_n 0, 1) := by decide +kernel
theorem dX4_init_29 : decode cX4_init 29 = .ok (.sipush 740, 3) := by decide +kernel
theorem dX4_init_32 : decode cX4_init 32 = .ok (.newarray .int, 2) := by decide +kernel
theorem dX4_init_34 : decode cX4_init 34 = .ok (.putfield 20, 3) := by decide +kernel
theorem dX4_init_37 : decode cX4_init 37 = .ok (.aload_n 0, 1) := by decide +kernel
theorem dX4_init_38 : decode cX4_init 38 = .ok (.sipush 1480, 3) := by decide +kernel
theorem dX4_init_41 : decode cX4_init 41 = .ok (.newarray .int, 2) := by decide +kernel
theorem dX4_init_43 : decode cX4_init 43 = .ok (.putfield 23, 3) := by decide +kernel
theorem dX4_init_46 : decode cX4_init 46 = .ok (.aload_n 0, 1) := by decide +kernel
theorem dX4_init_47 : decode cX4_init 47 = .ok (.sipush 740, 3) := by decide +kernel
theorem dX4_init_50 : decode cX4_init 50 = .ok (.newarray .int, 2) := by decide +kernel
theorem dX4_init_52 : decode cX4_init 52 = .ok (.putfield 26, 3) := by decide +kernel
theorem dX4_init_55 : decode cX4_init 55 = .ok (.aload_n 0, 1) := by decide +kernel
theorem dX4_init_56 : decode cX4_init 56 = .ok (.bipush 64, 2) := by decide +kernel
theorem dX4_init_58 : decode cX4_init 58 = .ok (.newarray .int, 2) := by decide +kernel
theorem dX4_init_60 : decode cX4_init 60 = .ok (.putfield 29, 3) := by decide +kernel
theorem dX4_init_63 : decode cX4_init 63 = .ok (.aload_n 0, 1) := by decide +kernel
theorem dX4_init_64 : decode cX4_init 64 = .ok (.bipush 12, 2) := by decide +kernel
theorem dX4_init_66 : decode cX4_init 66 = .ok (.newarray .int, 2) := by decide +kernel
theorem dX4_init_68 : decode cX4_init 68 = .ok (.putfield 32, 3) := by decide +kernel
theorem dX4_init_71 : decode cX4_init 71 = .ok (.aload_n 0, 1) := by decide +kernel
theorem dX4_init_72 : decode cX4_init 72 = .ok (.bipush 12, 2) := by decide +kernel
theorem dX4_init_74 : decode cX4_init 74 = .ok (.newarray .long, 2) := by decide +kernel
theorem dX4_init_76 : decode cX4_init 76 = .ok (.putfield 35, 3) := by decide +kernel
theorem dX4_init_79 : decode cX4_init 79 = .ok (.aload_n 0, 1) := by decide +kernel
theorem dX4_init_80 : decode cX4_init 80 = .ok (.bipush 24, 2) := by decide +kernel
theorem dX4_init_82 : decode cX4_init 82 = .ok (.newarray .long, 2) := by decide +kernel
theorem dX4_init_84 : decode cX4_init 84 = .ok (.putfield 39, 3) := by decide +kernel
theorem dX4_init_87 : decode cX4_init 87 = .ok (.aload_n 0, 1) := by decide +kernel
theorem dX4_init_88 : decode cX4_init 88 = .ok (.bipush 12, 2) := by decide +kernel
theorem dX4_init_90 : decode cX4_init 90 = .ok (.newarray .long, 2) := by decide +kernel
theorem dX4_init_92 : decode cX4_init 92 = .ok (.putfield 42, 3) := by decide +kernel
theorem dX4_init_95 : decode cX4_init 95 = .ok (.aload_n 0, 1) := by decide +kernel
theorem dX4_init_96 : decode cX4_init 96 = .ok (.bipush 12, 2) := by decide +kernel
theorem dX4_init_98 : decode cX4_init 98 = .ok (.newarray .int, 2) := by decide +kernel
theorem dX4_init_100 : decode cX4_init 100 = .ok (.putfield 45, 3) := by decide +kernel
theorem dX4_init_103 : decode cX4_init 103 = .ok (.aload_n 0, 1) := by decide +kernel
theorem dX4_init_104 : decode cX4_init 104 = .ok (.sipush 740, 3) := by decide +kernel
theorem dX4_init_107 : decode cX4_init 107 = .ok (.newarray .long, 2) := by decide +kernel
theorem dX4_init_109 : decode cX4_init 109 = .ok (.putfield 48, 3) := by decide +kernel
theorem dX4_init_112 : decode cX4_init 112 = .ok (.aload_n 0, 1) := by decide +kernel
theorem dX4_init_113 : decode cX4_init 113 = .ok (.sipush 1480, 3) := by decide +kernel
theorem dX4_init_116 : decode cX4_init 116 = .ok (.newarray .long, 2) := by decide +kernel
theorem dX4_init_118 : decode cX4_init 118 = .ok (.putfield 51, 3) := by decide +kernel
theorem dX4_init_121 : decode cX4_init 121 = .ok (.aload_n 0, 1) := by decide +kernel
theorem dX4_init_122 : decode cX4_init 122 = .ok (.sipush 740, 3) := by decide +kernel
theorem dX4_init_125 : decode cX4_init 125 = .ok (.newarray .long, 2) := by decide +kernel
theorem dX4_init_127 : decode cX4_init 127 = .ok (.putfield 54, 3) := by decide +kernel
theorem dX4_init_130 : decode cX4_init 130 = .ok (.aload_n 0, 1) := by decide +kernel
theorem dX4_init_131 : decode cX4_init 131 = .ok (.ldc 57, 2) := by decide +kernel
theorem dX4_init_133 : decode cX4_init 133 = .ok (.newarray .int, 2) := by decide +kernel
theorem dX4_init_135 : decode cX4_init 135 = .ok (.putfield 58, 3) := by decide +kernel
theorem dX4_init_138 : decode cX4_init 138 = .ok (.aload_n 0, 1) := by decide +kernel
theorem dX4_init_139 : decode cX4_init 139 = .ok (.bipush 64, 2) := by decide +kernel
theorem dX4_init_141 : decode cX4_init 141 = .ok (.newarray .int, 2) := by decide +kernel
theorem dX4_init_143 : decode cX4_init 143 = .ok (.putfield 61, 3) := by decide +kernel
theorem dX4_init_146 : decode cX4_init 146 = .ok (.aload_n 0, 1) := by decide +kernel
theorem dX4_init_147 : decode cX4_init 147 = .ok (.sipush 256, 3) := by decide +kernel
theorem dX4_init_150 : decode cX4_init 150 = .ok (.newarray .int, 2) := by decide +kernel
theorem dX4_init_152 : decode cX4_init 152 = .ok (.putfield 64, 3) := by decide +kernel
theorem dX4_init_155 : decode cX4_init 155 = .ok (.aload_n 0, 1) := by decide +kernel
theorem dX4_init_156 : decode cX4_init 156 = .ok (.sipush 256, 3) := by decide +kernel
theorem dX4_init_159 : decode cX4_init 159 = .ok (.newarray .int, 2) := by decide +kernel
theorem dX4_init_161 : decode cX4_init 161 = .ok (.putfield 67, 3) := by decide +kernel
theorem dX4_init_164 : decode cX4_init 164 = .ok (.aload_n 0, 1) := by decide +kernel
theorem dX4_init_165 : decode cX4_init 165 = .ok (.sipush 256, 3) := by decide +kernel
theorem dX4_init_168 : decode cX4_init 168 = .ok (.newarray .int, 2) := by decide +kernel
theorem dX4_init_170 : decode cX4_init 170 = .ok (.putfield 70, 3) := by decide +kernel
theorem dX4_init_173 : decode cX4_init 173 = .ok (.aload_n 0, 1) := by decide +kernel
theorem dX4_init_174 : decode cX4_init 174 = .ok (.iconst 5, 1) := by decide +kernel
theorem dX4_init_175 : decode cX4_init 175 = .ok (.newarray .int, 2) := by decide +kernel
theorem dX4_init_177 : decode cX4_init 177 = .ok (.putfield 73, 3) := by decide +kernel
theorem dX4_init_180 : decode cX4_init 180 = .ok (.iconst 0, 1) := by decide +kernel
theorem dX4_init_181 : decode cX4_init 181 = .ok (.istore_n 1, 1) := by decide +kernel
theorem dX4_init_182 : decode cX4_init 182 = .ok (.iload_n 1, 1) := by decide +kernel
theorem dX4_init_183 : decode cX4_init 183 = .ok (.bipush 12, 2) := by decide +kernel
theorem dX4_init_185 : decode cX4_init 185 = .ok (.if_icmp .ge 17, 3) := by decide +kernel
theorem dX4_init_188 : decode cX4_init 188 = .ok (.aload_n 0, 1) := by decide +kernel
theorem dX4_init_189 : decode cX4_init 189 = .ok (.getfield 13, 3) := by decide +kernel
theorem dX4_init_192 : decode cX4_init 192 = .ok (.iload_n 1, 1) := by decide +kernel
theorem dX4_init_193 : decode cX4_init 193 = .ok (.bipush (-9), 2) := by decide +kernel
theorem dX4_init_195 : decode cX4_init 195 = .ok (.iastore, 1) := by decide +kernel
theorem dX4_init_196 : decode cX4_init 196 = .ok (.iinc 1 1, 3) := by decide +kernel
theorem dX4_init_199 : decode cX4_init 199 = .ok (.goto (-17), 3) := by decide +kernel
theorem dX4_init_202 : decode cX4_init 202 = .ok (.return_, 1) := by decide +kernel
theorem dX4_within_0 : decode cX4_within 0 = .ok (.iload_n 0, 1) := by decide +kernel
theorem dX4_within_1 : decode cX4_within 1 = .ok (.iload_n 1, 1) := by decide +kernel
theorem dX4_within_2 : decode cX4_within 2 = .ok (.if_icmp .lt 12, 3) := by decide +kernel
theorem dX4_within_5 : decode cX4_within 5 = .ok (.iload_n 0, 1) := by decide +kernel
theorem dX4_within_6 : decode cX4_within 6 = .ok (.iload_n 2, 1) := by decide +kernel
theorem dX4_within_7 : decode cX4_within 7 = .ok (.if_icmp .gt 7, 3) := by decide +kernel
theorem dX4_within_10 : decode cX4_within 10 = .ok (.iconst 1, 1) := by decide +kernel
theorem dX4_within_11 : decode cX4_within 11 = .ok (.goto 4, 3) := by decide +kernel
theorem dX4_within_14 : decode cX4_within 14 = .ok (.iconst 0, 1) := by decide +kernel
theorem dX4_within_15 : decode cX4_within 15 = .ok (.ireturn, 1) := by decide +kernel
theorem dX4_isName_0 : decode cX4_isName 0 = .ok (.iload_n 1, 1) := by decide +kernel
theorem dX4_isName_1 : decode cX4_isName 1 = .ok (.iconst 0, 1) := by decide +kernel
theorem dX4_isName_2 : decode cX4_isName 2 = .ok (.aload_n 0, 1) := by decide +kernel
theorem dX4_isName_3 : decode cX4_isName 3 = .ok (.getfield 76, 3) := by decide +kernel
theorem dX4_isName_6 : decode cX4_isName 6 = .ok (.iconst 1, 1) := by decide +kernel
theorem dX4_isName_7 : decode cX4_isName 7 = .ok (.isub, 1) := by decide +kernel
theorem dX4_isName_8 : decode cX4_isName 8 = .ok (.invokestatic 80, 3) := by decide +kernel
theorem dX4_isName_11 : decode cX4_isName 11 = .ok (.ireturn, 1) := by decide +kernel
theorem dX4_isFolded_0 : decode cX4_isFolded 0 = .ok (.aload_n 0, 1) := by decide +kernel
theorem dX4_isFolded_1 : decode cX4_isFolded 1 = .ok (.getfield 13, 3) := by decide +kernel
theorem dX4_isFolded_4 : decode cX4_isFolded 4 = .ok (.iload_n 1, 1) := by decide +kernel
theorem dX4_isFolded_5 : decode cX4_isFolded 5 = .ok (.iaload, 1) := by decide +kernel
theorem dX4_isFolded_6 : decode cX4_isFolded 6 = .ok (.bipush (-9), 2) := by decide +kernel
theorem dX4_isFolded_8 : decode cX4_isFolded 8 = .ok (.if_icmp .eq 16, 3) := by decide +kernel
theorem dX4_isFolded_11 : decode cX4_isFolded 11 = .ok (.aload_n 0, 1) := by decide +kernel
theorem dX4_isFolded_12 : decode cX4_isFolded 12 = .ok (.getfield 16, 3) := by decide +kernel
theorem dX4_isFolded_15 : decode cX4_isFolded 15 = .ok (.iload_n 1, 1) := by decide +kernel
theorem dX4_isFolded_16 : decode cX4_isFolded 16 = .ok (.baload, 1) := by decide +kernel
theorem dX4_isFolded_17 : decode cX4_isFolded 17 = .ok (.ifCond .ne 7, 3) := by decide +kernel
theorem dX4_isFolded_20 : decode cX4_isFolded 20 = .ok (.iconst 1, 1) := by decide +kernel
theorem dX4_isFolded_21 : decode cX4_isFolded 21 = .ok (.goto 4, 3) := by decide +kernel
theorem dX4_isFolded_24 : decode cX4_isFolded 24 = .ok (.iconst 0, 1) := by decide +kernel
theorem dX4_isFolded_25 : decode cX4_isFolded 25 = .ok (.ireturn, 1) := by decide +kernel
theorem dX4_isTerm_0 : decode cX4_isTerm 0 = .ok (.iload_n 1, 1) := by decide +kernel
theorem dX4_isTerm_1 : decode cX4_isTerm 1 = .ok (.iconst 0, 1) := by decide +kernel
theorem dX4_isTerm_2 : decode cX4_isTerm 2 = .ok (.aload_n 0, 1) := by decide +kernel
theorem dX4_isTerm_3 : decode cX4_isTerm 3 = .ok (.getfield 84, 3) := by decide +kernel
theorem dX4_isTerm_6 : decode cX4_isTerm 6 = .ok (.iconst 1, 1) := by decide +kernel
theorem dX4_isTerm_7 : decode cX4_isTerm 7 = .ok (.isub, 1) := by decide +kernel
theorem dX4_isTerm_8 : decode cX4_isTerm 8 = .ok (.invokestatic 80, 3) := by decide +kernel
theorem dX4_isTerm_11 : decode cX4_isTerm 11 = .ok (.ireturn, 1) := by decide +kernel
theorem dX4_part_0 : decode cX4_part 0 = .ok (.aload_n 0, 1) := by decide +kernel
theorem dX4_part_1 : decode cX4_part 1 = .ok (.getfield 23, 3) := by decide +kernel
theorem dX4_part_4 : decode cX4_part 4 = .ok (.iconst 2, 1) := by decide +kernel
theorem dX4_part_5 : decode cX4_part 5 = .ok (.iload_n 1, 1) := by decide +kernel
theorem dX4_part_6 : decode cX4_part 6 = .ok (.imul, 1) := by decide +kernel
theorem dX4_part_7 : decode cX4_part 7 = .ok (.iload_n 2, 1) := by decide +kernel
theorem dX4_part_8 : decode cX4_part 8 = .ok (.iadd, 1) := by decide +kernel
theorem dX4_part_9 : decode cX4_part 9 = .ok (.iaload, 1) := by decide +kernel
theorem dX4_part_10 : decode cX4_part 10 = .ok (.ireturn, 1) := by decide +kernel
theorem dX4_partsOf_0 : decode cX4_partsOf 0 = .ok (.aload_n 0, 1) := by decide +kernel
theorem dX4_partsOf_1 : decode cX4_partsOf 1 = .ok (.getfield 20, 3) := by decide +kernel
theorem dX4_partsOf_4 : decode cX4_partsOf 4 = .ok (.iload_n 1, 1) := by decide +kernel
theorem dX4_partsOf_5 : decode cX4_partsOf 5 = .ok (.iaload, 1) := by decide +kernel
theorem dX4_partsOf_6 : decode cX4_partsOf 6 = .ok (.bipush 100, 2) := by decide +kernel
theorem dX4_partsOf_8 : decode cX4_partsOf 8 = .ok (.if_icmp .lt 7, 3) := by decide +kernel
theorem dX4_partsOf_11 : decode cX4_partsOf 11 = .ok (.iconst 0, 1) := by decide +kernel
theorem dX4_partsOf_12 : decode cX4_partsOf 12 = .ok (.goto 14, 3) := by decide +kernel
theorem dX4_partsOf_15 : decode cX4_partsOf 15 = .ok (.aload_n 0, 1) := by decide +kernel
theorem dX4_partsOf_16 : decode cX4_partsOf 16 = .ok (.getfield 7, 3) := by decide +kernel
theorem dX4_partsOf_19 : decode cX4_partsOf 19 = .ok (.aload_n 0, 1) := by decide +kernel
theorem dX4_partsOf_20 : decode cX4_partsOf 20 = .ok (.getfield 20, 3) := by decide +kernel
theorem dX4_partsOf_23 : decode cX4_partsOf 23 = .ok (.iload_n 1, 1) := by decide +kernel
theorem dX4_partsOf_24 : decode cX4_partsOf 24 = .ok (.iaload, 1) := by decide +kernel
theorem dX4_partsOf_25 : decode cX4_partsOf 25 = .ok (.iaload, 1) := by decide +kernel
theorem dX4_partsOf_26 : decode cX4_partsOf 26 = .ok (.ireturn, 1) := by decide +kernel
theorem dX4_find_0 : decode cX4_find 0 = .ok (.iconst 0, 1) := by decide +kernel
theorem dX4_find_1 : decode cX4_find 1 = .ok (.istore 4, 2) := by decide +kernel
theorem dX4_find_3 : decode cX4_find 3 = .ok (.iload 4, 2) := by decide +kernel
theorem dX4_find_5 : decode cX4_find 5 = .ok (.aload_n 0, 1) := by decide +kernel
theorem dX4_find_6 : decode cX4_find 6 = .ok (.getfield 87, 3) := by decide +kernel
theorem dX4_find_9 : decode cX4_find 9 = .ok (.if_icmp .ge 45, 3) := by decide +kernel
theorem dX4_find_12 : decode cX4_find 12 = .ok (.aload_n 0, 1) := by decide +kernel
theorem dX4_find_13 : decode cX4_find 13 = .ok (.getfield 20, 3) := by decide +kernel
theorem dX4_find_16 : decode cX4_find 16 = .ok (.iload 4, 2) := by decide +kernel
theorem dX4_find_18 : decode cX4_find 18 = .ok (.iaload, 1) := by decide +kernel
theorem dX4_find_19 : decode cX4_find 19 = .ok (.iload_n 1, 1) := by decide +kernel
theorem dX4_find_20 : decode cX4_find 20 = .ok (.if_icmp .ne 28, 3) := by decide +kernel
theorem dX4_find_23 : decode cX4_find 23 = .ok (.aload_n 0, 1) := by decide +kernel
theorem dX4_find_24 : decode cX4_find 24 = .ok (.iload 4, 2) := by decide +kernel
theorem dX4_find_26 : decode cX4_find 26 = .ok (.iconst 0, 1) := by decide +kernel
theorem dX4_find_27 : decode cX4_find 27 = .ok (.invokevirtual 90, 3) := by decide +kernel
theorem dX4_find_30 : decode cX4_find 30 = .ok (.iload_n 2, 1) := by decide +kernel
theorem dX4_find_31 : decode cX4_find 31 = .ok (.if_icmp .ne 17, 3) := by decide +kernel
theorem dX4_find_34 : decode cX4_find 34 = .ok (.aload_n 0, 1) := by decide +kernel
theorem dX4_find_35 : decode cX4_find 35 = .ok (.iload 4, 2) := by decide +kernel
theorem dX4_find_37 : decode cX4_find 37 = .ok (.iconst 1, 1) := by decide +kernel
theorem dX4_find_38 : decode cX4_find 38 = .ok (.invokevirtual 90, 3) := by decide +kernel
theorem dX4_find_41 : decode cX4_find 41 = .ok (.iload_n 3, 1) := by decide +kernel
theorem dX4_find_42 : decode cX4_find 42 = .ok (.if_icmp .ne 6, 3) := by decide +kernel
theorem dX4_find_45 : decode cX4_find 45 = .ok (.iload 4, 2) := by decide +kernel
theorem dX4_find_47 : decode cX4_find 47 = .ok (.ireturn, 1) := by decide +kernel
theorem dX4_find_48 : decode cX4_find 48 = .ok (.iinc 4 1, 3) := by decide +kernel
theorem dX4_find_51 : decode cX4_find 51 = .ok (.goto (-48), 3) := by decide +kernel
theorem dX4_find_54 : decode cX4_find 54 = .ok (.bipush (-9), 2) := by decide +kernel
theorem dX4_find_56 : decode cX4_find 56 = .ok (.ireturn, 1) := by decide +kernel
theorem dX4_depthBy_0 : decode cX4_depthBy 0 = .ok (.iconst 0, 1) := by decide +kernel
theorem dX4_depthBy_1 : decode cX4_depthBy 1 = .ok (.istore_n 3, 1) := by decide +kernel
theorem dX4_depthBy_2 : decode cX4_depthBy 2 = .ok (.iload_n 1, 1) := by decide +kernel
theorem dX4_depthBy_3 : decode cX4_depthBy 3 = .ok (.bipush (-9), 2) := by decide +kernel
theorem dX4_depthBy_5 : decode cX4_depthBy 5 = .ok (.if_icmp .eq 22, 3) := by decide +kernel
theorem dX4_depthBy_8 : decode cX4_depthBy 8 = .ok (.aload_n 0, 1) := by decide +kernel
theorem dX4_depthBy_9 : decode cX4_depthBy 9 = .ok (.getfield 26, 3) := by decide +kernel
theorem dX4_depthBy_12 : decode cX4_depthBy 12 = .ok (.iload_n 1, 1) := by decide +kernel
theorem dX4_depthBy_13 : decode cX4_depthBy 13 = .ok (.iaload, 1) := by decide +kernel
theorem dX4_depthBy_14 : decode cX4_depthBy 14 = .ok (.iload_n 3, 1) := by decide +kernel
theorem dX4_depthBy_15 : decode cX4_depthBy 15 = .ok (.if_icmp .le 12, 3) := by decide +kernel
theorem dX4_depthBy_18 : decode cX4_depthBy 18 = .ok (.aload_n 0, 1) := by decide +kernel
theorem dX4_depthBy_19 : decode cX4_depthBy 19 = .ok (.getfield 26, 3) := by decide +kernel
theorem dX4_depthBy_22 : decode cX4_depthBy 22 = .ok (.iload_n 1, 1) := by decide +kernel
theorem dX4_depthBy_23 : decode cX4_depthBy 23 = .ok (.iaload, 1) := by decide +kernel
theorem dX4_depthBy_24 : decode cX4_depthBy 24 = .ok (.goto 4, 3) := by decide +kernel
theorem dX4_depthBy_27 : decode cX4_depthBy 27 = .ok (.iload_n 3, 1) := by decide +kernel
theorem dX4_depthBy_28 : decode cX4_depthBy 28 = .ok (.istore_n 3, 1) := by decide +kernel
theorem dX4_depthBy_29 : decode cX4_depthBy 29 = .ok (.iconst 1, 1) := by decide +kernel
theorem dX4_depthBy_30 : decode cX4_depthBy 30 = .ok (.iload_n 2, 1) := by decide +kernel
theorem dX4_depthBy_31 : decode cX4_depthBy 31 = .ok (.bipush (-9), 2) := by decide +kernel
theorem dX4_depthBy_33 : decode cX4_depthBy 33 = .ok (.if_icmp .eq 22, 3) := by decide +kernel
theorem dX4_depthBy_36 : decode cX4_depthBy 36 = .ok (.aload_n 0, 1) := by decide +kernel
theorem dX4_depthBy_37 : decode cX4_depthBy 37 = .ok (.getfield 26, 3) := by decide +kernel
theorem dX4_depthBy_40 : decode cX4_depthBy 40 = .ok (.iload_n 2, 1) := by decide +kernel
theorem dX4_depthBy_41 : decode cX4_depthBy 41 = .ok (.iaload, 1) := by decide +kernel
theorem dX4_depthBy_42 : decode cX4_depthBy 42 = .ok (.iload_n 3, 1) := by decide +kernel
theorem dX4_depthBy_43 : decode cX4_depthBy 43 = .ok (.if_icmp .le 12, 3) := by decide +kernel
theorem dX4_depthBy_46 : decode cX4_depthBy 46 = .ok (.aload_n 0, 1) := by decide +kernel
theorem dX4_depthBy_47 : decode cX4_depthBy 47 = .ok (.getfield 26, 3) := by decide +kernel
theorem dX4_depthBy_50 : decode cX4_depthBy 50 = .ok (.iload_n 2, 1) := by decide +kernel
theorem dX4_depthBy_51 : decode cX4_depthBy 51 = .ok (.iaload, 1) := by decide +kernel
theorem dX4_depthBy_52 : decode cX4_depthBy 52 = .ok (.goto 4, 3) := by decide +kernel
theorem dX4_depthBy_55 : decode cX4_depthBy 55 = .ok (.iload_n 3, 1) := by decide +kernel
theorem dX4_depthBy_56 : decode cX4_depthBy 56 = .ok (.iadd, 1) := by decide +kernel
theorem dX4_depthBy_57 : decode cX4_depthBy 57 = .ok (.ireturn, 1) := by decide +kernel
theorem dX4_comes_0 : decode cX4_comes 0 = .ok (.aload_n 0, 1) := by decide +kernel
theorem dX4_comes_1 : decode cX4_comes 1 = .ok (.iload_n 1, 1) := by decide +kernel
theorem dX4_comes_2 : decode cX4_comes 2 = .ok (.iload_n 2, 1) := by decide +kernel
theorem dX4_comes_3 : decode cX4_comes 3 = .ok (.iload_n 3, 1) := by decide +kernel
theorem dX4_comes_4 : decode cX4_comes 4 = .ok (.invokevirtual 94, 3) := by decide +kernel
theorem dX4_comes_7 : decode cX4_comes 7 = .ok (.istore 4, 2) := by decide +kernel
theorem dX4_comes_9 : decode cX4_comes 9 = .ok (.iload 4, 2) := by decide +kernel
theorem dX4_comes_11 : decode cX4_comes 11 = .ok (.bipush (-9), 2) := by decide +kernel
theorem dX4_comes_13 : decode cX4_comes 13 = .ok (.if_icmp .eq 6, 3) := by decide +kernel
theorem dX4_comes_16 : decode cX4_comes 16 = .ok (.iload 4, 2) := by decide +kernel
theorem dX4_comes_18 : decode cX4_comes 18 = .ok (.ireturn, 1) := by decide +kernel
theorem dX4_comes_19 : decode cX4_comes 19 = .ok (.aload_n 0, 1) := by decide +kernel
theorem dX4_comes_20 : decode cX4_comes 20 = .ok (.getfield 20, 3) := by decide +kernel
theorem dX4_comes_23 : decode cX4_comes 23 = .ok (.aload_n 0, 1) := by decide +kernel
theorem dX4_comes_24 : decode cX4_comes 24 = .ok (.getfield 87, 3) := by decide +kernel
theorem dX4_comes_27 : decode cX4_comes 27 = .ok (.iload_n 1, 1) := by decide +kernel
theorem dX4_comes_28 : decode cX4_comes 28 = .ok (.iastore, 1) := by decide +kernel
theorem dX4_comes_29 : decode cX4_comes 29 = .ok (.aload_n 0, 1) := by decide +kernel
theorem dX4_comes_30 : decode cX4_comes 30 = .ok (.getfield 23, 3) := by decide +kernel
theorem dX4_comes_33 : decode cX4_comes 33 = .ok (.iconst 2, 1) := by decide +kernel
theorem dX4_comes_34 : decode cX4_comes 34 = .ok (.aload_n 0, 1) := by decide +kernel
theorem dX4_comes_35 : decode cX4_comes 35 = .ok (.getfield 87, 3) := by decide +kernel
theorem dX4_comes_38 : decode cX4_comes 38 = .ok (.imul, 1) := by decide +kernel
theorem dX4_comes_39 : decode cX4_comes 39 = .ok (.iload_n 2, 1) := by decide +kernel
theorem dX4_comes_40 : decode cX4_comes 40 = .ok (.iastore, 1) := by decide +kernel
theorem dX4_comes_41 : decode cX4_comes 41 = .ok (.aload_n 0, 1) := by decide +kernel
theorem dX4_comes_42 : decode cX4_comes 42 = .ok (.getfield 23, 3) := by decide +kernel
theorem dX4_comes_45 : decode cX4_comes 45 = .ok (.iconst 2, 1) := by decide +kernel
theorem dX4_comes_46 : decode cX4_comes 46 = .ok (.aload_n 0, 1) := by decide +kernel
theorem dX4_comes_47 : decode cX4_comes 47 = .ok (.getfield 87, 3) := by decide +kernel
theorem dX4_comes_50 : decode cX4_comes 50 = .ok (.imul, 1) := by decide +kernel
theorem dX4_comes_51 : decode cX4_comes 51 = .ok (.iconst 1, 1) := by decide +kernel
theorem dX4_comes_52 : decode cX4_comes 52 = .ok (.iadd, 1) := by decide +kernel
theorem dX4_comes_53 : decode cX4_comes 53 = .ok (.iload_n 3, 1) := by decide +kernel
theorem dX4_comes_54 : decode cX4_comes 54 = .ok (.iastore, 1) := by decide +kernel
theorem dX4_comes_55 : decode cX4_comes 55 = .ok (.aload_n 0, 1) := by decide +kernel
theorem dX4_comes_56 : decode cX4_comes 56 = .ok (.getfield 26, 3) := by decide +kernel
theorem dX4_comes_59 : decode cX4_comes 59 = .ok (.aload_n 0, 1) := by decide +kernel
theorem dX4_comes_60 : decode cX4_comes 60 = .ok (.getfield 87, 3) := by decide +kernel
theorem dX4_comes_63 : decode cX4_comes 63 = .ok (.aload_n 0, 1) := by decide +kernel
theorem dX4_comes_64 : decode cX4_comes 64 = .ok (.iload_n 2, 1) := by decide +kernel
theorem dX4_comes_65 : decode cX4_comes 65 = .ok (.iload_n 3, 1) := by decide +kernel
theorem dX4_comes_66 : decode cX4_comes 66 = .ok (.invokevirtual 98, 3) := by decide +kernel
theorem dX4_comes_69 : decode cX4_comes 69 = .ok (.iastore, 1) := by decide +kernel
theorem dX4_comes_70 : decode cX4_comes 70 = .ok (.aload_n 0, 1) := by decide +kernel
theorem dX4_comes_71 : decode cX4_comes 71 = .ok (.dup, 1) := by decide +kernel
theorem dX4_comes_72 : decode cX4_comes 72 = .ok (.getfield 87, 3) := by decide +kernel
theorem dX4_comes_75 : decode cX4_comes 75 = .ok (.iconst 1, 1) := by decide +kernel
theorem dX4_comes_76 : decode cX4_comes 76 = .ok (.iadd, 1) := by decide +kernel
theorem dX4_comes_77 : decode cX4_comes 77 = .ok (.putfield 87, 3) := by decide +kernel
theorem dX4_comes_80 : decode cX4_comes 80 = .ok (.aload_n 0, 1) := by decide +kernel
theorem dX4_comes_81 : decode cX4_comes 81 = .ok (.getfield 87, 3) := by decide +kernel
theorem dX4_comes_84 : decode cX4_comes 84 = .ok (.iconst 1, 1) := by decide +kernel
theorem dX4_comes_85 : decode cX4_comes 85 = .ok (.isub, 1) := by decide +kernel
theorem dX4_comes_86 : decode cX4_comes 86 = .ok (.ireturn, 1) := by decide +kernel
theorem dX4_makes_0 : decode cX4_makes 0 = .ok (.aload_n 0, 1) := by decide +kernel
theorem dX4_makes_1 : decode cX4_makes 1 = .ok (.iload_n 1, 1) := by decide +kernel
theorem dX4_makes_2 : decode cX4_makes 2 = .ok (.iload_n 2, 1) := by decide +kernel
theorem dX4_makes_3 : decode cX4_makes 3 = .ok (.iload_n 3, 1) := by decide +kernel
theorem dX4_makes_4 : decode cX4_makes 4 = .ok (.invokevirtual 94, 3) := by decide +kernel
theorem dX4_makes_7 : decode cX4_makes 7 = .ok (.bipush (-9), 2) := by decide +kernel
theorem dX4_makes_9 : decode cX4_makes 9 = .ok (.if_icmp .ne 15, 3) := by decide +kernel
theorem dX4_makes_12 : decode cX4_makes 12 = .ok (.aload_n 0, 1) := by decide +kernel
theorem dX4_makes_13 : decode cX4_makes 13 = .ok (.getfield 84, 3) := by decide +kernel
theorem dX4_makes_16 : decode cX4_makes 16 = .ok (.bipush 90, 2) := by decide +kernel
theorem dX4_makes_18 : decode cX4_makes 18 = .ok (.if_icmp .ne 6, 3) := by decide +kernel
theorem dX4_makes_21 : decode cX4_makes 21 = .ok (.bipush (-4), 2) := by decide +kernel
theorem dX4_makes_23 : decode cX4_makes 23 = .ok (.ireturn, 1) := by decide +kernel
theorem dX4_makes_24 : decode cX4_makes 24 = .ok (.aload_n 0, 1) := by decide +kernel
theorem dX4_makes_25 : decode cX4_makes 25 = .ok (.iload_n 1, 1) := by decide +kernel
theorem dX4_makes_26 : decode cX4_makes 26 = .ok (.iload_n 2, 1) := by decide +kernel
theorem dX4_makes_27 : decode cX4_makes 27 = .ok (.iload_n 3, 1) := by decide +kernel
theorem dX4_makes_28 : decode cX4_makes 28 = .ok (.invokevirtual 101, 3) := by decide +kernel
theorem dX4_makes_31 : decode cX4_makes 31 = .ok (.istore 4, 2) := by decide +kernel
theorem dX4_makes_33 : decode cX4_makes 33 = .ok (.aload_n 0, 1) := by decide +kernel
theorem dX4_makes_34 : decode cX4_makes 34 = .ok (.aload_n 0, 1) := by decide +kernel
theorem dX4_makes_35 : decode cX4_makes 35 = .ok (.getfield 87, 3) := by decide +kernel
theorem dX4_makes_38 : decode cX4_makes 38 = .ok (.putfield 84, 3) := by decide +kernel
theorem dX4_makes_41 : decode cX4_makes 41 = .ok (.iload 4, 2) := by decide +kernel
theorem dX4_makes_43 : decode cX4_makes 43 = .ok (.ireturn, 1) := by decide +kernel
theorem dX4_name_0 : decode cX4_name 0 = .ok (.iload_n 1, 1) := by decide +kernel
theorem dX4_name_1 : decode cX4_name 1 = .ok (.iconst 0, 1) := by decide +kernel
theorem dX4_name_2 : decode cX4_name 2 = .ok (.iconst 2, 1) := by decide +kernel
theorem dX4_name_3 : decode cX4_name 3 = .ok (.invokestatic 80, 3) := by decide +kernel
theorem dX4_name_6 : decode cX4_name 6 = .ok (.ifCond .ne 6, 3) := by decide +kernel
theorem dX4_name_9 : decode cX4_name 9 = .ok (.bipush (-2), 2) := by decide +kernel
theorem dX4_name_11 : decode cX4_name 11 = .ok (.ireturn, 1) := by decide +kernel
theorem dX4_name_12 : decode cX4_name 12 = .ok (.aload_n 0, 1) := by decide +kernel
theorem dX4_name_13 : decode cX4_name 13 = .ok (.getfield 76, 3) := by decide +kernel
theorem dX4_name_16 : decode cX4_name 16 = .ok (.bipush 12, 2) := by decide +kernel
theorem dX4_name_18 : decode cX4_name 18 = .ok (.if_icmp .ne 6, 3) := by decide +kernel
theorem dX4_name_21 : decode cX4_name 21 = .ok (.bipush (-4), 2) := by decide +kernel
theorem dX4_name_23 : decode cX4_name 23 = .ok (.ireturn, 1) := by decide +kernel
theorem dX4_name_24 : decode cX4_name 24 = .ok (.aload_n 0, 1) := by decide +kernel
theorem dX4_name_25 : decode cX4_name 25 = .ok (.getfield 7, 3) := by decide +kernel
theorem dX4_name_28 : decode cX4_name 28 = .ok (.aload_n 0, 1) := by decide +kernel
theorem dX4_name_29 : decode cX4_name 29 = .ok (.getfield 76, 3) := by decide +kernel
theorem dX4_name_32 : decode cX4_name 32 = .ok (.iload_n 1, 1) := by decide +kernel
theorem dX4_name_33 : decode cX4_name 33 = .ok (.iastore, 1) := by decide +kernel
theorem dX4_name_34 : decode cX4_name 34 = .ok (.aload_n 0, 1) := by decide +kernel
theorem dX4_name_35 : decode cX4_name 35 = .ok (.dup, 1) := by decide +kernel
theorem dX4_name_36 : decode cX4_name 36 = .ok (.getfield 76, 3) := by decide +kernel
theorem dX4_name_39 : decode cX4_name 39 = .ok (.iconst 1, 1) := by decide +kernel
theorem dX4_name_40 : decode cX4_name 40 = .ok (.iadd, 1) := by decide +kernel
theorem dX4_name_41 : decode cX4_name 41 = .ok (.putfield 76, 3) := by decide +kernel
theorem dX4_name_44 : decode cX4_name 44 = .ok (.aload_n 0, 1) := by decide +kernel
theorem dX4_name_45 : decode cX4_name 45 = .ok (.getfield 76, 3) := by decide +kernel
theorem dX4_name_48 : decode cX4_name 48 = .ok (.iconst 1, 1) := by decide +kernel
theorem dX4_name_49 : decode cX4_name 49 = .ok (.isub, 1) := by decide +kernel
theorem dX4_name_50 : decode cX4_name 50 = .ok (.ireturn, 1) := by decide +kernel
theorem dX4_parameter_0 : decode cX4_parameter 0 = .ok (.iload_n 1, 1) := by decide +kernel
theorem dX4_parameter_1 : decode cX4_parameter 1 = .ok (.iconst 0, 1) := by decide +kernel
theorem dX4_parameter_2 : decode cX4_parameter 2 = .ok (.iconst 1, 1) := by decide +kernel
theorem dX4_parameter_3 : decode cX4_parameter 3 = .ok (.invokestatic 80, 3) := by decide +kernel
theorem dX4_parameter_6 : decode cX4_parameter 6 = .ok (.ifCond .eq 18, 3) := by decide +kernel
theorem dX4_parameter_9 : decode cX4_parameter 9 = .ok (.aload_n 0, 1) := by decide +kernel
theorem dX4_parameter_10 : decode cX4_parameter 10 = .ok (.bipush 100, 2) := by decide +kernel
theorem dX4_parameter_12 : decode cX4_parameter 12 = .ok (.iload_n 1, 1) := by decide +kernel
theorem dX4_parameter_13 : decode cX4_parameter 13 = .ok (.iadd, 1) := by decide +kernel
theorem dX4_parameter_14 : decode cX4_parameter 14 = .ok (.bipush (-9), 2) := by decide +kernel
theorem dX4_parameter_16 : decode cX4_parameter 16 = .ok (.bipush (-9), 2) := by decide +kernel
theorem dX4_parameter_18 : decode cX4_parameter 18 = .ok (.invokevirtual 104, 3) := by decide +kernel
theorem dX4_parameter_21 : decode cX4_parameter 21 = .ok (.goto 5, 3) := by decide +kernel
theorem dX4_parameter_24 : decode cX4_parameter 24 = .ok (.bipush (-2), 2) := by decide +kernel
theorem dX4_parameter_26 : decode cX4_parameter 26 = .ok (.ireturn, 1) := by decide +kernel
theorem dX4_term_0 : decode cX4_term 0 = .ok (.aload_n 0, 1) := by decide +kernel
theorem dX4_term_1 : decode cX4_term 1 = .ok (.iload_n 1, 1) := by decide +kernel
theorem dX4_term_2 : decode cX4_term 2 = .ok (.invokevirtual 107, 3) := by decide +kernel
theorem dX4_term_5 : decode cX4_term 5 = .ok (.ifCond .eq 38, 3) := by decide +kernel
theorem dX4_term_8 : decode cX4_term 8 = .ok (.aload_n 0, 1) := by decide +kernel
theorem dX4_term_9 : decode cX4_term 9 = .ok (.getfield 7, 3) := by decide +kernel
theorem dX4_term_12 : decode cX4_term 12 = .ok (.iload_n 1, 1) := by decide +kernel
theorem dX4_term_13 : decode cX4_term 13 = .ok (.iaload, 1) := by decide +kernel
theorem dX4_term_14 : decode cX4_term 14 = .ok (.ifCond .le 11, 3) := by decide +kernel
theorem dX4_term_17 : decode cX4_term 17 = .ok (.aload_n 0, 1) := by decide +kernel
theorem dX4_term_18 : decode cX4_term 18 = .ok (.iload_n 2, 1) := by decide +kernel
theorem dX4_term_19 : decode cX4_term 19 = .ok (.invokevirtual 111, 3) := by decide +kernel
theorem dX4_term_22 : decode cX4_term 22 = .ok (.ifCond .eq 21, 3) := by decide +kernel
theorem dX4_term_25 : decode cX4_term 25 = .ok (.aload_n 0, 1) := by decide +kernel
theorem dX4_term_26 : decode cX4_term 26 = .ok (.getfield 7, 3) := by decide +kernel
theorem dX4_term_29 : decode cX4_term 29 = .ok (.iload_n 1, 1) := by decide +kernel
theorem dX4_term_30 : decode cX4_term 30 = .ok (.iaload, 1) := by decide +kernel
theorem dX4_term_31 : decode cX4_term 31 = .ok (.iconst 1, 1) := by decide +kernel
theorem dX4_term_32 : decode cX4_term 32 = .ok (.if_icmp .le 13, 3) := by decide +kernel
theorem dX4_term_35 : decode cX4_term 35 = .ok (.aload_n 0, 1) := by decide +kernel
theorem dX4_term_36 : decode cX4_term 36 = .ok (.iload_n 3, 1) := by decide +kernel
theorem dX4_term_37 : decode cX4_term 37 = .ok (.invokevirtual 111, 3) := by decide +kernel
theorem dX4_term_40 : decode cX4_term 40 = .ok (.ifCond .ne 5, 3) := by decide +kernel
theorem dX4_term_43 : decode cX4_term 43 = .ok (.iconst (-1), 1) := by decide +kernel
theorem dX4_term_44 : decode cX4_term 44 = .ok (.ireturn, 1) := by decide +kernel
theorem dX4_term_45 : decode cX4_term 45 = .ok (.aload_n 0, 1) := by decide +kernel
theorem dX4_term_46 : decode cX4_term 46 = .ok (.getfield 7, 3) := by decide +kernel
theorem dX4_term_49 : decode cX4_term 49 = .ok (.iload_n 1, 1) := by decide +kernel
theorem dX4_term_50 : decode cX4_term 50 = .ok (.iaload, 1) := by decide +kernel
theorem dX4_term_51 : decode cX4_term 51 = .ok (.iconst 1, 1) := by decide +kernel
theorem dX4_term_52 : decode cX4_term 52 = .ok (.if_icmp .ge 9, 3) := by decide +kernel
theorem dX4_term_55 : decode cX4_term 55 = .ok (.iload_n 2, 1) := by decide +kernel
theorem dX4_term_56 : decode cX4_term 56 = .ok (.bipush (-9), 2) := by decide +kernel
theorem dX4_term_58 : decode cX4_term 58 = .ok (.if_icmp .ne 19, 3) := by decide +kernel
theorem dX4_term_61 : decode cX4_term 61 = .ok (.aload_n 0, 1) := by decide +kernel
theorem dX4_term_62 : decode cX4_term 62 = .ok (.getfield 7, 3) := by decide +kernel
theorem dX4_term_65 : decode cX4_term 65 = .ok (.iload_n 1, 1) := by decide +kernel
theorem dX4_term_66 : decode cX4_term 66 = .ok (.iaload, 1) := by decide +kernel
theorem dX4_term_67 : decode cX4_term 67 = .ok (.iconst 2, 1) := by decide +kernel
theorem dX4_term_68 : decode cX4_term 68 = .ok (.if_icmp .ge 12, 3) := by decide +kernel
theorem dX4_term_71 : decode cX4_term 71 = .ok (.iload_n 3, 1) := by decide +kernel
theorem dX4_term_72 : decode cX4_term 72 = .ok (.bipush (-9), 2) := by decide +kernel
theorem dX4_term_74 : decode cX4_term 74 = .ok (.if_icmp .eq 6, 3) := by decide +kernel
theorem dX4_term_77 : decode cX4_term 77 = .ok (.bipush (-2), 2) := by decide +kernel
theorem dX4_term_79 : decode cX4_term 79 = .ok (.ireturn, 1) := by decide +kernel
theorem dX4_term_80 : decode cX4_term 80 = .ok (.aload_n 0, 1) := by decide +kernel
theorem dX4_term_81 : decode cX4_term 81 = .ok (.iload_n 2, 1) := by decide +kernel
theorem dX4_term_82 : decode cX4_term 82 = .ok (.iload_n 3, 1) := by decide +kernel
theorem dX4_term_83 : decode cX4_term 83 = .ok (.invokevirtual 98, 3) := by decide +kernel
theorem dX4_term_86 : decode cX4_term 86 = .ok (.iconst 4, 1) := by decide +kernel
theorem dX4_term_87 : decode cX4_term 87 = .ok (.if_icmp .le 8, 3) := by decide +kernel
theorem dX4_term_90 : decode cX4_term 90 = .ok (.bipush (-3), 2) := by decide +kernel
theorem dX4_term_92 : decode cX4_term 92 = .ok (.goto 10, 3) := by decide +kernel
theorem dX4_term_95 : decode cX4_term 95 = .ok (.aload_n 0, 1) := by decide +kernel
theorem dX4_term_96 : decode cX4_term 96 = .ok (.iload_n 1, 1) := by decide +kernel
theorem dX4_term_97 : decode cX4_term 97 = .ok (.iload_n 2, 1) := by decide +kernel
theorem dX4_term_98 : decode cX4_term 98 = .ok (.iload_n 3, 1) := by decide +kernel
theorem dX4_term_99 : decode cX4_term 99 = .ok (.invokevirtual 104, 3) := by decide +kernel
theorem dX4_term_102 : decode cX4_term 102 = .ok (.ireturn, 1) := by decide +kernel
theorem dX4_goesThrough_0 : decode cX4_goesThrough 0 = .ok (.aload_n 0, 1) := by decide +kernel
theorem dX4_goesThrough_1 : decode cX4_goesThrough 1 = .ok (.iconst 0, 1) := by decide +kernel
theorem dX4_goesThrough_2 : decode cX4_goesThrough 2 = .ok (.putfield 114, 3) := by decide +kernel
theorem dX4_goesThrough_5 : decode cX4_goesThrough 5 = .ok (.aload_n 0, 1) := by decide +kernel
theorem dX4_goesThrough_6 : decode cX4_goesThrough 6 = .ok (.getfield 29, 3) := by decide +kernel
theorem dX4_goesThrough_9 : decode cX4_goesThrough 9 = .ok (.aload_n 0, 1) := by decide +kernel
theorem dX4_goesThrough_10 : decode cX4_goesThrough 10 = .ok (.getfield 114, 3) := by decide +kernel
theorem dX4_goesThrough_13 : decode cX4_goesThrough 13 = .ok (.iload_n 1, 1) := by decide +kernel
theorem dX4_goesThrough_14 : decode cX4_goesThrough 14 = .ok (.iastore, 1) := by decide +kernel
theorem dX4_goesThrough_15 : decode cX4_goesThrough 15 = .ok (.aload_n 0, 1) := by decide +kernel
theorem dX4_goesThrough_16 : decode cX4_goesThrough 16 = .ok (.dup, 1) := by decide +kernel
theorem dX4_goesThrough_17 : decode cX4_goesThrough 17 = .ok (.getfield 114, 3) := by decide +kernel
theorem dX4_goesThrough_20 : decode cX4_goesThrough 20 = .ok (.iconst 1, 1) := by decide +kernel
theorem dX4_goesThrough_21 : decode cX4_goesThrough 21 = .ok (.iadd, 1) := by decide +kernel
theorem dX4_goesThrough_22 : decode cX4_goesThrough 22 = .ok (.putfield 114, 3) := by decide +kernel
theorem dX4_goesThrough_25 : decode cX4_goesThrough 25 = .ok (.iconst 0, 1) := by decide +kernel
theorem dX4_goesThrough_26 : decode cX4_goesThrough 26 = .ok (.istore_n 2, 1) := by decide +kernel
theorem dX4_goesThrough_27 : decode cX4_goesThrough 27 = .ok (.iload_n 2, 1) := by decide +kernel
theorem dX4_goesThrough_28 : decode cX4_goesThrough 28 = .ok (.aload_n 0, 1) := by decide +kernel
theorem dX4_goesThrough_29 : decode cX4_goesThrough 29 = .ok (.getfield 114, 3) := by decide +kernel
theorem dX4_goesThrough_32 : decode cX4_goesThrough 32 = .ok (.if_icmp .ge 61, 3) := by decide +kernel
theorem dX4_goesThrough_35 : decode cX4_goesThrough 35 = .ok (.iconst 0, 1) := by decide +kernel
theorem dX4_goesThrough_36 : decode cX4_goesThrough 36 = .ok (.istore_n 3, 1) := by decide +kernel
theorem dX4_goesThrough_37 : decode cX4_goesThrough 37 = .ok (.iload_n 3, 1) := by decide +kernel
theorem dX4_goesThrough_38 : decode cX4_goesThrough 38 = .ok (.aload_n 0, 1) := by decide +kernel
theorem dX4_goesThrough_39 : decode cX4_goesThrough 39 = .ok (.aload_n 0, 1) := by decide +kernel
theorem dX4_goesThrough_40 : decode cX4_goesThrough 40 = .ok (.getfield 29, 3) := by decide +kernel
theorem dX4_goesThrough_43 : decode cX4_goesThrough 43 = .ok (.iload_n 2, 1) := by decide +kernel
theorem dX4_goesThrough_44 : decode cX4_goesThrough 44 = .ok (.iaload, 1) := by decide +kernel
theorem dX4_goesThrough_45 : decode cX4_goesThrough 45 = .ok (.invokevirtual 117, 3) := by decide +kernel
theorem dX4_goesThrough_48 : decode cX4_goesThrough 48 = .ok (.if_icmp .ge 39, 3) := by decide +kernel
theorem dX4_goesThrough_51 : decode cX4_goesThrough 51 = .ok (.aload_n 0, 1) := by decide +kernel
theorem dX4_goesThrough_52 : decode cX4_goesThrough 52 = .ok (.getfield 29, 3) := by decide +kernel
theorem dX4_goesThrough_55 : decode cX4_goesThrough 55 = .ok (.aload_n 0, 1) := by decide +kernel
theorem dX4_goesThrough_56 : decode cX4_goesThrough 56 = .ok (.getfield 114, 3) := by decide +kernel
theorem dX4_goesThrough_59 : decode cX4_goesThrough 59 = .ok (.aload_n 0, 1) := by decide +kernel
theorem dX4_goesThrough_60 : decode cX4_goesThrough 60 = .ok (.aload_n 0, 1) := by decide +kernel
theorem dX4_goesThrough_61 : decode cX4_goesThrough 61 = .ok (.getfield 29, 3) := by decide +kernel
theorem dX4_goesThrough_64 : decode cX4_goesThrough 64 = .ok (.iload_n 2, 1) := by decide +kernel
theorem dX4_goesThrough_65 : decode cX4_goesThrough 65 = .ok (.iaload, 1) := by decide +kernel
theorem dX4_goesThrough_66 : decode cX4_goesThrough 66 = .ok (.iload_n 3, 1) := by decide +kernel
theorem dX4_goesThrough_67 : decode cX4_goesThrough 67 = .ok (.invokevirtual 90, 3) := by decide +kernel
theorem dX4_goesThrough_70 : decode cX4_goesThrough 70 = .ok (.iastore, 1) := by decide +kernel
theorem dX4_goesThrough_71 : decode cX4_goesThrough 71 = .ok (.aload_n 0, 1) := by decide +kernel
theorem dX4_goesThrough_72 : decode cX4_goesThrough 72 = .ok (.dup, 1) := by decide +kernel
theorem dX4_goesThrough_73 : decode cX4_goesThrough 73 = .ok (.getfield 114, 3) := by decide +kernel
theorem dX4_goesThrough_76 : decode cX4_goesThrough 76 = .ok (.iconst 1, 1) := by decide +kernel
theorem dX4_goesThrough_77 : decode cX4_goesThrough 77 = .ok (.iadd, 1) := by decide +kernel
theorem dX4_goesThrough_78 : decode cX4_goesThrough 78 = .ok (.putfield 114, 3) := by decide +kernel
theorem dX4_goesThrough_81 : decode cX4_goesThrough 81 = .ok (.iinc 3 1, 3) := by decide +kernel
theorem dX4_goesThrough_84 : decode cX4_goesThrough 84 = .ok (.goto (-47), 3) := by decide +kernel
theorem dX4_goesThrough_87 : decode cX4_goesThrough 87 = .ok (.iinc 2 1, 3) := by decide +kernel
theorem dX4_goesThrough_90 : decode cX4_goesThrough 90 = .ok (.goto (-63), 3) := by decide +kernel
theorem dX4_goesThrough_93 : decode cX4_goesThrough 93 = .ok (.return_, 1) := by decide +kernel
theorem dX4_mayDefine_0 : decode cX4_mayDefine 0 = .ok (.aload_n 0, 1) := by decide +kernel
theorem dX4_mayDefine_1 : decode cX4_mayDefine 1 = .ok (.iload_n 2, 1) := by decide +kernel
theorem dX4_mayDefine_2 : decode cX4_mayDefine 2 = .ok (.invokevirtual 121, 3) := by decide +kernel
theorem dX4_mayDefine_5 : decode cX4_mayDefine 5 = .ok (.iconst 0, 1) := by decide +kernel
theorem dX4_mayDefine_6 : decode cX4_mayDefine 6 = .ok (.istore_n 3, 1) := by decide +kernel
theorem dX4_mayDefine_7 : decode cX4_mayDefine 7 = .ok (.iload_n 3, 1) := by decide +kernel
theorem dX4_mayDefine_8 : decode cX4_mayDefine 8 = .ok (.aload_n 0, 1) := by decide +kernel
theorem dX4_mayDefine_9 : decode cX4_mayDefine 9 = .ok (.getfield 114, 3) := by decide +kernel
theorem dX4_mayDefine_12 : decode cX4_mayDefine 12 = .ok (.if_icmp .ge 54, 3) := by decide +kernel
theorem dX4_mayDefine_15 : decode cX4_mayDefine 15 = .ok (.aload_n 0, 1) := by decide +kernel
theorem dX4_mayDefine_16 : decode cX4_mayDefine 16 = .ok (.getfield 20, 3) := by decide +kernel
theorem dX4_mayDefine_19 : decode cX4_mayDefine 19 = .ok (.aload_n 0, 1) := by decide +kernel
theorem dX4_mayDefine_20 : decode cX4_mayDefine 20 = .ok (.getfield 29, 3) := by decide +kernel
theorem dX4_mayDefine_23 : decode cX4_mayDefine 23 = .ok (.iload_n 3, 1) := by decide +kernel
theorem dX4_mayDefine_24 : decode cX4_mayDefine 24 = .ok (.iaload, 1) := by decide +kernel
theorem dX4_mayDefine_25 : decode cX4_mayDefine 25 = .ok (.iaload, 1) := by decide +kernel
theorem dX4_mayDefine_26 : decode cX4_mayDefine 26 = .ok (.istore 4, 2) := by decide +kernel
theorem dX4_mayDefine_28 : decode cX4_mayDefine 28 = .ok (.iload 4, 2) := by decide +kernel
theorem dX4_mayDefine_30 : decode cX4_mayDefine 30 = .ok (.bipush 100, 2) := by decide +kernel
theorem dX4_mayDefine_32 : decode cX4_mayDefine 32 = .ok (.if_icmp .ge 12, 3) := by decide +kernel
theorem dX4_mayDefine_35 : decode cX4_mayDefine 35 = .ok (.iload 4, 2) := by decide +kernel
theorem dX4_mayDefine_37 : decode cX4_mayDefine 37 = .ok (.iload_n 1, 1) := by decide +kernel
theorem dX4_mayDefine_38 : decode cX4_mayDefine 38 = .ok (.if_icmp .lt 22, 3) := by decide +kernel
theorem dX4_mayDefine_41 : decode cX4_mayDefine 41 = .ok (.goto 17, 3) := by decide +kernel
theorem dX4_mayDefine_44 : decode cX4_mayDefine 44 = .ok (.iload 4, 2) := by decide +kernel
theorem dX4_mayDefine_46 : decode cX4_mayDefine 46 = .ok (.bipush 100, 2) := by decide +kernel
theorem dX4_mayDefine_48 : decode cX4_mayDefine 48 = .ok (.isub, 1) := by decide +kernel
theorem dX4_mayDefine_49 : decode cX4_mayDefine 49 = .ok (.aload_n 0, 1) := by decide +kernel
theorem dX4_mayDefine_50 : decode cX4_mayDefine 50 = .ok (.getfield 7, 3) := by decide +kernel
theorem dX4_mayDefine_53 : decode cX4_mayDefine 53 = .ok (.iload_n 1, 1) := by decide +kernel
theorem dX4_mayDefine_54 : decode cX4_mayDefine 54 = .ok (.iaload, 1) := by decide +kernel
theorem dX4_mayDefine_55 : decode cX4_mayDefine 55 = .ok (.if_icmp .lt 5, 3) := by decide +kernel
theorem dX4_mayDefine_58 : decode cX4_mayDefine 58 = .ok (.iconst 0, 1) := by decide +kernel
theorem dX4_mayDefine_59 : decode cX4_mayDefine 59 = .ok (.ireturn, 1) := by decide +kernel
theorem dX4_mayDefine_60 : decode cX4_mayDefine 60 = .ok (.iinc 3 1, 3) := by decide +kernel
theorem dX4_mayDefine_63 : decode cX4_mayDefine 63 = .ok (.goto (-56), 3) := by decide +kernel
theorem dX4_mayDefine_66 : decode cX4_mayDefine 66 = .ok (.iconst 1, 1) := by decide +kernel
theorem dX4_mayDefine_67 : decode cX4_mayDefine 67 = .ok (.ireturn, 1) := by decide +kernel
theorem dX4_isClosed_0 : decode cX4_isClosed 0 = .ok (.aload_n 0, 1) := by decide +kernel
theorem dX4_isClosed_1 : decode cX4_isClosed 1 = .ok (.iload_n 1, 1) := by decide +kernel
theorem dX4_isClosed_2 : decode cX4_isClosed 2 = .ok (.invokevirtual 121, 3) := by decide +kernel
theorem dX4_isClosed_5 : decode cX4_isClosed 5 = .ok (.iconst 0, 1) := by decide +kernel
theorem dX4_isClosed_6 : decode cX4_isClosed 6 = .ok (.istore_n 2, 1) := by decide +kernel
theorem dX4_isClosed_7 : decode cX4_isClosed 7 = .ok (.iload_n 2, 1) := by decide +kernel
theorem dX4_isClosed_8 : decode cX4_isClosed 8 = .ok (.aload_n 0, 1) := by decide +kernel
theorem dX4_isClosed_9 : decode cX4_isClosed 9 = .ok (.getfield 114, 3) := by decide +kernel
theorem dX4_isClosed_12 : decode cX4_isClosed 12 = .ok (.if_icmp .ge 27, 3) := by decide +kernel
theorem dX4_isClosed_15 : decode cX4_isClosed 15 = .ok (.aload_n 0, 1) := by decide +kernel
theorem dX4_isClosed_16 : decode cX4_isClosed 16 = .ok (.getfield 20, 3) := by decide +kernel
theorem dX4_isClosed_19 : decode cX4_isClosed 19 = .ok (.aload_n 0, 1) := by decide +kernel
theorem dX4_isClosed_20 : decode cX4_isClosed 20 = .ok (.getfield 29, 3) := by decide +kernel
theorem dX4_isClosed_23 : decode cX4_isClosed 23 = .ok (.iload_n 2, 1) := by decide +kernel
theorem dX4_isClosed_24 : decode cX4_isClosed 24 = .ok (.iaload, 1) := by decide +kernel
theorem dX4_isClosed_25 : decode cX4_isClosed 25 = .ok (.iaload, 1) := by decide +kernel
theorem dX4_isClosed_26 : decode cX4_isClosed 26 = .ok (.bipush 100, 2) := by decide +kernel
theorem dX4_isClosed_28 : decode cX4_isClosed 28 = .ok (.if_icmp .lt 5, 3) := by decide +kernel
theorem dX4_isClosed_31 : decode cX4_isClosed 31 = .ok (.iconst 0, 1) := by decide +kernel
theorem dX4_isClosed_32 : decode cX4_isClosed 32 = .ok (.ireturn, 1) := by decide +kernel
theorem dX4_isClosed_33 : decode cX4_isClosed 33 = .ok (.iinc 2 1, 3) := by decide +kernel
theorem dX4_isClosed_36 : decode cX4_isClosed 36 = .ok (.goto (-29), 3) := by decide +kernel
theorem dX4_isClosed_39 : decode cX4_isClosed 39 = .ok (.iconst 1, 1) := by decide +kernel
theorem dX4_isClosed_40 : decode cX4_isClosed 40 = .ok (.ireturn, 1) := by decide +kernel
theorem dX4_define_0 : decode cX4_define 0 = .ok (.aload_n 0, 1) := by decide +kernel
theorem dX4_define_1 : decode cX4_define 1 = .ok (.iload_n 1, 1) := by decide +kernel
theorem dX4_define_2 : decode cX4_define 2 = .ok (.invokevirtual 107, 3) := by decide +kernel
theorem dX4_define_5 : decode cX4_define 5 = .ok (.ifCond .eq 17, 3) := by decide +kernel
theorem dX4_define_8 : decode cX4_define 8 = .ok (.iload_n 2, 1) := by decide +kernel
theorem dX4_define_9 : decode cX4_define 9 = .ok (.bipush (-9), 2) := by decide +kernel
theorem dX4_define_11 : decode cX4_define 11 = .ok (.if_icmp .eq 13, 3) := by decide +kernel
theorem dX4_define_14 : decode cX4_define 14 = .ok (.aload_n 0, 1) := by decide +kernel
theorem dX4_define_15 : decode cX4_define 15 = .ok (.iload_n 2, 1) := by decide +kernel
theorem dX4_define_16 : decode cX4_define 16 = .ok (.invokevirtual 111, 3) := by decide +kernel
theorem dX4_define_19 : decode cX4_define 19 = .ok (.ifCond .ne 5, 3) := by decide +kernel
theorem dX4_define_22 : decode cX4_define 22 = .ok (.iconst (-1), 1) := by decide +kernel
theorem dX4_define_23 : decode cX4_define 23 = .ok (.ireturn, 1) := by decide +kernel
theorem dX4_define_24 : decode cX4_define 24 = .ok (.iload_n 2, 1) := by decide +kernel
theorem dX4_define_25 : decode cX4_define 25 = .ok (.bipush (-9), 2) := by decide +kernel
theorem dX4_define_27 : decode cX4_define 27 = .ok (.if_icmp .eq 15, 3) := by decide +kernel
theorem dX4_define_30 : decode cX4_define 30 = .ok (.aload_n 0, 1) := by decide +kernel
theorem dX4_define_31 : decode cX4_define 31 = .ok (.iload_n 1, 1) := by decide +kernel
theorem dX4_define_32 : decode cX4_define 32 = .ok (.iload_n 2, 1) := by decide +kernel
theorem dX4_define_33 : decode cX4_define 33 = .ok (.invokevirtual 125, 3) := by decide +kernel
theorem dX4_define_36 : decode cX4_define 36 = .ok (.ifCond .ne 6, 3) := by decide +kernel
theorem dX4_define_39 : decode cX4_define 39 = .ok (.bipush (-3), 2) := by decide +kernel
theorem dX4_define_41 : decode cX4_define 41 = .ok (.ireturn, 1) := by decide +kernel
theorem dX4_define_42 : decode cX4_define 42 = .ok (.aload_n 0, 1) := by decide +kernel
theorem dX4_define_43 : decode cX4_define 43 = .ok (.getfield 13, 3) := by decide +kernel
theorem dX4_define_46 : decode cX4_define 46 = .ok (.iload_n 1, 1) := by decide +kernel
theorem dX4_define_47 : decode cX4_define 47 = .ok (.iaload, 1) := by decide +kernel
theorem dX4_define_48 : decode cX4_define 48 = .ok (.istore_n 3, 1) := by decide +kernel
theorem dX4_define_49 : decode cX4_define 49 = .ok (.aload_n 0, 1) := by decide +kernel
theorem dX4_define_50 : decode cX4_define 50 = .ok (.getfield 13, 3) := by decide +kernel
theorem dX4_define_53 : decode cX4_define 53 = .ok (.iload_n 1, 1) := by decide +kernel
theorem dX4_define_54 : decode cX4_define 54 = .ok (.iload_n 2, 1) := by decide +kernel
theorem dX4_define_55 : decode cX4_define 55 = .ok (.iastore, 1) := by decide +kernel
theorem dX4_define_56 : decode cX4_define 56 = .ok (.iload_n 3, 1) := by decide +kernel
theorem dX4_define_57 : decode cX4_define 57 = .ok (.ireturn, 1) := by decide +kernel
theorem dX4_opaque_0 : decode cX4_opaque 0 = .ok (.aload_n 0, 1) := by decide +kernel
theorem dX4_opaque_1 : decode cX4_opaque 1 = .ok (.iload_n 1, 1) := by decide +kernel
theorem dX4_opaque_2 : decode cX4_opaque 2 = .ok (.invokevirtual 107, 3) := by decide +kernel
theorem dX4_opaque_5 : decode cX4_opaque 5 = .ok (.ifCond .ne 5, 3) := by decide +kernel
theorem dX4_opaque_8 : decode cX4_opaque 8 = .ok (.iconst (-1), 1) := by decide +kernel
theorem dX4_opaque_9 : decode cX4_opaque 9 = .ok (.ireturn, 1) := by decide +kernel
theorem dX4_opaque_10 : decode cX4_opaque 10 = .ok (.aload_n 0, 1) := by decide +kernel
theorem dX4_opaque_11 : decode cX4_opaque 11 = .ok (.getfield 16, 3) := by decide +kernel
theorem dX4_opaque_14 : decode cX4_opaque 14 = .ok (.iload_n 1, 1) := by decide +kernel
theorem dX4_opaque_15 : decode cX4_opaque 15 = .ok (.baload, 1) := by decide +kernel
theorem dX4_opaque_16 : decode cX4_opaque 16 = .ok (.iload_n 2, 1) := by decide +kernel
theorem dX4_opaque_17 : decode cX4_opaque 17 = .ok (.if_icmp .ne 5, 3) := by decide +kernel
theorem dX4_opaque_20 : decode cX4_opaque 20 = .ok (.iconst 0, 1) := by decide +kernel
theorem dX4_opaque_21 : decode cX4_opaque 21 = .ok (.ireturn, 1) := by decide +kernel
theorem dX4_opaque_22 : decode cX4_opaque 22 = .ok (.aload_n 0, 1) := by decide +kernel
theorem dX4_opaque_23 : decode cX4_opaque 23 = .ok (.getfield 16, 3) := by decide +kernel
theorem dX4_opaque_26 : decode cX4_opaque 26 = .ok (.iload_n 1, 1) := by decide +kernel
theorem dX4_opaque_27 : decode cX4_opaque 27 = .ok (.iload_n 2, 1) := by decide +kernel
theorem dX4_opaque_28 : decode cX4_opaque 28 = .ok (.bastore, 1) := by decide +kernel
theorem dX4_opaque_29 : decode cX4_opaque 29 = .ok (.iconst 1, 1) := by decide +kernel
theorem dX4_opaque_30 : decode cX4_opaque 30 = .ok (.ireturn, 1) := by decide +kernel
theorem dX4_atMost_0 : decode cX4_atMost 0 = .ok (.lload_n 0, 1) := by decide +kernel
theorem dX4_atMost_1 : decode cX4_atMost 1 = .ok (.ldc2_w 129, 3) := by decide +kernel
theorem dX4_atMost_4 : decode cX4_atMost 4 = .ok (.lcmp, 1) := by decide +kernel
theorem dX4_atMost_5 : decode cX4_atMost 5 = .ok (.ifCond .ge 7, 3) := by decide +kernel
theorem dX4_atMost_8 : decode cX4_atMost 8 = .ok (.lload_n 0, 1) := by decide +kernel
theorem dX4_atMost_9 : decode cX4_atMost 9 = .ok (.goto 6, 3) := by decide +kernel
theorem dX4_atMost_12 : decode cX4_atMost 12 = .ok (.ldc2_w 129, 3) := by decide +kernel
theorem dX4_atMost_15 : decode cX4_atMost 15 = .ok (.lreturn, 1) := by decide +kernel
theorem dX4_times_0 : decode cX4_times 0 = .ok (.lload_n 0, 1) := by decide +kernel
theorem dX4_times_1 : decode cX4_times 1 = .ok (.lconst 0, 1) := by decide +kernel
theorem dX4_times_2 : decode cX4_times 2 = .ok (.lcmp, 1) := by decide +kernel
theorem dX4_times_3 : decode cX4_times 3 = .ok (.ifCond .le 19, 3) := by decide +kernel
theorem dX4_times_6 : decode cX4_times 6 = .ok (.lload_n 2, 1) := by decide +kernel
theorem dX4_times_7 : decode cX4_times 7 = .ok (.ldc2_w 129, 3) := by decide +kernel
theorem dX4_times_10 : decode cX4_times 10 = .ok (.lload_n 0, 1) := by decide +kernel
theorem dX4_times_11 : decode cX4_times 11 = .ok (.ldiv, 1) := by decide +kernel
theorem dX4_times_12 : decode cX4_times 12 = .ok (.lcmp, 1) := by decide +kernel
theorem dX4_times_13 : decode cX4_times 13 = .ok (.ifCond .le 9, 3) := by decide +kernel
theorem dX4_times_16 : decode cX4_times 16 = .ok (.ldc2_w 129, 3) := by decide +kernel
theorem dX4_times_19 : decode cX4_times 19 = .ok (.goto 9, 3) := by decide +kernel
theorem dX4_times_22 : decode cX4_times 22 = .ok (.lload_n 0, 1) := by decide +kernel
theorem dX4_times_23 : decode cX4_times 23 = .ok (.lload_n 2, 1) := by decide +kernel
theorem dX4_times_24 : decode cX4_times 24 = .ok (.lmul, 1) := by decide +kernel
theorem dX4_times_25 : decode cX4_times 25 = .ok (.invokestatic 131, 3) := by decide +kernel
theorem dX4_times_28 : decode cX4_times 28 = .ok (.lreturn, 1) := by decide +kernel
theorem dX4_weighs_0 : decode cX4_weighs 0 = .ok (.aload_n 0, 1) := by decide +kernel
theorem dX4_weighs_1 : decode cX4_weighs 1 = .ok (.getfield 20, 3) := by decide +kernel
theorem dX4_weighs_4 : decode cX4_weighs 4 = .ok (.iload_n 1, 1) := by decide +kernel
theorem dX4_weighs_5 : decode cX4_weighs 5 = .ok (.iaload, 1) := by decide +kernel
theorem dX4_weighs_6 : decode cX4_weighs 6 = .ok (.istore_n 2, 1) := by decide +kernel
theorem dX4_weighs_7 : decode cX4_weighs 7 = .ok (.iload_n 2, 1) := by decide +kernel
theorem dX4_weighs_8 : decode cX4_weighs 8 = .ok (.bipush 100, 2) := by decide +kernel
theorem dX4_weighs_10 : decode cX4_weighs 10 = .ok (.if_icmp .lt 58, 3) := by decide +kernel
theorem dX4_weighs_13 : decode cX4_weighs 13 = .ok (.aload_n 0, 1) := by decide +kernel
theorem dX4_weighs_14 : decode cX4_weighs 14 = .ok (.getfield 48, 3) := by decide +kernel
theorem dX4_weighs_17 : decode cX4_weighs 17 = .ok (.iload_n 1, 1) := by decide +kernel
theorem dX4_weighs_18 : decode cX4_weighs 18 = .ok (.lconst 0, 1) := by decide +kernel
theorem dX4_weighs_19 : decode cX4_weighs 19 = .ok (.lastore, 1) := by decide +kernel
theorem dX4_weighs_20 : decode cX4_weighs 20 = .ok (.aload_n 0, 1) := by decide +kernel
theorem dX4_weighs_21 : decode cX4_weighs 21 = .ok (.getfield 54, 3) := by decide +kernel
theorem dX4_weighs_24 : decode cX4_weighs 24 = .ok (.iload_n 1, 1) := by decide +kernel
theorem dX4_weighs_25 : decode cX4_weighs 25 = .ok (.lconst 0, 1) := by decide +kernel
theorem dX4_weighs_26 : decode cX4_weighs 26 = .ok (.lastore, 1) := by decide +kernel
theorem dX4_weighs_27 : decode cX4_weighs 27 = .ok (.aload_n 0, 1) := by decide +kernel
theorem dX4_weighs_28 : decode cX4_weighs 28 = .ok (.getfield 51, 3) := by decide +kernel
theorem dX4_weighs_31 : decode cX4_weighs 31 = .ok (.iconst 2, 1) := by decide +kernel
theorem dX4_weighs_32 : decode cX4_weighs 32 = .ok (.iload_n 1, 1) := by decide +kernel
theorem dX4_weighs_33 : decode cX4_weighs 33 = .ok (.imul, 1) := by decide +kernel
theorem dX4_weighs_34 : decode cX4_weighs 34 = .ok (.iload_n 2, 1) := by decide +kernel
theorem dX4_weighs_35 : decode cX4_weighs 35 = .ok (.bipush 100, 2) := by decide +kernel
theorem dX4_weighs_37 : decode cX4_weighs 37 = .ok (.if_icmp .ne 7, 3) := by decide +kernel
theorem dX4_weighs_40 : decode cX4_weighs 40 = .ok (.lconst 1, 1) := by decide +kernel
theorem dX4_weighs_41 : decode cX4_weighs 41 = .ok (.goto 4, 3) := by decide +kernel
theorem dX4_weighs_44 : decode cX4_weighs 44 = .ok (.lconst 0, 1) := by decide +kernel
theorem dX4_weighs_45 : decode cX4_weighs 45 = .ok (.lastore, 1) := by decide +kernel
theorem dX4_weighs_46 : decode cX4_weighs 46 = .ok (.aload_n 0, 1) := by decide +kernel
theorem dX4_weighs_47 : decode cX4_weighs 47 = .ok (.getfield 51, 3) := by decide +kernel
theorem dX4_weighs_50 : decode cX4_weighs 50 = .ok (.iconst 2, 1) := by decide +kernel
theorem dX4_weighs_51 : decode cX4_weighs 51 = .ok (.iload_n 1, 1) := by decide +kernel
theorem dX4_weighs_52 : decode cX4_weighs 52 = .ok (.imul, 1) := by decide +kernel
theorem dX4_weighs_53 : decode cX4_weighs 53 = .ok (.iconst 1, 1) := by decide +kernel
theorem dX4_weighs_54 : decode cX4_weighs 54 = .ok (.iadd, 1) := by decide +kernel
theorem dX4_weighs_55 : decode cX4_weighs 55 = .ok (.iload_n 2, 1) := by decide +kernel
theorem dX4_weighs_56 : decode cX4_weighs 56 = .ok (.bipush 101, 2) := by decide +kernel
theorem dX4_weighs_58 : decode cX4_weighs 58 = .ok (.if_icmp .ne 7, 3) := by decide +kernel
theorem dX4_weighs_61 : decode cX4_weighs 61 = .ok (.lconst 1, 1) := by decide +kernel
theorem dX4_weighs_62 : decode cX4_weighs 62 = .ok (.goto 4, 3) := by decide +kernel
theorem dX4_weighs_65 : decode cX4_weighs 65 = .ok (.lconst 0, 1) := by decide +kernel
theorem dX4_weighs_66 : decode cX4_weighs 66 = .ok (.lastore, 1) := by decide +kernel
theorem dX4_weighs_67 : decode cX4_weighs 67 = .ok (.return_, 1) := by decide +kernel
theorem dX4_weighs_68 : decode cX4_weighs 68 = .ok (.aload_n 0, 1) := by decide +kernel
theorem dX4_weighs_69 : decode cX4_weighs 69 = .ok (.getfield 35, 3) := by decide +kernel
theorem dX4_weighs_72 : decode cX4_weighs 72 = .ok (.iload_n 2, 1) := by decide +kernel
theorem dX4_weighs_73 : decode cX4_weighs 73 = .ok (.laload, 1) := by decide +kernel
theorem dX4_weighs_74 : decode cX4_weighs 74 = .ok (.lstore_n 3, 1) := by decide +kernel
theorem dX4_weighs_75 : decode cX4_weighs 75 = .ok (.aload_n 0, 1) := by decide +kernel
theorem dX4_weighs_76 : decode cX4_weighs 76 = .ok (.getfield 42, 3) := by decide +kernel
theorem dX4_weighs_79 : decode cX4_weighs 79 = .ok (.iload_n 2, 1) := by decide +kernel
theorem dX4_weighs_80 : decode cX4_weighs 80 = .ok (.laload, 1) := by decide +kernel
theorem dX4_weighs_81 : decode cX4_weighs 81 = .ok (.lstore 5, 2) := by decide +kernel
theorem dX4_weighs_83 : decode cX4_weighs 83 = .ok (.lconst 0, 1) := by decide +kernel
theorem dX4_weighs_84 : decode cX4_weighs 84 = .ok (.lstore 7, 2) := by decide +kernel
theorem dX4_weighs_86 : decode cX4_weighs 86 = .ok (.lconst 0, 1) := by decide +kernel
theorem dX4_weighs_87 : decode cX4_weighs 87 = .ok (.lstore 9, 2) := by decide +kernel
theorem dX4_weighs_89 : decode cX4_weighs 89 = .ok (.iconst 0, 1) := by decide +kernel
theorem dX4_weighs_90 : decode cX4_weighs 90 = .ok (.istore 11, 2) := by decide +kernel
theorem dX4_weighs_92 : decode cX4_weighs 92 = .ok (.iload 11, 2) := by decide +kernel
theorem dX4_weighs_94 : decode cX4_weighs 94 = .ok (.aload_n 0, 1) := by decide +kernel
theorem dX4_weighs_95 : decode cX4_weighs 95 = .ok (.getfield 7, 3) := by decide +kernel
theorem dX4_weighs_98 : decode cX4_weighs 98 = .ok (.iload_n 2, 1) := by decide +kernel
theorem dX4_weighs_99 : decode cX4_weighs 99 = .ok (.iaload, 1) := by decide +kernel
theorem dX4_weighs_100 : decode cX4_weighs 100 = .ok (.if_icmp .ge 115, 3) := by decide +kernel
theorem dX4_weighs_103 : decode cX4_weighs 103 = .ok (.aload_n 0, 1) := by decide +kernel
theorem dX4_weighs_104 : decode cX4_weighs 104 = .ok (.getfield 39, 3) := by decide +kernel
theorem dX4_weighs_107 : decode cX4_weighs 107 = .ok (.iconst 2, 1) := by decide +kernel
theorem dX4_weighs_108 : decode cX4_weighs 108 = .ok (.iload_n 2, 1) := by decide +kernel
theorem dX4_weighs_109 : decode cX4_weighs 109 = .ok (.imul, 1) := by decide +kernel
theorem dX4_weighs_110 : decode cX4_weighs 110 = .ok (.iload 11, 2) := by decide +kernel
theorem dX4_weighs_112 : decode cX4_weighs 112 = .ok (.iadd, 1) := by decide +kernel
theorem dX4_weighs_113 : decode cX4_weighs 113 = .ok (.laload, 1) := by decide +kernel
theorem dX4_weighs_114 : decode cX4_weighs 114 = .ok (.lstore 12, 2) := by decide +kernel
theorem dX4_weighs_116 : decode cX4_weighs 116 = .ok (.aload_n 0, 1) := by decide +kernel
theorem dX4_weighs_117 : decode cX4_weighs 117 = .ok (.iload_n 1, 1) := by decide +kernel
theorem dX4_weighs_118 : decode cX4_weighs 118 = .ok (.iload 11, 2) := by decide +kernel
theorem dX4_weighs_120 : decode cX4_weighs 120 = .ok (.invokevirtual 90, 3) := by decide +kernel
theorem dX4_weighs_123 : decode cX4_weighs 123 = .ok (.istore 14, 2) := by decide +kernel
theorem dX4_weighs_125 : decode cX4_weighs 125 = .ok (.lload_n 3, 1) := by decide +kernel
theorem dX4_weighs_126 : decode cX4_weighs 126 = .ok (.lload 12, 2) := by decide +kernel
theorem dX4_weighs_128 : decode cX4_weighs 128 = .ok (.aload_n 0, 1) := by decide +kernel
theorem dX4_weighs_129 : decode cX4_weighs 129 = .ok (.getfield 48, 3) := by decide +kernel
theorem dX4_weighs_132 : decode cX4_weighs 132 = .ok (.iload 14, 2) := by decide +kernel
theorem dX4_weighs_134 : decode cX4_weighs 134 = .ok (.laload, 1) := by decide +kernel
theorem dX4_weighs_135 : decode cX4_weighs 135 = .ok (.invokestatic 135, 3) := by decide +kernel
theorem dX4_weighs_138 : decode cX4_weighs 138 = .ok (.ladd, 1) := by decide +kernel
theorem dX4_weighs_139 : decode cX4_weighs 139 = .ok (.invokestatic 131, 3) := by decide +kernel
theorem dX4_weighs_142 : decode cX4_weighs 142 = .ok (.lstore_n 3, 1) := by decide +kernel
theorem dX4_weighs_143 : decode cX4_weighs 143 = .ok (.lload 5, 2) := by decide +kernel
theorem dX4_weighs_145 : decode cX4_weighs 145 = .ok (.lload 12, 2) := by decide +kernel
theorem dX4_weighs_147 : decode cX4_weighs 147 = .ok (.aload_n 0, 1) := by decide +kernel
theorem dX4_weighs_148 : decode cX4_weighs 148 = .ok (.getfield 54, 3) := by decide +kernel
theorem dX4_weighs_151 : decode cX4_weighs 151 = .ok (.iload 14, 2) := by decide +kernel
theorem dX4_weighs_153 : decode cX4_weighs 153 = .ok (.laload, 1) := by decide +kernel
theorem dX4_weighs_154 : decode cX4_weighs 154 = .ok (.invokestatic 135, 3) := by decide +kernel
theorem dX4_weighs_157 : decode cX4_weighs 157 = .ok (.ladd, 1) := by decide +kernel
theorem dX4_weighs_158 : decode cX4_weighs 158 = .ok (.invokestatic 131, 3) := by decide +kernel
theorem dX4_weighs_161 : decode cX4_weighs 161 = .ok (.lstore 5, 2) := by decide +kernel
theorem dX4_weighs_163 : decode cX4_weighs 163 = .ok (.lload 7, 2) := by decide +kernel
theorem dX4_weighs_165 : decode cX4_weighs 165 = .ok (.lload 12, 2) := by decide +kernel
theorem dX4_weighs_167 : decode cX4_weighs 167 = .ok (.aload_n 0, 1) := by decide +kernel
theorem dX4_weighs_168 : decode cX4_weighs 168 = .ok (.getfield 51, 3) := by decide +kernel
theorem dX4_weighs_171 : decode cX4_weighs 171 = .ok (.iconst 2, 1) := by decide +kernel
theorem dX4_weighs_172 : decode cX4_weighs 172 = .ok (.iload 14, 2) := by decide +kernel
theorem dX4_weighs_174 : decode cX4_weighs 174 = .ok (.imul, 1) := by decide +kernel
theorem dX4_weighs_175 : decode cX4_weighs 175 = .ok (.laload, 1) := by decide +kernel
theorem dX4_weighs_176 : decode cX4_weighs 176 = .ok (.invokestatic 135, 3) := by decide +kernel
theorem dX4_weighs_179 : decode cX4_weighs 179 = .ok (.ladd, 1) := by decide +kernel
theorem dX4_weighs_180 : decode cX4_weighs 180 = .ok (.invokestatic 131, 3) := by decide +kernel
theorem dX4_weighs_183 : decode cX4_weighs 183 = .ok (.lstore 7, 2) := by decide +kernel
theorem dX4_weighs_185 : decode cX4_weighs 185 = .ok (.lload 9, 2) := by decide +kernel
theorem dX4_weighs_187 : decode cX4_weighs 187 = .ok (.lload 12, 2) := by decide +kernel
theorem dX4_weighs_189 : decode cX4_weighs 189 = .ok (.aload_n 0, 1) := by decide +kernel
theorem dX4_weighs_190 : decode cX4_weighs 190 = .ok (.getfield 51, 3) := by decide +kernel
theorem dX4_weighs_193 : decode cX4_weighs 193 = .ok (.iconst 2, 1) := by decide +kernel
theorem dX4_weighs_194 : decode cX4_weighs 194 = .ok (.iload 14, 2) := by decide +kernel
theorem dX4_weighs_196 : decode cX4_weighs 196 = .ok (.imul, 1) := by decide +kernel
theorem dX4_weighs_197 : decode cX4_weighs 197 = .ok (.iconst 1, 1) := by decide +kernel
theorem dX4_weighs_198 : decode cX4_weighs 198 = .ok (.iadd, 1) := by decide +kernel
theorem dX4_weighs_199 : decode cX4_weighs 199 = .ok (.laload, 1) := by decide +kernel
theorem dX4_weighs_200 : decode cX4_weighs 200 = .ok (.invokestatic 135, 3) := by decide +kernel
theorem dX4_weighs_203 : decode cX4_weighs 203 = .ok (.ladd, 1) := by decide +kernel
theorem dX4_weighs_204 : decode cX4_weighs 204 = .ok (.invokestatic 131, 3) := by decide +kernel
theorem dX4_weighs_207 : decode cX4_weighs 207 = .ok (.lstore 9, 2) := by decide +kernel
theorem dX4_weighs_209 : decode cX4_weighs 209 = .ok (.iinc 11 1, 3) := by decide +kernel
theorem dX4_weighs_212 : decode cX4_weighs 212 = .ok (.goto (-120), 3) := by decide +kernel
theorem dX4_weighs_215 : decode cX4_weighs 215 = .ok (.aload_n 0, 1) := by decide +kernel
theorem dX4_weighs_216 : decode cX4_weighs 216 = .ok (.getfield 48, 3) := by decide +kernel
theorem dX4_weighs_219 : decode cX4_weighs 219 = .ok (.iload_n 1, 1) := by decide +kernel
theorem dX4_weighs_220 : decode cX4_weighs 220 = .ok (.lload_n 3, 1) := by decide +kernel
theorem dX4_weighs_221 : decode cX4_weighs 221 = .ok (.lastore, 1) := by decide +kernel
theorem dX4_weighs_222 : decode cX4_weighs 222 = .ok (.aload_n 0, 1) := by decide +kernel
theorem dX4_weighs_223 : decode cX4_weighs 223 = .ok (.getfield 54, 3) := by decide +kernel
theorem dX4_weighs_226 : decode cX4_weighs 226 = .ok (.iload_n 1, 1) := by decide +kernel
theorem dX4_weighs_227 : decode cX4_weighs 227 = .ok (.lload 5, 2) := by decide +kernel
theorem dX4_weighs_229 : decode cX4_weighs 229 = .ok (.lastore, 1) := by decide +kernel
theorem dX4_weighs_230 : decode cX4_weighs 230 = .ok (.aload_n 0, 1) := by decide +kernel
theorem dX4_weighs_231 : decode cX4_weighs 231 = .ok (.getfield 51, 3) := by decide +kernel
theorem dX4_weighs_234 : decode cX4_weighs 234 = .ok (.iconst 2, 1) := by decide +kernel
theorem dX4_weighs_235 : decode cX4_weighs 235 = .ok (.iload_n 1, 1) := by decide +kernel
theorem dX4_weighs_236 : decode cX4_weighs 236 = .ok (.imul, 1) := by decide +kernel
theorem dX4_weighs_237 : decode cX4_weighs 237 = .ok (.lload 7, 2) := by decide +kernel
theorem dX4_weighs_239 : decode cX4_weighs 239 = .ok (.lastore, 1) := by decide +kernel
theorem dX4_weighs_240 : decode cX4_weighs 240 = .ok (.aload_n 0, 1) := by decide +kernel
theorem dX4_weighs_241 : decode cX4_weighs 241 = .ok (.getfield 51, 3) := by decide +kernel
theorem dX4_weighs_244 : decode cX4_weighs 244 = .ok (.iconst 2, 1) := by decide +kernel
theorem dX4_weighs_245 : decode cX4_weighs 245 = .ok (.iload_n 1, 1) := by decide +kernel
theorem dX4_weighs_246 : decode cX4_weighs 246 = .ok (.imul, 1) := by decide +kernel
theorem dX4_weighs_247 : decode cX4_weighs 247 = .ok (.iconst 1, 1) := by decide +kernel
theorem dX4_weighs_248 : decode cX4_weighs 248 = .ok (.iadd, 1) := by decide +kernel
theorem dX4_weighs_249 : decode cX4_weighs 249 = .ok (.lload 9, 2) := by decide +kernel
theorem dX4_weighs_251 : decode cX4_weighs 251 = .ok (.lastore, 1) := by decide +kernel
theorem dX4_weighs_252 : decode cX4_weighs 252 = .ok (.return_, 1) := by decide +kernel
theorem dX4_headNow_0 : decode cX4_headNow 0 = .ok (.iload_n 1, 1) := by decide +kernel
theorem dX4_headNow_1 : decode cX4_headNow 1 = .ok (.istore_n 2, 1) := by decide +kernel
theorem dX4_headNow_2 : decode cX4_headNow 2 = .ok (.aload_n 0, 1) := by decide +kernel
theorem dX4_headNow_3 : decode cX4_headNow 3 = .ok (.getfield 20, 3) := by decide +kernel
theorem dX4_headNow_6 : decode cX4_headNow 6 = .ok (.iload_n 2, 1) := by decide +kernel
theorem dX4_headNow_7 : decode cX4_headNow 7 = .ok (.iaload, 1) := by decide +kernel
theorem dX4_headNow_8 : decode cX4_headNow 8 = .ok (.bipush 100, 2) := by decide +kernel
theorem dX4_headNow_10 : decode cX4_headNow 10 = .ok (.if_icmp .ge 42, 3) := by decide +kernel
theorem dX4_headNow_13 : decode cX4_headNow 13 = .ok (.aload_n 0, 1) := by decide +kernel
theorem dX4_headNow_14 : decode cX4_headNow 14 = .ok (.getfield 45, 3) := by decide +kernel
theorem dX4_headNow_17 : decode cX4_headNow 17 = .ok (.aload_n 0, 1) := by decide +kernel
theorem dX4_headNow_18 : decode cX4_headNow 18 = .ok (.getfield 20, 3) := by decide +kernel
theorem dX4_headNow_21 : decode cX4_headNow 21 = .ok (.iload_n 2, 1) := by decide +kernel
theorem dX4_headNow_22 : decode cX4_headNow 22 = .ok (.iaload, 1) := by decide +kernel
theorem dX4_headNow_23 : decode cX4_headNow 23 = .ok (.iaload, 1) := by decide +kernel
theorem dX4_headNow_24 : decode cX4_headNow 24 = .ok (.bipush 100, 2) := by decide +kernel
theorem dX4_headNow_26 : decode cX4_headNow 26 = .ok (.if_icmp .lt 26, 3) := by decide +kernel
theorem dX4_headNow_29 : decode cX4_headNow 29 = .ok (.aload_n 0, 1) := by decide +kernel
theorem dX4_headNow_30 : decode cX4_headNow 30 = .ok (.iload_n 2, 1) := by decide +kernel
theorem dX4_headNow_31 : decode cX4_headNow 31 = .ok (.aload_n 0, 1) := by decide +kernel
theorem dX4_headNow_32 : decode cX4_headNow 32 = .ok (.getfield 45, 3) := by decide +kernel
theorem dX4_headNow_35 : decode cX4_headNow 35 = .ok (.aload_n 0, 1) := by decide +kernel
theorem dX4_headNow_36 : decode cX4_headNow 36 = .ok (.getfield 20, 3) := by decide +kernel
theorem dX4_headNow_39 : decode cX4_headNow 39 = .ok (.iload_n 2, 1) := by decide +kernel
theorem dX4_headNow_40 : decode cX4_headNow 40 = .ok (.iaload, 1) := by decide +kernel
theorem dX4_headNow_41 : decode cX4_headNow 41 = .ok (.iaload, 1) := by decide +kernel
theorem dX4_headNow_42 : decode cX4_headNow 42 = .ok (.bipush 100, 2) := by decide +kernel
theorem dX4_headNow_44 : decode cX4_headNow 44 = .ok (.isub, 1) := by decide +kernel
theorem dX4_headNow_45 : decode cX4_headNow 45 = .ok (.invokevirtual 90, 3) := by decide +kernel
theorem dX4_headNow_48 : decode cX4_headNow 48 = .ok (.istore_n 2, 1) := by decide +kernel
theorem dX4_headNow_49 : decode cX4_headNow 49 = .ok (.goto (-47), 3) := by decide +kernel
theorem dX4_headNow_52 : decode cX4_headNow 52 = .ok (.aload_n 0, 1) := by decide +kernel
theorem dX4_headNow_53 : decode cX4_headNow 53 = .ok (.getfield 20, 3) := by decide +kernel
theorem dX4_headNow_56 : decode cX4_headNow 56 = .ok (.iload_n 2, 1) := by decide +kernel
theorem dX4_headNow_57 : decode cX4_headNow 57 = .ok (.iaload, 1) := by decide +kernel
theorem dX4_headNow_58 : decode cX4_headNow 58 = .ok (.bipush 100, 2) := by decide +kernel
theorem dX4_headNow_60 : decode cX4_headNow 60 = .ok (.if_icmp .lt 12, 3) := by decide +kernel
theorem dX4_headNow_63 : decode cX4_headNow 63 = .ok (.aload_n 0, 1) := by decide +kernel
theorem dX4_headNow_64 : decode cX4_headNow 64 = .ok (.getfield 20, 3) := by decide +kernel
theorem dX4_headNow_67 : decode cX4_headNow 67 = .ok (.iload_n 2, 1) := by decide +kernel
theorem dX4_headNow_68 : decode cX4_headNow 68 = .ok (.iaload, 1) := by decide +kernel
theorem dX4_headNow_69 : decode cX4_headNow 69 = .ok (.goto 14, 3) := by decide +kernel
theorem dX4_headNow_72 : decode cX4_headNow 72 = .ok (.aload_n 0, 1) := by decide +kernel
theorem dX4_headNow_73 : decode cX4_headNow 73 = .ok (.getfield 45, 3) := by decide +kernel
theorem dX4_headNow_76 : decode cX4_headNow 76 = .ok (.aload_n 0, 1) := by decide +kernel
theorem dX4_headNow_77 : decode cX4_headNow 77 = .ok (.getfield 20, 3) := by decide +kernel
theorem dX4_headNow_80 : decode cX4_headNow 80 = .ok (.iload_n 2, 1) := by decide +kernel
theorem dX4_headNow_81 : decode cX4_headNow 81 = .ok (.iaload, 1) := by decide +kernel
theorem dX4_headNow_82 : decode cX4_headNow 82 = .ok (.iaload, 1) := by decide +kernel
theorem dX4_headNow_83 : decode cX4_headNow 83 = .ok (.ireturn, 1) := by decide +kernel
theorem dX4_findName_0 : decode cX4_findName 0 = .ok (.aload_n 0, 1) := by decide +kernel
theorem dX4_findName_1 : decode cX4_findName 1 = .ok (.getfield 32, 3) := by decide +kernel
theorem dX4_findName_4 : decode cX4_findName 4 = .ok (.iload_n 1, 1) := by decide +kernel
theorem dX4_findName_5 : decode cX4_findName 5 = .ok (.iconst 0, 1) := by decide +kernel
theorem dX4_findName_6 : decode cX4_findName 6 = .ok (.iastore, 1) := by decide +kernel
theorem dX4_findName_7 : decode cX4_findName 7 = .ok (.aload_n 0, 1) := by decide +kernel
theorem dX4_findName_8 : decode cX4_findName 8 = .ok (.getfield 35, 3) := by decide +kernel
theorem dX4_findName_11 : decode cX4_findName 11 = .ok (.iload_n 1, 1) := by decide +kernel
theorem dX4_findName_12 : decode cX4_findName 12 = .ok (.lconst 1, 1) := by decide +kernel
theorem dX4_findName_13 : decode cX4_findName 13 = .ok (.lastore, 1) := by decide +kernel
theorem dX4_findName_14 : decode cX4_findName 14 = .ok (.aload_n 0, 1) := by decide +kernel
theorem dX4_findName_15 : decode cX4_findName 15 = .ok (.getfield 39, 3) := by decide +kernel
theorem dX4_findName_18 : decode cX4_findName 18 = .ok (.iconst 2, 1) := by decide +kernel
theorem dX4_findName_19 : decode cX4_findName 19 = .ok (.iload_n 1, 1) := by decide +kernel
theorem dX4_findName_20 : decode cX4_findName 20 = .ok (.imul, 1) := by decide +kernel
theorem dX4_findName_21 : decode cX4_findName 21 = .ok (.lconst 1, 1) := by decide +kernel
theorem dX4_findName_22 : decode cX4_findName 22 = .ok (.lastore, 1) := by decide +kernel
theorem dX4_findName_23 : decode cX4_findName 23 = .ok (.aload_n 0, 1) := by decide +kernel
theorem dX4_findName_24 : decode cX4_findName 24 = .ok (.getfield 39, 3) := by decide +kernel
theorem dX4_findName_27 : decode cX4_findName 27 = .ok (.iconst 2, 1) := by decide +kernel
theorem dX4_findName_28 : decode cX4_findName 28 = .ok (.iload_n 1, 1) := by decide +kernel
theorem dX4_findName_29 : decode cX4_findName 29 = .ok (.imul, 1) := by decide +kernel
theorem dX4_findName_30 : decode cX4_findName 30 = .ok (.iconst 1, 1) := by decide +kernel
theorem dX4_findName_31 : decode cX4_findName 31 = .ok (.iadd, 1) := by decide +kernel
theorem dX4_findName_32 : decode cX4_findName 32 = .ok (.lconst 1, 1) := by decide +kernel
theorem dX4_findName_33 : decode cX4_findName 33 = .ok (.lastore, 1) := by decide +kernel
theorem dX4_findName_34 : decode cX4_findName 34 = .ok (.aload_n 0, 1) := by decide +kernel
theorem dX4_findName_35 : decode cX4_findName 35 = .ok (.getfield 42, 3) := by decide +kernel
theorem dX4_findName_38 : decode cX4_findName 38 = .ok (.iload_n 1, 1) := by decide +kernel
theorem dX4_findName_39 : decode cX4_findName 39 = .ok (.lconst 0, 1) := by decide +kernel
theorem dX4_findName_40 : decode cX4_findName 40 = .ok (.lastore, 1) := by decide +kernel
theorem dX4_findName_41 : decode cX4_findName 41 = .ok (.aload_n 0, 1) := by decide +kernel
theorem dX4_findName_42 : decode cX4_findName 42 = .ok (.getfield 45, 3) := by decide +kernel
theorem dX4_findName_45 : decode cX4_findName 45 = .ok (.iload_n 1, 1) := by decide +kernel
theorem dX4_findName_46 : decode cX4_findName 46 = .ok (.iload_n 1, 1) := by decide +kernel
theorem dX4_findName_47 : decode cX4_findName 47 = .ok (.iastore, 1) := by decide +kernel
theorem dX4_findName_48 : decode cX4_findName 48 = .ok (.aload_n 0, 1) := by decide +kernel
theorem dX4_findName_49 : decode cX4_findName 49 = .ok (.iload_n 1, 1) := by decide +kernel
theorem dX4_findName_50 : decode cX4_findName 50 = .ok (.invokevirtual 139, 3) := by decide +kernel
theorem dX4_findName_53 : decode cX4_findName 53 = .ok (.ifCond .ne 4, 3) := by decide +kernel
theorem dX4_findName_56 : decode cX4_findName 56 = .ok (.return_, 1) := by decide +kernel
theorem dX4_findName_57 : decode cX4_findName 57 = .ok (.aload_n 0, 1) := by decide +kernel
theorem dX4_findName_58 : decode cX4_findName 58 = .ok (.getfield 13, 3) := by decide +kernel
theorem dX4_findName_61 : decode cX4_findName 61 = .ok (.iload_n 1, 1) := by decide +kernel
theorem dX4_findName_62 : decode cX4_findName 62 = .ok (.iaload, 1) := by decide +kernel
theorem dX4_findName_63 : decode cX4_findName 63 = .ok (.istore_n 2, 1) := by decide +kernel
theorem dX4_findName_64 : decode cX4_findName 64 = .ok (.aload_n 0, 1) := by decide +kernel
theorem dX4_findName_65 : decode cX4_findName 65 = .ok (.iload_n 2, 1) := by decide +kernel
theorem dX4_findName_66 : decode cX4_findName 66 = .ok (.invokevirtual 121, 3) := by decide +kernel
theorem dX4_findName_69 : decode cX4_findName 69 = .ok (.iconst 0, 1) := by decide +kernel
theorem dX4_findName_70 : decode cX4_findName 70 = .ok (.istore_n 3, 1) := by decide +kernel
theorem dX4_findName_71 : decode cX4_findName 71 = .ok (.aload_n 0, 1) := by decide +kernel
theorem dX4_findName_72 : decode cX4_findName 72 = .ok (.getfield 114, 3) := by decide +kernel
theorem dX4_findName_75 : decode cX4_findName 75 = .ok (.iconst 1, 1) := by decide +kernel
theorem dX4_findName_76 : decode cX4_findName 76 = .ok (.isub, 1) := by decide +kernel
theorem dX4_findName_77 : decode cX4_findName 77 = .ok (.istore 4, 2) := by decide +kernel
theorem dX4_findName_79 : decode cX4_findName 79 = .ok (.iload 4, 2) := by decide +kernel
theorem dX4_findName_81 : decode cX4_findName 81 = .ok (.ifCond .lt 64, 3) := by decide +kernel
theorem dX4_findName_84 : decode cX4_findName 84 = .ok (.aload_n 0, 1) := by decide +kernel
theorem dX4_findName_85 : decode cX4_findName 85 = .ok (.getfield 20, 3) := by decide +kernel
theorem dX4_findName_88 : decode cX4_findName 88 = .ok (.aload_n 0, 1) := by decide +kernel
theorem dX4_findName_89 : decode cX4_findName 89 = .ok (.getfield 29, 3) := by decide +kernel
theorem dX4_findName_92 : decode cX4_findName 92 = .ok (.iload 4, 2) := by decide +kernel
theorem dX4_findName_94 : decode cX4_findName 94 = .ok (.iaload, 1) := by decide +kernel
theorem dX4_findName_95 : decode cX4_findName 95 = .ok (.iaload, 1) := by decide +kernel
theorem dX4_findName_96 : decode cX4_findName 96 = .ok (.istore 5, 2) := by decide +kernel
theorem dX4_findName_98 : decode cX4_findName 98 = .ok (.iload 5, 2) := by decide +kernel
theorem dX4_findName_100 : decode cX4_findName 100 = .ok (.bipush 100, 2) := by decide +kernel
theorem dX4_findName_102 : decode cX4_findName 102 = .ok (.if_icmp .ge 24, 3) := by decide +kernel
theorem dX4_findName_105 : decode cX4_findName 105 = .ok (.aload_n 0, 1) := by decide +kernel
theorem dX4_findName_106 : decode cX4_findName 106 = .ok (.getfield 32, 3) := by decide +kernel
theorem dX4_findName_109 : decode cX4_findName 109 = .ok (.iload 5, 2) := by decide +kernel
theorem dX4_findName_111 : decode cX4_findName 111 = .ok (.iaload, 1) := by decide +kernel
theorem dX4_findName_112 : decode cX4_findName 112 = .ok (.iload_n 3, 1) := by decide +kernel
theorem dX4_findName_113 : decode cX4_findName 113 = .ok (.if_icmp .le 13, 3) := by decide +kernel
theorem dX4_findName_116 : decode cX4_findName 116 = .ok (.aload_n 0, 1) := by decide +kernel
theorem dX4_findName_117 : decode cX4_findName 117 = .ok (.getfield 32, 3) := by decide +kernel
theorem dX4_findName_120 : decode cX4_findName 120 = .ok (.iload 5, 2) := by decide +kernel
theorem dX4_findName_122 : decode cX4_findName 122 = .ok (.iaload, 1) := by decide +kernel
theorem dX4_findName_123 : decode cX4_findName 123 = .ok (.goto 4, 3) := by decide +kernel
theorem dX4_findName_126 : decode cX4_findName 126 = .ok (.iload_n 3, 1) := by decide +kernel
theorem dX4_findName_127 : decode cX4_findName 127 = .ok (.istore_n 3, 1) := by decide +kernel
theorem dX4_findName_128 : decode cX4_findName 128 = .ok (.aload_n 0, 1) := by decide +kernel
theorem dX4_findName_129 : decode cX4_findName 129 = .ok (.aload_n 0, 1) := by decide +kernel
theorem dX4_findName_130 : decode cX4_findName 130 = .ok (.getfield 29, 3) := by decide +kernel
theorem dX4_findName_133 : decode cX4_findName 133 = .ok (.iload 4, 2) := by decide +kernel
theorem dX4_findName_135 : decode cX4_findName 135 = .ok (.iaload, 1) := by decide +kernel
theorem dX4_findName_136 : decode cX4_findName 136 = .ok (.invokevirtual 142, 3) := by decide +kernel
theorem dX4_findName_139 : decode cX4_findName 139 = .ok (.iinc 4 (-1), 3) := by decide +kernel
theorem dX4_findName_142 : decode cX4_findName 142 = .ok (.goto (-63), 3) := by decide +kernel
theorem dX4_findName_145 : decode cX4_findName 145 = .ok (.aload_n 0, 1) := by decide +kernel
theorem dX4_findName_146 : decode cX4_findName 146 = .ok (.getfield 32, 3) := by decide +kernel
theorem dX4_findName_149 : decode cX4_findName 149 = .ok (.iload_n 1, 1) := by decide +kernel
theorem dX4_findName_150 : decode cX4_findName 150 = .ok (.iconst 1, 1) := by decide +kernel
theorem dX4_findName_151 : decode cX4_findName 151 = .ok (.iload_n 3, 1) := by decide +kernel
theorem dX4_findName_152 : decode cX4_findName 152 = .ok (.iadd, 1) := by decide +kernel
theorem dX4_findName_153 : decode cX4_findName 153 = .ok (.iastore, 1) := by decide +kernel
theorem dX4_findName_154 : decode cX4_findName 154 = .ok (.aload_n 0, 1) := by decide +kernel
theorem dX4_findName_155 : decode cX4_findName 155 = .ok (.getfield 35, 3) := by decide +kernel
theorem dX4_findName_158 : decode cX4_findName 158 = .ok (.iload_n 1, 1) := by decide +kernel
theorem dX4_findName_159 : decode cX4_findName 159 = .ok (.aload_n 0, 1) := by decide +kernel
theorem dX4_findName_160 : decode cX4_findName 160 = .ok (.getfield 48, 3) := by decide +kernel
theorem dX4_findName_163 : decode cX4_findName 163 = .ok (.iload_n 2, 1) := by decide +kernel
theorem dX4_findName_164 : decode cX4_findName 164 = .ok (.laload, 1) := by decide +kernel
theorem dX4_findName_165 : decode cX4_findName 165 = .ok (.lastore, 1) := by decide +kernel
theorem dX4_findName_166 : decode cX4_findName 166 = .ok (.aload_n 0, 1) := by decide +kernel
theorem dX4_findName_167 : decode cX4_findName 167 = .ok (.getfield 39, 3) := by decide +kernel
theorem dX4_findName_170 : decode cX4_findName 170 = .ok (.iconst 2, 1) := by decide +kernel
theorem dX4_findName_171 : decode cX4_findName 171 = .ok (.iload_n 1, 1) := by decide +kernel
theorem dX4_findName_172 : decode cX4_findName 172 = .ok (.imul, 1) := by decide +kernel
theorem dX4_findName_173 : decode cX4_findName 173 = .ok (.aload_n 0, 1) := by decide +kernel
theorem dX4_findName_174 : decode cX4_findName 174 = .ok (.getfield 51, 3) := by decide +kernel
theorem dX4_findName_177 : decode cX4_findName 177 = .ok (.iconst 2, 1) := by decide +kernel
theorem dX4_findName_178 : decode cX4_findName 178 = .ok (.iload_n 2, 1) := by decide +kernel
theorem dX4_findName_179 : decode cX4_findName 179 = .ok (.imul, 1) := by decide +kernel
theorem dX4_findName_180 : decode cX4_findName 180 = .ok (.laload, 1) := by decide +kernel
theorem dX4_findName_181 : decode cX4_findName 181 = .ok (.lastore, 1) := by decide +kernel
theorem dX4_findName_182 : decode cX4_findName 182 = .ok (.aload_n 0, 1) := by decide +kernel
theorem dX4_findName_183 : decode cX4_findName 183 = .ok (.getfield 39, 3) := by decide +kernel
theorem dX4_findName_186 : decode cX4_findName 186 = .ok (.iconst 2, 1) := by decide +kernel
theorem dX4_findName_187 : decode cX4_findName 187 = .ok (.iload_n 1, 1) := by decide +kernel
theorem dX4_findName_188 : decode cX4_findName 188 = .ok (.imul, 1) := by decide +kernel
theorem dX4_findName_189 : decode cX4_findName 189 = .ok (.iconst 1, 1) := by decide +kernel
theorem dX4_findName_190 : decode cX4_findName 190 = .ok (.iadd, 1) := by decide +kernel
theorem dX4_findName_191 : decode cX4_findName 191 = .ok (.aload_n 0, 1) := by decide +kernel
theorem dX4_findName_192 : decode cX4_findName 192 = .ok (.getfield 51, 3) := by decide +kernel
theorem dX4_findName_195 : decode cX4_findName 195 = .ok (.iconst 2, 1) := by decide +kernel
theorem dX4_findName_196 : decode cX4_findName 196 = .ok (.iload_n 2, 1) := by decide +kernel
theorem dX4_findName_197 : decode cX4_findName 197 = .ok (.imul, 1) := by decide +kernel
theorem dX4_findName_198 : decode cX4_findName 198 = .ok (.iconst 1, 1) := by decide +kernel
theorem dX4_findName_199 : decode cX4_findName 199 = .ok (.iadd, 1) := by decide +kernel
theorem dX4_findName_200 : decode cX4_findName 200 = .ok (.laload, 1) := by decide +kernel
theorem dX4_findName_201 : decode cX4_findName 201 = .ok (.lastore, 1) := by decide +kernel
theorem dX4_findName_202 : decode cX4_findName 202 = .ok (.aload_n 0, 1) := by decide +kernel
theorem dX4_findName_203 : decode cX4_findName 203 = .ok (.getfield 42, 3) := by decide +kernel
theorem dX4_findName_206 : decode cX4_findName 206 = .ok (.iload_n 1, 1) := by decide +kernel
theorem dX4_findName_207 : decode cX4_findName 207 = .ok (.lconst 1, 1) := by decide +kernel
theorem dX4_findName_208 : decode cX4_findName 208 = .ok (.aload_n 0, 1) := by decide +kernel
theorem dX4_findName_209 : decode cX4_findName 209 = .ok (.getfield 54, 3) := by decide +kernel
theorem dX4_findName_212 : decode cX4_findName 212 = .ok (.iload_n 2, 1) := by decide +kernel
theorem dX4_findName_213 : decode cX4_findName 213 = .ok (.laload, 1) := by decide +kernel
theorem dX4_findName_214 : decode cX4_findName 214 = .ok (.ladd, 1) := by decide +kernel
theorem dX4_findName_215 : decode cX4_findName 215 = .ok (.invokestatic 131, 3) := by decide +kernel
theorem dX4_findName_218 : decode cX4_findName 218 = .ok (.lastore, 1) := by decide +kernel
theorem dX4_findName_219 : decode cX4_findName 219 = .ok (.aload_n 0, 1) := by decide +kernel
theorem dX4_findName_220 : decode cX4_findName 220 = .ok (.getfield 45, 3) := by decide +kernel
theorem dX4_findName_223 : decode cX4_findName 223 = .ok (.iload_n 1, 1) := by decide +kernel
theorem dX4_findName_224 : decode cX4_findName 224 = .ok (.aload_n 0, 1) := by decide +kernel
theorem dX4_findName_225 : decode cX4_findName 225 = .ok (.iload_n 2, 1) := by decide +kernel
theorem dX4_findName_226 : decode cX4_findName 226 = .ok (.invokevirtual 145, 3) := by decide +kernel
theorem dX4_findName_229 : decode cX4_findName 229 = .ok (.iastore, 1) := by decide +kernel
theorem dX4_findName_230 : decode cX4_findName 230 = .ok (.return_, 1) := by decide +kernel
theorem dX4_findNames_0 : decode cX4_findNames 0 = .ok (.iconst 0, 1) := by decide +kernel
theorem dX4_findNames_1 : decode cX4_findNames 1 = .ok (.istore_n 1, 1) := by decide +kernel
theorem dX4_findNames_2 : decode cX4_findNames 2 = .ok (.iload_n 1, 1) := by decide +kernel
theorem dX4_findNames_3 : decode cX4_findNames 3 = .ok (.aload_n 0, 1) := by decide +kernel
theorem dX4_findNames_4 : decode cX4_findNames 4 = .ok (.getfield 76, 3) := by decide +kernel
theorem dX4_findNames_7 : decode cX4_findNames 7 = .ok (.if_icmp .ge 14, 3) := by decide +kernel
theorem dX4_findNames_10 : decode cX4_findNames 10 = .ok (.aload_n 0, 1) := by decide +kernel
theorem dX4_findNames_11 : decode cX4_findNames 11 = .ok (.iload_n 1, 1) := by decide +kernel
theorem dX4_findNames_12 : decode cX4_findNames 12 = .ok (.invokevirtual 148, 3) := by decide +kernel
theorem dX4_findNames_15 : decode cX4_findNames 15 = .ok (.iinc 1 1, 3) := by decide +kernel
theorem dX4_findNames_18 : decode cX4_findNames 18 = .ok (.goto (-16), 3) := by decide +kernel
theorem dX4_findNames_21 : decode cX4_findNames 21 = .ok (.return_, 1) := by decide +kernel
theorem dX4_ofName_0 : decode cX4_ofName 0 = .ok (.aload_n 0, 1) := by decide +kernel
theorem dX4_ofName_1 : decode cX4_ofName 1 = .ok (.iload_n 1, 1) := by decide +kernel
theorem dX4_ofName_2 : decode cX4_ofName 2 = .ok (.invokevirtual 107, 3) := by decide +kernel
theorem dX4_ofName_5 : decode cX4_ofName 5 = .ok (.ifCond .ne 5, 3) := by decide +kernel
theorem dX4_ofName_8 : decode cX4_ofName 8 = .ok (.iconst (-1), 1) := by decide +kernel
theorem dX4_ofName_9 : decode cX4_ofName 9 = .ok (.ireturn, 1) := by decide +kernel
theorem dX4_ofName_10 : decode cX4_ofName 10 = .ok (.aload_n 0, 1) := by decide +kernel
theorem dX4_ofName_11 : decode cX4_ofName 11 = .ok (.invokevirtual 151, 3) := by decide +kernel
theorem dX4_ofName_14 : decode cX4_ofName 14 = .ok (.iload_n 2, 1) := by decide +kernel
theorem dX4_ofName_15 : decode cX4_ofName 15 = .ok (.tableswitch 65 0 3 #[29, 36, 43, 58], 29) := by decide +kernel
theorem dX4_ofName_44 : decode cX4_ofName 44 = .ok (.aload_n 0, 1) := by decide +kernel
theorem dX4_ofName_45 : decode cX4_ofName 45 = .ok (.getfield 7, 3) := by decide +kernel
theorem dX4_ofName_48 : decode cX4_ofName 48 = .ok (.iload_n 1, 1) := by decide +kernel
theorem dX4_ofName_49 : decode cX4_ofName 49 = .ok (.iaload, 1) := by decide +kernel
theorem dX4_ofName_50 : decode cX4_ofName 50 = .ok (.ireturn, 1) := by decide +kernel
theorem dX4_ofName_51 : decode cX4_ofName 51 = .ok (.aload_n 0, 1) := by decide +kernel
theorem dX4_ofName_52 : decode cX4_ofName 52 = .ok (.getfield 13, 3) := by decide +kernel
theorem dX4_ofName_55 : decode cX4_ofName 55 = .ok (.iload_n 1, 1) := by decide +kernel
theorem dX4_ofName_56 : decode cX4_ofName 56 = .ok (.iaload, 1) := by decide +kernel
theorem dX4_ofName_57 : decode cX4_ofName 57 = .ok (.ireturn, 1) := by decide +kernel
theorem dX4_ofName_58 : decode cX4_ofName 58 = .ok (.aload_n 0, 1) := by decide +kernel
theorem dX4_ofName_59 : decode cX4_ofName 59 = .ok (.getfield 16, 3) := by decide +kernel
theorem dX4_ofName_62 : decode cX4_ofName 62 = .ok (.iload_n 1, 1) := by decide +kernel
theorem dX4_ofName_63 : decode cX4_ofName 63 = .ok (.baload, 1) := by decide +kernel
theorem dX4_ofName_64 : decode cX4_ofName 64 = .ok (.ifCond .eq 7, 3) := by decide +kernel
theorem dX4_ofName_67 : decode cX4_ofName 67 = .ok (.iconst 1, 1) := by decide +kernel
theorem dX4_ofName_68 : decode cX4_ofName 68 = .ok (.goto 4, 3) := by decide +kernel
theorem dX4_ofName_71 : decode cX4_ofName 71 = .ok (.iconst 0, 1) := by decide +kernel
theorem dX4_ofName_72 : decode cX4_ofName 72 = .ok (.ireturn, 1) := by decide +kernel
theorem dX4_ofName_73 : decode cX4_ofName 73 = .ok (.aload_n 0, 1) := by decide +kernel
theorem dX4_ofName_74 : decode cX4_ofName 74 = .ok (.getfield 32, 3) := by decide +kernel
theorem dX4_ofName_77 : decode cX4_ofName 77 = .ok (.iload_n 1, 1) := by decide +kernel
theorem dX4_ofName_78 : decode cX4_ofName 78 = .ok (.iaload, 1) := by decide +kernel
theorem dX4_ofName_79 : decode cX4_ofName 79 = .ok (.ireturn, 1) := by decide +kernel
theorem dX4_ofName_80 : decode cX4_ofName 80 = .ok (.bipush (-2), 2) := by decide +kernel
theorem dX4_ofName_82 : decode cX4_ofName 82 = .ok (.ireturn, 1) := by decide +kernel
theorem dX4_ofTerm_0 : decode cX4_ofTerm 0 = .ok (.aload_n 0, 1) := by decide +kernel
theorem dX4_ofTerm_1 : decode cX4_ofTerm 1 = .ok (.iload_n 1, 1) := by decide +kernel
theorem dX4_ofTerm_2 : decode cX4_ofTerm 2 = .ok (.invokevirtual 111, 3) := by decide +kernel
theorem dX4_ofTerm_5 : decode cX4_ofTerm 5 = .ok (.ifCond .ne 5, 3) := by decide +kernel
theorem dX4_ofTerm_8 : decode cX4_ofTerm 8 = .ok (.iconst (-1), 1) := by decide +kernel
theorem dX4_ofTerm_9 : decode cX4_ofTerm 9 = .ok (.ireturn, 1) := by decide +kernel
theorem dX4_ofTerm_10 : decode cX4_ofTerm 10 = .ok (.iload_n 2, 1) := by decide +kernel
theorem dX4_ofTerm_11 : decode cX4_ofTerm 11 = .ok (.tableswitch 121 0 5 #[37, 60, 67, 74, 100, 114], 37) := by decide +kernel
theorem dX4_ofTerm_48 : decode cX4_ofTerm 48 = .ok (.aload_n 0, 1) := by decide +kernel
theorem dX4_ofTerm_49 : decode cX4_ofTerm 49 = .ok (.getfield 20, 3) := by decide +kernel
theorem dX4_ofTerm_52 : decode cX4_ofTerm 52 = .ok (.iload_n 1, 1) := by decide +kernel
theorem dX4_ofTerm_53 : decode cX4_ofTerm 53 = .ok (.iaload, 1) := by decide +kernel
theorem dX4_ofTerm_54 : decode cX4_ofTerm 54 = .ok (.bipush 100, 2) := by decide +kernel
theorem dX4_ofTerm_56 : decode cX4_ofTerm 56 = .ok (.if_icmp .ge 12, 3) := by decide +kernel
theorem dX4_ofTerm_59 : decode cX4_ofTerm 59 = .ok (.aload_n 0, 1) := by decide +kernel
theorem dX4_ofTerm_60 : decode cX4_ofTerm 60 = .ok (.getfield 20, 3) := by decide +kernel
theorem dX4_ofTerm_63 : decode cX4_ofTerm 63 = .ok (.iload_n 1, 1) := by decide +kernel
theorem dX4_ofTerm_64 : decode cX4_ofTerm 64 = .ok (.iaload, 1) := by decide +kernel
theorem dX4_ofTerm_65 : decode cX4_ofTerm 65 = .ok (.goto 5, 3) := by decide +kernel
theorem dX4_ofTerm_68 : decode cX4_ofTerm 68 = .ok (.bipush (-9), 2) := by decide +kernel
theorem dX4_ofTerm_70 : decode cX4_ofTerm 70 = .ok (.ireturn, 1) := by decide +kernel
theorem dX4_ofTerm_71 : decode cX4_ofTerm 71 = .ok (.aload_n 0, 1) := by decide +kernel
theorem dX4_ofTerm_72 : decode cX4_ofTerm 72 = .ok (.iload_n 1, 1) := by decide +kernel
theorem dX4_ofTerm_73 : decode cX4_ofTerm 73 = .ok (.iconst 0, 1) := by decide +kernel
theorem dX4_ofTerm_74 : decode cX4_ofTerm 74 = .ok (.invokevirtual 90, 3) := by decide +kernel
theorem dX4_ofTerm_77 : decode cX4_ofTerm 77 = .ok (.ireturn, 1) := by decide +kernel
theorem dX4_ofTerm_78 : decode cX4_ofTerm 78 = .ok (.aload_n 0, 1) := by decide +kernel
theorem dX4_ofTerm_79 : decode cX4_ofTerm 79 = .ok (.iload_n 1, 1) := by decide +kernel
theorem dX4_ofTerm_80 : decode cX4_ofTerm 80 = .ok (.iconst 1, 1) := by decide +kernel
theorem dX4_ofTerm_81 : decode cX4_ofTerm 81 = .ok (.invokevirtual 90, 3) := by decide +kernel
theorem dX4_ofTerm_84 : decode cX4_ofTerm 84 = .ok (.ireturn, 1) := by decide +kernel
theorem dX4_ofTerm_85 : decode cX4_ofTerm 85 = .ok (.aload_n 0, 1) := by decide +kernel
theorem dX4_ofTerm_86 : decode cX4_ofTerm 86 = .ok (.getfield 20, 3) := by decide +kernel
theorem dX4_ofTerm_89 : decode cX4_ofTerm 89 = .ok (.iload_n 1, 1) := by decide +kernel
theorem dX4_ofTerm_90 : decode cX4_ofTerm 90 = .ok (.iaload, 1) := by decide +kernel
theorem dX4_ofTerm_91 : decode cX4_ofTerm 91 = .ok (.bipush 100, 2) := by decide +kernel
theorem dX4_ofTerm_93 : decode cX4_ofTerm 93 = .ok (.if_icmp .ge 8, 3) := by decide +kernel
theorem dX4_ofTerm_96 : decode cX4_ofTerm 96 = .ok (.bipush (-9), 2) := by decide +kernel
theorem dX4_ofTerm_98 : decode cX4_ofTerm 98 = .ok (.goto 12, 3) := by decide +kernel
theorem dX4_ofTerm_101 : decode cX4_ofTerm 101 = .ok (.aload_n 0, 1) := by decide +kernel
theorem dX4_ofTerm_102 : decode cX4_ofTerm 102 = .ok (.getfield 20, 3) := by decide +kernel
theorem dX4_ofTerm_105 : decode cX4_ofTerm 105 = .ok (.iload_n 1, 1) := by decide +kernel
theorem dX4_ofTerm_106 : decode cX4_ofTerm 106 = .ok (.iaload, 1) := by decide +kernel
theorem dX4_ofTerm_107 : decode cX4_ofTerm 107 = .ok (.bipush 100, 2) := by decide +kernel
theorem dX4_ofTerm_109 : decode cX4_ofTerm 109 = .ok (.isub, 1) := by decide +kernel
theorem dX4_ofTerm_110 : decode cX4_ofTerm 110 = .ok (.ireturn, 1) := by decide +kernel
theorem dX4_ofTerm_111 : decode cX4_ofTerm 111 = .ok (.aload_n 0, 1) := by decide +kernel
theorem dX4_ofTerm_112 : decode cX4_ofTerm 112 = .ok (.iload_n 1, 1) := by decide +kernel
theorem dX4_ofTerm_113 : decode cX4_ofTerm 113 = .ok (.invokevirtual 154, 3) := by decide +kernel
theorem dX4_ofTerm_116 : decode cX4_ofTerm 116 = .ok (.ifCond .eq 7, 3) := by decide +kernel
theorem dX4_ofTerm_119 : decode cX4_ofTerm 119 = .ok (.iconst 1, 1) := by decide +kernel
theorem dX4_ofTerm_120 : decode cX4_ofTerm 120 = .ok (.goto 4, 3) := by decide +kernel
theorem dX4_ofTerm_123 : decode cX4_ofTerm 123 = .ok (.iconst 0, 1) := by decide +kernel
theorem dX4_ofTerm_124 : decode cX4_ofTerm 124 = .ok (.ireturn, 1) := by decide +kernel
theorem dX4_ofTerm_125 : decode cX4_ofTerm 125 = .ok (.aload_n 0, 1) := by decide +kernel
theorem dX4_ofTerm_126 : decode cX4_ofTerm 126 = .ok (.getfield 26, 3) := by decide +kernel
theorem dX4_ofTerm_129 : decode cX4_ofTerm 129 = .ok (.iload_n 1, 1) := by decide +kernel
theorem dX4_ofTerm_130 : decode cX4_ofTerm 130 = .ok (.iaload, 1) := by decide +kernel
theorem dX4_ofTerm_131 : decode cX4_ofTerm 131 = .ok (.ireturn, 1) := by decide +kernel
theorem dX4_ofTerm_132 : decode cX4_ofTerm 132 = .ok (.bipush (-2), 2) := by decide +kernel
theorem dX4_ofTerm_134 : decode cX4_ofTerm 134 = .ok (.ireturn, 1) := by decide +kernel
theorem dX4_plainSize_0 : decode cX4_plainSize 0 = .ok (.aload_n 0, 1) := by decide +kernel
theorem dX4_plainSize_1 : decode cX4_plainSize 1 = .ok (.iload_n 1, 1) := by decide +kernel
theorem dX4_plainSize_2 : decode cX4_plainSize 2 = .ok (.invokevirtual 121, 3) := by decide +kernel
theorem dX4_plainSize_5 : decode cX4_plainSize 5 = .ok (.aload_n 0, 1) := by decide +kernel
theorem dX4_plainSize_6 : decode cX4_plainSize 6 = .ok (.getfield 114, 3) := by decide +kernel
theorem dX4_plainSize_9 : decode cX4_plainSize 9 = .ok (.ireturn, 1) := by decide +kernel
theorem dX4_unfoldedSize_0 : decode cX4_unfoldedSize 0 = .ok (.aload_n 0, 1) := by decide +kernel
theorem dX4_unfoldedSize_1 : decode cX4_unfoldedSize 1 = .ok (.getfield 20, 3) := by decide +kernel
theorem dX4_unfoldedSize_4 : decode cX4_unfoldedSize 4 = .ok (.iload_n 1, 1) := by decide +kernel
theorem dX4_unfoldedSize_5 : decode cX4_unfoldedSize 5 = .ok (.iaload, 1) := by decide +kernel
theorem dX4_unfoldedSize_6 : decode cX4_unfoldedSize 6 = .ok (.bipush 100, 2) := by decide +kernel
theorem dX4_unfoldedSize_8 : decode cX4_unfoldedSize 8 = .ok (.if_icmp .ge 16, 3) := by decide +kernel
theorem dX4_unfoldedSize_11 : decode cX4_unfoldedSize 11 = .ok (.aload_n 0, 1) := by decide +kernel
theorem dX4_unfoldedSize_12 : decode cX4_unfoldedSize 12 = .ok (.aload_n 0, 1) := by decide +kernel
theorem dX4_unfoldedSize_13 : decode cX4_unfoldedSize 13 = .ok (.getfield 20, 3) := by decide +kernel
theorem dX4_unfoldedSize_16 : decode cX4_unfoldedSize 16 = .ok (.iload_n 1, 1) := by decide +kernel
theorem dX4_unfoldedSize_17 : decode cX4_unfoldedSize 17 = .ok (.iaload, 1) := by decide +kernel
theorem dX4_unfoldedSize_18 : decode cX4_unfoldedSize 18 = .ok (.invokevirtual 139, 3) := by decide +kernel
theorem dX4_unfoldedSize_21 : decode cX4_unfoldedSize 21 = .ok (.ifCond .ne 5, 3) := by decide +kernel
theorem dX4_unfoldedSize_24 : decode cX4_unfoldedSize 24 = .ok (.lconst 0, 1) := by decide +kernel
theorem dX4_unfoldedSize_25 : decode cX4_unfoldedSize 25 = .ok (.lreturn, 1) := by decide +kernel
theorem dX4_unfoldedSize_26 : decode cX4_unfoldedSize 26 = .ok (.aload_n 0, 1) := by decide +kernel
theorem dX4_unfoldedSize_27 : decode cX4_unfoldedSize 27 = .ok (.getfield 7, 3) := by decide +kernel
theorem dX4_unfoldedSize_30 : decode cX4_unfoldedSize 30 = .ok (.aload_n 0, 1) := by decide +kernel
theorem dX4_unfoldedSize_31 : decode cX4_unfoldedSize 31 = .ok (.getfield 20, 3) := by decide +kernel
theorem dX4_unfoldedSize_34 : decode cX4_unfoldedSize 34 = .ok (.iload_n 1, 1) := by decide +kernel
theorem dX4_unfoldedSize_35 : decode cX4_unfoldedSize 35 = .ok (.iaload, 1) := by decide +kernel
theorem dX4_unfoldedSize_36 : decode cX4_unfoldedSize 36 = .ok (.iaload, 1) := by decide +kernel
theorem dX4_unfoldedSize_37 : decode cX4_unfoldedSize 37 = .ok (.ifCond .le 16, 3) := by decide +kernel
theorem dX4_unfoldedSize_40 : decode cX4_unfoldedSize 40 = .ok (.aload_n 0, 1) := by decide +kernel
theorem dX4_unfoldedSize_41 : decode cX4_unfoldedSize 41 = .ok (.aload_n 0, 1) := by decide +kernel
theorem dX4_unfoldedSize_42 : decode cX4_unfoldedSize 42 = .ok (.iload_n 1, 1) := by decide +kernel
theorem dX4_unfoldedSize_43 : decode cX4_unfoldedSize 43 = .ok (.iconst 0, 1) := by decide +kernel
theorem dX4_unfoldedSize_44 : decode cX4_unfoldedSize 44 = .ok (.invokevirtual 90, 3) := by decide +kernel
theorem dX4_unfoldedSize_47 : decode cX4_unfoldedSize 47 = .ok (.invokevirtual 157, 3) := by decide +kernel
theorem dX4_unfoldedSize_50 : decode cX4_unfoldedSize 50 = .ok (.goto 4, 3) := by decide +kernel
theorem dX4_unfoldedSize_53 : decode cX4_unfoldedSize 53 = .ok (.iconst 0, 1) := by decide +kernel
theorem dX4_unfoldedSize_54 : decode cX4_unfoldedSize 54 = .ok (.istore_n 2, 1) := by decide +kernel
theorem dX4_unfoldedSize_55 : decode cX4_unfoldedSize 55 = .ok (.aload_n 0, 1) := by decide +kernel
theorem dX4_unfoldedSize_56 : decode cX4_unfoldedSize 56 = .ok (.getfield 7, 3) := by decide +kernel
theorem dX4_unfoldedSize_59 : decode cX4_unfoldedSize 59 = .ok (.aload_n 0, 1) := by decide +kernel
theorem dX4_unfoldedSize_60 : decode cX4_unfoldedSize 60 = .ok (.getfield 20, 3) := by decide +kernel
theorem dX4_unfoldedSize_63 : decode cX4_unfoldedSize 63 = .ok (.iload_n 1, 1) := by decide +kernel
theorem dX4_unfoldedSize_64 : decode cX4_unfoldedSize 64 = .ok (.iaload, 1) := by decide +kernel
theorem dX4_unfoldedSize_65 : decode cX4_unfoldedSize 65 = .ok (.iaload, 1) := by decide +kernel
theorem dX4_unfoldedSize_66 : decode cX4_unfoldedSize 66 = .ok (.iconst 1, 1) := by decide +kernel
theorem dX4_unfoldedSize_67 : decode cX4_unfoldedSize 67 = .ok (.if_icmp .le 16, 3) := by decide +kernel
theorem dX4_unfoldedSize_70 : decode cX4_unfoldedSize 70 = .ok (.aload_n 0, 1) := by decide +kernel
theorem dX4_unfoldedSize_71 : decode cX4_unfoldedSize 71 = .ok (.aload_n 0, 1) := by decide +kernel
theorem dX4_unfoldedSize_72 : decode cX4_unfoldedSize 72 = .ok (.iload_n 1, 1) := by decide +kernel
theorem dX4_unfoldedSize_73 : decode cX4_unfoldedSize 73 = .ok (.iconst 1, 1) := by decide +kernel
theorem dX4_unfoldedSize_74 : decode cX4_unfoldedSize 74 = .ok (.invokevirtual 90, 3) := by decide +kernel
theorem dX4_unfoldedSize_77 : decode cX4_unfoldedSize 77 = .ok (.invokevirtual 157, 3) := by decide +kernel
theorem dX4_unfoldedSize_80 : decode cX4_unfoldedSize 80 = .ok (.goto 4, 3) := by decide +kernel
theorem dX4_unfoldedSize_83 : decode cX4_unfoldedSize 83 = .ok (.iconst 0, 1) := by decide +kernel
theorem dX4_unfoldedSize_84 : decode cX4_unfoldedSize 84 = .ok (.istore_n 3, 1) := by decide +kernel
theorem dX4_unfoldedSize_85 : decode cX4_unfoldedSize 85 = .ok (.aload_n 0, 1) := by decide +kernel
theorem dX4_unfoldedSize_86 : decode cX4_unfoldedSize 86 = .ok (.aload_n 0, 1) := by decide +kernel
theorem dX4_unfoldedSize_87 : decode cX4_unfoldedSize 87 = .ok (.getfield 13, 3) := by decide +kernel
theorem dX4_unfoldedSize_90 : decode cX4_unfoldedSize 90 = .ok (.aload_n 0, 1) := by decide +kernel
theorem dX4_unfoldedSize_91 : decode cX4_unfoldedSize 91 = .ok (.getfield 20, 3) := by decide +kernel
theorem dX4_unfoldedSize_94 : decode cX4_unfoldedSize 94 = .ok (.iload_n 1, 1) := by decide +kernel
theorem dX4_unfoldedSize_95 : decode cX4_unfoldedSize 95 = .ok (.iaload, 1) := by decide +kernel
theorem dX4_unfoldedSize_96 : decode cX4_unfoldedSize 96 = .ok (.iaload, 1) := by decide +kernel
theorem dX4_unfoldedSize_97 : decode cX4_unfoldedSize 97 = .ok (.invokevirtual 121, 3) := by decide +kernel
theorem dX4_unfoldedSize_100 : decode cX4_unfoldedSize 100 = .ok (.lconst 0, 1) := by decide +kernel
theorem dX4_unfoldedSize_101 : decode cX4_unfoldedSize 101 = .ok (.lstore 4, 2) := by decide +kernel
theorem dX4_unfoldedSize_103 : decode cX4_unfoldedSize 103 = .ok (.iconst 0, 1) := by decide +kernel
theorem dX4_unfoldedSize_104 : decode cX4_unfoldedSize 104 = .ok (.istore 6, 2) := by decide +kernel
theorem dX4_unfoldedSize_106 : decode cX4_unfoldedSize 106 = .ok (.iload 6, 2) := by decide +kernel
theorem dX4_unfoldedSize_108 : decode cX4_unfoldedSize 108 = .ok (.aload_n 0, 1) := by decide +kernel
theorem dX4_unfoldedSize_109 : decode cX4_unfoldedSize 109 = .ok (.getfield 114, 3) := by decide +kernel
theorem dX4_unfoldedSize_112 : decode cX4_unfoldedSize 112 = .ok (.if_icmp .ge 53, 3) := by decide +kernel
theorem dX4_unfoldedSize_115 : decode cX4_unfoldedSize 115 = .ok (.aload_n 0, 1) := by decide +kernel
theorem dX4_unfoldedSize_116 : decode cX4_unfoldedSize 116 = .ok (.getfield 20, 3) := by decide +kernel
theorem dX4_unfoldedSize_119 : decode cX4_unfoldedSize 119 = .ok (.aload_n 0, 1) := by decide +kernel
theorem dX4_unfoldedSize_120 : decode cX4_unfoldedSize 120 = .ok (.getfield 29, 3) := by decide +kernel
theorem dX4_unfoldedSize_123 : decode cX4_unfoldedSize 123 = .ok (.iload 6, 2) := by decide +kernel
theorem dX4_unfoldedSize_125 : decode cX4_unfoldedSize 125 = .ok (.iaload, 1) := by decide +kernel
theorem dX4_unfoldedSize_126 : decode cX4_unfoldedSize 126 = .ok (.iaload, 1) := by decide +kernel
theorem dX4_unfoldedSize_127 : decode cX4_unfoldedSize 127 = .ok (.istore 7, 2) := by decide +kernel
theorem dX4_unfoldedSize_129 : decode cX4_unfoldedSize 129 = .ok (.lload 4, 2) := by decide +kernel
theorem dX4_unfoldedSize_131 : decode cX4_unfoldedSize 131 = .ok (.iload 7, 2) := by decide +kernel
theorem dX4_unfoldedSize_133 : decode cX4_unfoldedSize 133 = .ok (.bipush 100, 2) := by decide +kernel
theorem dX4_unfoldedSize_135 : decode cX4_unfoldedSize 135 = .ok (.if_icmp .ge 7, 3) := by decide +kernel
theorem dX4_unfoldedSize_138 : decode cX4_unfoldedSize 138 = .ok (.lconst 1, 1) := by decide +kernel
theorem dX4_unfoldedSize_139 : decode cX4_unfoldedSize 139 = .ok (.goto 17, 3) := by decide +kernel
theorem dX4_unfoldedSize_142 : decode cX4_unfoldedSize 142 = .ok (.iload 7, 2) := by decide +kernel
theorem dX4_unfoldedSize_144 : decode cX4_unfoldedSize 144 = .ok (.bipush 100, 2) := by decide +kernel
theorem dX4_unfoldedSize_146 : decode cX4_unfoldedSize 146 = .ok (.if_icmp .ne 8, 3) := by decide +kernel
theorem dX4_unfoldedSize_149 : decode cX4_unfoldedSize 149 = .ok (.iload_n 2, 1) := by decide +kernel
theorem dX4_unfoldedSize_150 : decode cX4_unfoldedSize 150 = .ok (.i2l, 1) := by decide +kernel
theorem dX4_unfoldedSize_151 : decode cX4_unfoldedSize 151 = .ok (.goto 5, 3) := by decide +kernel
theorem dX4_unfoldedSize_154 : decode cX4_unfoldedSize 154 = .ok (.iload_n 3, 1) := by decide +kernel
theorem dX4_unfoldedSize_155 : decode cX4_unfoldedSize 155 = .ok (.i2l, 1) := by decide +kernel
theorem dX4_unfoldedSize_156 : decode cX4_unfoldedSize 156 = .ok (.ladd, 1) := by decide +kernel
theorem dX4_unfoldedSize_157 : decode cX4_unfoldedSize 157 = .ok (.lstore 4, 2) := by decide +kernel
theorem dX4_unfoldedSize_159 : decode cX4_unfoldedSize 159 = .ok (.iinc 6 1, 3) := by decide +kernel
theorem dX4_unfoldedSize_162 : decode cX4_unfoldedSize 162 = .ok (.goto (-56), 3) := by decide +kernel
theorem dX4_unfoldedSize_165 : decode cX4_unfoldedSize 165 = .ok (.lload 4, 2) := by decide +kernel
theorem dX4_unfoldedSize_167 : decode cX4_unfoldedSize 167 = .ok (.lreturn, 1) := by decide +kernel
theorem dX4_weighsAll_0 : decode cX4_weighsAll 0 = .ok (.aload_n 0, 1) := by decide +kernel
theorem dX4_weighsAll_1 : decode cX4_weighsAll 1 = .ok (.invokevirtual 151, 3) := by decide +kernel
theorem dX4_weighsAll_4 : decode cX4_weighsAll 4 = .ok (.aload_n 0, 1) := by decide +kernel
theorem dX4_weighsAll_5 : decode cX4_weighsAll 5 = .ok (.iload_n 1, 1) := by decide +kernel
theorem dX4_weighsAll_6 : decode cX4_weighsAll 6 = .ok (.invokevirtual 121, 3) := by decide +kernel
theorem dX4_weighsAll_9 : decode cX4_weighsAll 9 = .ok (.aload_n 0, 1) := by decide +kernel
theorem dX4_weighsAll_10 : decode cX4_weighsAll 10 = .ok (.getfield 114, 3) := by decide +kernel
theorem dX4_weighsAll_13 : decode cX4_weighsAll 13 = .ok (.iconst 1, 1) := by decide +kernel
theorem dX4_weighsAll_14 : decode cX4_weighsAll 14 = .ok (.isub, 1) := by decide +kernel
theorem dX4_weighsAll_15 : decode cX4_weighsAll 15 = .ok (.istore_n 2, 1) := by decide +kernel
theorem dX4_weighsAll_16 : decode cX4_weighsAll 16 = .ok (.iload_n 2, 1) := by decide +kernel
theorem dX4_weighsAll_17 : decode cX4_weighsAll 17 = .ok (.ifCond .lt 19, 3) := by decide +kernel
theorem dX4_weighsAll_20 : decode cX4_weighsAll 20 = .ok (.aload_n 0, 1) := by decide +kernel
theorem dX4_weighsAll_21 : decode cX4_weighsAll 21 = .ok (.aload_n 0, 1) := by decide +kernel
theorem dX4_weighsAll_22 : decode cX4_weighsAll 22 = .ok (.getfield 29, 3) := by decide +kernel
theorem dX4_weighsAll_25 : decode cX4_weighsAll 25 = .ok (.iload_n 2, 1) := by decide +kernel
theorem dX4_weighsAll_26 : decode cX4_weighsAll 26 = .ok (.iaload, 1) := by decide +kernel
theorem dX4_weighsAll_27 : decode cX4_weighsAll 27 = .ok (.invokevirtual 142, 3) := by decide +kernel
theorem dX4_weighsAll_30 : decode cX4_weighsAll 30 = .ok (.iinc 2 (-1), 3) := by decide +kernel
theorem dX4_weighsAll_33 : decode cX4_weighsAll 33 = .ok (.goto (-17), 3) := by decide +kernel
theorem dX4_weighsAll_36 : decode cX4_weighsAll 36 = .ok (.return_, 1) := by decide +kernel
theorem dX4_size_0 : decode cX4_size 0 = .ok (.aload_n 0, 1) := by decide +kernel
theorem dX4_size_1 : decode cX4_size 1 = .ok (.iload_n 1, 1) := by decide +kernel
theorem dX4_size_2 : decode cX4_size 2 = .ok (.invokevirtual 111, 3) := by decide +kernel
theorem dX4_size_5 : decode cX4_size 5 = .ok (.ifCond .eq 12, 3) := by decide +kernel
theorem dX4_size_8 : decode cX4_size 8 = .ok (.iload_n 2, 1) := by decide +kernel
theorem dX4_size_9 : decode cX4_size 9 = .ok (.iconst 0, 1) := by decide +kernel
theorem dX4_size_10 : decode cX4_size 10 = .ok (.iconst 3, 1) := by decide +kernel
theorem dX4_size_11 : decode cX4_size 11 = .ok (.invokestatic 80, 3) := by decide +kernel
theorem dX4_size_14 : decode cX4_size 14 = .ok (.ifCond .ne 7, 3) := by decide +kernel
theorem dX4_size_17 : decode cX4_size 17 = .ok (.ldc2_w 160, 3) := by decide +kernel
theorem dX4_size_20 : decode cX4_size 20 = .ok (.lreturn, 1) := by decide +kernel
theorem dX4_size_21 : decode cX4_size 21 = .ok (.iload_n 2, 1) := by decide +kernel
theorem dX4_size_22 : decode cX4_size 22 = .ok (.iconst 2, 1) := by decide +kernel
theorem dX4_size_23 : decode cX4_size 23 = .ok (.if_icmp .ge 22, 3) := by decide +kernel
theorem dX4_size_26 : decode cX4_size 26 = .ok (.iload_n 2, 1) := by decide +kernel
theorem dX4_size_27 : decode cX4_size 27 = .ok (.ifCond .ne 12, 3) := by decide +kernel
theorem dX4_size_30 : decode cX4_size 30 = .ok (.aload_n 0, 1) := by decide +kernel
theorem dX4_size_31 : decode cX4_size 31 = .ok (.iload_n 1, 1) := by decide +kernel
theorem dX4_size_32 : decode cX4_size 32 = .ok (.invokevirtual 157, 3) := by decide +kernel
theorem dX4_size_35 : decode cX4_size 35 = .ok (.i2l, 1) := by decide +kernel
theorem dX4_size_36 : decode cX4_size 36 = .ok (.goto 8, 3) := by decide +kernel
theorem dX4_size_39 : decode cX4_size 39 = .ok (.aload_n 0, 1) := by decide +kernel
theorem dX4_size_40 : decode cX4_size 40 = .ok (.iload_n 1, 1) := by decide +kernel
theorem dX4_size_41 : decode cX4_size 41 = .ok (.invokevirtual 162, 3) := by decide +kernel
theorem dX4_size_44 : decode cX4_size 44 = .ok (.lreturn, 1) := by decide +kernel
theorem dX4_size_45 : decode cX4_size 45 = .ok (.aload_n 0, 1) := by decide +kernel
theorem dX4_size_46 : decode cX4_size 46 = .ok (.iload_n 1, 1) := by decide +kernel
theorem dX4_size_47 : decode cX4_size 47 = .ok (.invokevirtual 166, 3) := by decide +kernel
theorem dX4_size_50 : decode cX4_size 50 = .ok (.iload_n 2, 1) := by decide +kernel
theorem dX4_size_51 : decode cX4_size 51 = .ok (.iconst 3, 1) := by decide +kernel
theorem dX4_size_52 : decode cX4_size 52 = .ok (.if_icmp .ne 12, 3) := by decide +kernel
theorem dX4_size_55 : decode cX4_size 55 = .ok (.aload_n 0, 1) := by decide +kernel
theorem dX4_size_56 : decode cX4_size 56 = .ok (.getfield 54, 3) := by decide +kernel
theorem dX4_size_59 : decode cX4_size 59 = .ok (.iload_n 1, 1) := by decide +kernel
theorem dX4_size_60 : decode cX4_size 60 = .ok (.laload, 1) := by decide +kernel
theorem dX4_size_61 : decode cX4_size 61 = .ok (.goto 32, 3) := by decide +kernel
theorem dX4_size_64 : decode cX4_size 64 = .ok (.aload_n 0, 1) := by decide +kernel
theorem dX4_size_65 : decode cX4_size 65 = .ok (.getfield 48, 3) := by decide +kernel
theorem dX4_size_68 : decode cX4_size 68 = .ok (.iload_n 1, 1) := by decide +kernel
theorem dX4_size_69 : decode cX4_size 69 = .ok (.laload, 1) := by decide +kernel
theorem dX4_size_70 : decode cX4_size 70 = .ok (.aload_n 0, 1) := by decide +kernel
theorem dX4_size_71 : decode cX4_size 71 = .ok (.getfield 51, 3) := by decide +kernel
theorem dX4_size_74 : decode cX4_size 74 = .ok (.iconst 2, 1) := by decide +kernel
theorem dX4_size_75 : decode cX4_size 75 = .ok (.iload_n 1, 1) := by decide +kernel
theorem dX4_size_76 : decode cX4_size 76 = .ok (.imul, 1) := by decide +kernel
theorem dX4_size_77 : decode cX4_size 77 = .ok (.laload, 1) := by decide +kernel
theorem dX4_size_78 : decode cX4_size 78 = .ok (.ladd, 1) := by decide +kernel
theorem dX4_size_79 : decode cX4_size 79 = .ok (.aload_n 0, 1) := by decide +kernel
theorem dX4_size_80 : decode cX4_size 80 = .ok (.getfield 51, 3) := by decide +kernel
theorem dX4_size_83 : decode cX4_size 83 = .ok (.iconst 2, 1) := by decide +kernel
theorem dX4_size_84 : decode cX4_size 84 = .ok (.iload_n 1, 1) := by decide +kernel
theorem dX4_size_85 : decode cX4_size 85 = .ok (.imul, 1) := by decide +kernel
theorem dX4_size_86 : decode cX4_size 86 = .ok (.iconst 1, 1) := by decide +kernel
theorem dX4_size_87 : decode cX4_size 87 = .ok (.iadd, 1) := by decide +kernel
theorem dX4_size_88 : decode cX4_size 88 = .ok (.laload, 1) := by decide +kernel
theorem dX4_size_89 : decode cX4_size 89 = .ok (.ladd, 1) := by decide +kernel
theorem dX4_size_90 : decode cX4_size 90 = .ok (.invokestatic 131, 3) := by decide +kernel
theorem dX4_size_93 : decode cX4_size 93 = .ok (.lreturn, 1) := by decide +kernel
theorem dX4_front_0 : decode cX4_front 0 = .ok (.aload_n 0, 1) := by decide +kernel
theorem dX4_front_1 : decode cX4_front 1 = .ok (.iload_n 1, 1) := by decide +kernel
theorem dX4_front_2 : decode cX4_front 2 = .ok (.invokevirtual 111, 3) := by decide +kernel
theorem dX4_front_5 : decode cX4_front 5 = .ok (.ifCond .ne 5, 3) := by decide +kernel
theorem dX4_front_8 : decode cX4_front 8 = .ok (.iconst (-1), 1) := by decide +kernel
theorem dX4_front_9 : decode cX4_front 9 = .ok (.ireturn, 1) := by decide +kernel
theorem dX4_front_10 : decode cX4_front 10 = .ok (.aload_n 0, 1) := by decide +kernel
theorem dX4_front_11 : decode cX4_front 11 = .ok (.invokevirtual 151, 3) := by decide +kernel
theorem dX4_front_14 : decode cX4_front 14 = .ok (.aload_n 0, 1) := by decide +kernel
theorem dX4_front_15 : decode cX4_front 15 = .ok (.iload_n 1, 1) := by decide +kernel
theorem dX4_front_16 : decode cX4_front 16 = .ok (.invokevirtual 145, 3) := by decide +kernel
theorem dX4_front_19 : decode cX4_front 19 = .ok (.ireturn, 1) := by decide +kernel
theorem dX4_unfolds_0 : decode cX4_unfolds 0 = .ok (.aload_n 0, 1) := by decide +kernel
theorem dX4_unfolds_1 : decode cX4_unfolds 1 = .ok (.dup, 1) := by decide +kernel
theorem dX4_unfolds_2 : decode cX4_unfolds 2 = .ok (.getfield 169, 3) := by decide +kernel
theorem dX4_unfolds_5 : decode cX4_unfolds 5 = .ok (.iconst 1, 1) := by decide +kernel
theorem dX4_unfolds_6 : decode cX4_unfolds 6 = .ok (.iadd, 1) := by decide +kernel
theorem dX4_unfolds_7 : decode cX4_unfolds 7 = .ok (.putfield 169, 3) := by decide +kernel
theorem dX4_unfolds_10 : decode cX4_unfolds 10 = .ok (.aload_n 0, 1) := by decide +kernel
theorem dX4_unfolds_11 : decode cX4_unfolds 11 = .ok (.aload_n 0, 1) := by decide +kernel
theorem dX4_unfolds_12 : decode cX4_unfolds 12 = .ok (.getfield 13, 3) := by decide +kernel
theorem dX4_unfolds_15 : decode cX4_unfolds 15 = .ok (.aload_n 0, 1) := by decide +kernel
theorem dX4_unfolds_16 : decode cX4_unfolds 16 = .ok (.getfield 20, 3) := by decide +kernel
theorem dX4_unfolds_19 : decode cX4_unfolds 19 = .ok (.iload_n 1, 1) := by decide +kernel
theorem dX4_unfolds_20 : decode cX4_unfolds 20 = .ok (.iaload, 1) := by decide +kernel
theorem dX4_unfolds_21 : decode cX4_unfolds 21 = .ok (.iaload, 1) := by decide +kernel
theorem dX4_unfolds_22 : decode cX4_unfolds 22 = .ok (.invokevirtual 121, 3) := by decide +kernel
theorem dX4_unfolds_25 : decode cX4_unfolds 25 = .ok (.aload_n 0, 1) := by decide +kernel
theorem dX4_unfolds_26 : decode cX4_unfolds 26 = .ok (.getfield 61, 3) := by decide +kernel
theorem dX4_unfolds_29 : decode cX4_unfolds 29 = .ok (.astore_n 2, 1) := by decide +kernel
theorem dX4_unfolds_30 : decode cX4_unfolds 30 = .ok (.aload_n 0, 1) := by decide +kernel
theorem dX4_unfolds_31 : decode cX4_unfolds 31 = .ok (.getfield 114, 3) := by decide +kernel
theorem dX4_unfolds_34 : decode cX4_unfolds 34 = .ok (.iconst 1, 1) := by decide +kernel
theorem dX4_unfolds_35 : decode cX4_unfolds 35 = .ok (.isub, 1) := by decide +kernel
theorem dX4_unfolds_36 : decode cX4_unfolds 36 = .ok (.istore_n 3, 1) := by decide +kernel
theorem dX4_unfolds_37 : decode cX4_unfolds 37 = .ok (.iload_n 3, 1) := by decide +kernel
theorem dX4_unfolds_38 : decode cX4_unfolds 38 = .ok (.ifCond .lt 114, 3) := by decide +kernel
theorem dX4_unfolds_41 : decode cX4_unfolds 41 = .ok (.aload_n 0, 1) := by decide +kernel
theorem dX4_unfolds_42 : decode cX4_unfolds 42 = .ok (.getfield 29, 3) := by decide +kernel
theorem dX4_unfolds_45 : decode cX4_unfolds 45 = .ok (.iload_n 3, 1) := by decide +kernel
theorem dX4_unfolds_46 : decode cX4_unfolds 46 = .ok (.iaload, 1) := by decide +kernel
theorem dX4_unfolds_47 : decode cX4_unfolds 47 = .ok (.istore 4, 2) := by decide +kernel
theorem dX4_unfolds_49 : decode cX4_unfolds 49 = .ok (.aload_n 0, 1) := by decide +kernel
theorem dX4_unfolds_50 : decode cX4_unfolds 50 = .ok (.getfield 20, 3) := by decide +kernel
theorem dX4_unfolds_53 : decode cX4_unfolds 53 = .ok (.iload 4, 2) := by decide +kernel
theorem dX4_unfolds_55 : decode cX4_unfolds 55 = .ok (.iaload, 1) := by decide +kernel
theorem dX4_unfolds_56 : decode cX4_unfolds 56 = .ok (.istore 5, 2) := by decide +kernel
theorem dX4_unfolds_58 : decode cX4_unfolds 58 = .ok (.iload 5, 2) := by decide +kernel
theorem dX4_unfolds_60 : decode cX4_unfolds 60 = .ok (.bipush 100, 2) := by decide +kernel
theorem dX4_unfolds_62 : decode cX4_unfolds 62 = .ok (.if_icmp .lt 19, 3) := by decide +kernel
theorem dX4_unfolds_65 : decode cX4_unfolds 65 = .ok (.aload_n 2, 1) := by decide +kernel
theorem dX4_unfolds_66 : decode cX4_unfolds 66 = .ok (.iload_n 3, 1) := by decide +kernel
theorem dX4_unfolds_67 : decode cX4_unfolds 67 = .ok (.aload_n 0, 1) := by decide +kernel
theorem dX4_unfolds_68 : decode cX4_unfolds 68 = .ok (.iload_n 1, 1) := by decide +kernel
theorem dX4_unfolds_69 : decode cX4_unfolds 69 = .ok (.iload 5, 2) := by decide +kernel
theorem dX4_unfolds_71 : decode cX4_unfolds 71 = .ok (.bipush 100, 2) := by decide +kernel
theorem dX4_unfolds_73 : decode cX4_unfolds 73 = .ok (.isub, 1) := by decide +kernel
theorem dX4_unfolds_74 : decode cX4_unfolds 74 = .ok (.invokevirtual 90, 3) := by decide +kernel
theorem dX4_unfolds_77 : decode cX4_unfolds 77 = .ok (.iastore, 1) := by decide +kernel
theorem dX4_unfolds_78 : decode cX4_unfolds 78 = .ok (.goto 68, 3) := by decide +kernel
theorem dX4_unfolds_81 : decode cX4_unfolds 81 = .ok (.aload_n 0, 1) := by decide +kernel
theorem dX4_unfolds_82 : decode cX4_unfolds 82 = .ok (.iload_n 3, 1) := by decide +kernel
theorem dX4_unfolds_83 : decode cX4_unfolds 83 = .ok (.invokevirtual 172, 3) := by decide +kernel
theorem dX4_unfolds_86 : decode cX4_unfolds 86 = .ok (.istore 6, 2) := by decide +kernel
theorem dX4_unfolds_88 : decode cX4_unfolds 88 = .ok (.aload_n 0, 1) := by decide +kernel
theorem dX4_unfolds_89 : decode cX4_unfolds 89 = .ok (.getfield 7, 3) := by decide +kernel
theorem dX4_unfolds_92 : decode cX4_unfolds 92 = .ok (.iload 5, 2) := by decide +kernel
theorem dX4_unfolds_94 : decode cX4_unfolds 94 = .ok (.iaload, 1) := by decide +kernel
theorem dX4_unfolds_95 : decode cX4_unfolds 95 = .ok (.ifCond .le 10, 3) := by decide +kernel
theorem dX4_unfolds_98 : decode cX4_unfolds 98 = .ok (.aload_n 2, 1) := by decide +kernel
theorem dX4_unfolds_99 : decode cX4_unfolds 99 = .ok (.iload 6, 2) := by decide +kernel
theorem dX4_unfolds_101 : decode cX4_unfolds 101 = .ok (.iaload, 1) := by decide +kernel
theorem dX4_unfolds_102 : decode cX4_unfolds 102 = .ok (.goto 5, 3) := by decide +kernel
theorem dX4_unfolds_105 : decode cX4_unfolds 105 = .ok (.bipush (-9), 2) := by decide +kernel
theorem dX4_unfolds_107 : decode cX4_unfolds 107 = .ok (.istore 7, 2) := by decide +kernel
theorem dX4_unfolds_109 : decode cX4_unfolds 109 = .ok (.aload_n 0, 1) := by decide +kernel
theorem dX4_unfolds_110 : decode cX4_unfolds 110 = .ok (.getfield 7, 3) := by decide +kernel
theorem dX4_unfolds_113 : decode cX4_unfolds 113 = .ok (.iload 5, 2) := by decide +kernel
theorem dX4_unfolds_115 : decode cX4_unfolds 115 = .ok (.iaload, 1) := by decide +kernel
theorem dX4_unfolds_116 : decode cX4_unfolds 116 = .ok (.iconst 1, 1) := by decide +kernel
theorem dX4_unfolds_117 : decode cX4_unfolds 117 = .ok (.if_icmp .le 12, 3) := by decide +kernel
theorem dX4_unfolds_120 : decode cX4_unfolds 120 = .ok (.aload_n 2, 1) := by decide +kernel
theorem dX4_unfolds_121 : decode cX4_unfolds 121 = .ok (.iload 6, 2) := by decide +kernel
theorem dX4_unfolds_123 : decode cX4_unfolds 123 = .ok (.iconst 1, 1) := by decide +kernel
theorem dX4_unfolds_124 : decode cX4_unfolds 124 = .ok (.iadd, 1) := by decide +kernel
theorem dX4_unfolds_125 : decode cX4_unfolds 125 = .ok (.iaload, 1) := by decide +kernel
theorem dX4_unfolds_126 : decode cX4_unfolds 126 = .ok (.goto 5, 3) := by decide +kernel
theorem dX4_unfolds_129 : decode cX4_unfolds 129 = .ok (.bipush (-9), 2) := by decide +kernel
theorem dX4_unfolds_131 : decode cX4_unfolds 131 = .ok (.istore 8, 2) := by decide +kernel
theorem dX4_unfolds_133 : decode cX4_unfolds 133 = .ok (.aload_n 2, 1) := by decide +kernel
theorem dX4_unfolds_134 : decode cX4_unfolds 134 = .ok (.iload_n 3, 1) := by decide +kernel
theorem dX4_unfolds_135 : decode cX4_unfolds 135 = .ok (.aload_n 0, 1) := by decide +kernel
theorem dX4_unfolds_136 : decode cX4_unfolds 136 = .ok (.iload 5, 2) := by decide +kernel
theorem dX4_unfolds_138 : decode cX4_unfolds 138 = .ok (.iload 7, 2) := by decide +kernel
theorem dX4_unfolds_140 : decode cX4_unfolds 140 = .ok (.iload 8, 2) := by decide +kernel
theorem dX4_unfolds_142 : decode cX4_unfolds 142 = .ok (.invokevirtual 101, 3) := by decide +kernel
theorem dX4_unfolds_145 : decode cX4_unfolds 145 = .ok (.iastore, 1) := by decide +kernel
theorem dX4_unfolds_146 : decode cX4_unfolds 146 = .ok (.iinc 3 (-1), 3) := by decide +kernel
theorem dX4_unfolds_149 : decode cX4_unfolds 149 = .ok (.goto (-112), 3) := by decide +kernel
theorem dX4_unfolds_152 : decode cX4_unfolds 152 = .ok (.aload_n 2, 1) := by decide +kernel
theorem dX4_unfolds_153 : decode cX4_unfolds 153 = .ok (.iconst 0, 1) := by decide +kernel
theorem dX4_unfolds_154 : decode cX4_unfolds 154 = .ok (.iaload, 1) := by decide +kernel
theorem dX4_unfolds_155 : decode cX4_unfolds 155 = .ok (.ireturn, 1) := by decide +kernel
theorem dX4_firstPart_0 : decode cX4_firstPart 0 = .ok (.iconst 1, 1) := by decide +kernel
theorem dX4_firstPart_1 : decode cX4_firstPart 1 = .ok (.istore_n 2, 1) := by decide +kernel
theorem dX4_firstPart_2 : decode cX4_firstPart 2 = .ok (.iconst 0, 1) := by decide +kernel
theorem dX4_firstPart_3 : decode cX4_firstPart 3 = .ok (.istore_n 3, 1) := by decide +kernel
theorem dX4_firstPart_4 : decode cX4_firstPart 4 = .ok (.iload_n 3, 1) := by decide +kernel
theorem dX4_firstPart_5 : decode cX4_firstPart 5 = .ok (.iload_n 1, 1) := by decide +kernel
theorem dX4_firstPart_6 : decode cX4_firstPart 6 = .ok (.if_icmp .ge 22, 3) := by decide +kernel
theorem dX4_firstPart_9 : decode cX4_firstPart 9 = .ok (.iload_n 2, 1) := by decide +kernel
theorem dX4_firstPart_10 : decode cX4_firstPart 10 = .ok (.aload_n 0, 1) := by decide +kernel
theorem dX4_firstPart_11 : decode cX4_firstPart 11 = .ok (.aload_n 0, 1) := by decide +kernel
theorem dX4_firstPart_12 : decode cX4_firstPart 12 = .ok (.getfield 29, 3) := by decide +kernel
theorem dX4_firstPart_15 : decode cX4_firstPart 15 = .ok (.iload_n 3, 1) := by decide +kernel
theorem dX4_firstPart_16 : decode cX4_firstPart 16 = .ok (.iaload, 1) := by decide +kernel
theorem dX4_firstPart_17 : decode cX4_firstPart 17 = .ok (.invokevirtual 117, 3) := by decide +kernel
theorem dX4_firstPart_20 : decode cX4_firstPart 20 = .ok (.iadd, 1) := by decide +kernel
theorem dX4_firstPart_21 : decode cX4_firstPart 21 = .ok (.istore_n 2, 1) := by decide +kernel
theorem dX4_firstPart_22 : decode cX4_firstPart 22 = .ok (.iinc 3 1, 3) := by decide +kernel
theorem dX4_firstPart_25 : decode cX4_firstPart 25 = .ok (.goto (-21), 3) := by decide +kernel
theorem dX4_firstPart_28 : decode cX4_firstPart 28 = .ok (.iload_n 2, 1) := by decide +kernel
theorem dX4_firstPart_29 : decode cX4_firstPart 29 = .ok (.ireturn, 1) := by decide +kernel
theorem dX4_mayUnfold_0 : decode cX4_mayUnfold 0 = .ok (.aload_n 0, 1) := by decide +kernel
theorem dX4_mayUnfold_1 : decode cX4_mayUnfold 1 = .ok (.aload_n 0, 1) := by decide +kernel
theorem dX4_mayUnfold_2 : decode cX4_mayUnfold 2 = .ok (.getfield 175, 3) := by decide +kernel
theorem dX4_mayUnfold_5 : decode cX4_mayUnfold 5 = .ok (.ifCond .ne 14, 3) := by decide +kernel
theorem dX4_mayUnfold_8 : decode cX4_mayUnfold 8 = .ok (.aload_n 0, 1) := by decide +kernel
theorem dX4_mayUnfold_9 : decode cX4_mayUnfold 9 = .ok (.getfield 169, 3) := by decide +kernel
theorem dX4_mayUnfold_12 : decode cX4_mayUnfold 12 = .ok (.iload_n 1, 1) := by decide +kernel
theorem dX4_mayUnfold_13 : decode cX4_mayUnfold 13 = .ok (.iadd, 1) := by decide +kernel
theorem dX4_mayUnfold_14 : decode cX4_mayUnfold 14 = .ok (.bipush 40, 2) := by decide +kernel
theorem dX4_mayUnfold_16 : decode cX4_mayUnfold 16 = .ok (.if_icmp .le 7, 3) := by decide +kernel
theorem dX4_mayUnfold_19 : decode cX4_mayUnfold 19 = .ok (.iconst 1, 1) := by decide +kernel
theorem dX4_mayUnfold_20 : decode cX4_mayUnfold 20 = .ok (.goto 4, 3) := by decide +kernel
theorem dX4_mayUnfold_23 : decode cX4_mayUnfold 23 = .ok (.iconst 0, 1) := by decide +kernel
theorem dX4_mayUnfold_24 : decode cX4_mayUnfold 24 = .ok (.putfield 175, 3) := by decide +kernel
theorem dX4_mayUnfold_27 : decode cX4_mayUnfold 27 = .ok (.aload_n 0, 1) := by decide +kernel
theorem dX4_mayUnfold_28 : decode cX4_mayUnfold 28 = .ok (.getfield 175, 3) := by decide +kernel
theorem dX4_mayUnfold_31 : decode cX4_mayUnfold 31 = .ok (.ifCond .ne 7, 3) := by decide +kernel
theorem dX4_mayUnfold_34 : decode cX4_mayUnfold 34 = .ok (.iconst 1, 1) := by decide +kernel
theorem dX4_mayUnfold_35 : decode cX4_mayUnfold 35 = .ok (.goto 4, 3) := by decide +kernel
theorem dX4_mayUnfold_38 : decode cX4_mayUnfold 38 = .ok (.iconst 0, 1) := by decide +kernel
theorem dX4_mayUnfold_39 : decode cX4_mayUnfold 39 = .ok (.ireturn, 1) := by decide +kernel
theorem dX4_goesTo_0 : decode cX4_goesTo 0 = .ok (.aload_n 0, 1) := by decide +kernel
theorem dX4_goesTo_1 : decode cX4_goesTo 1 = .ok (.getfield 64, 3) := by decide +kernel
theorem dX4_goesTo_4 : decode cX4_goesTo 4 = .ok (.aload_n 0, 1) := by decide +kernel
theorem dX4_goesTo_5 : decode cX4_goesTo 5 = .ok (.getfield 179, 3) := by decide +kernel
theorem dX4_goesTo_8 : decode cX4_goesTo 8 = .ok (.iload_n 1, 1) := by decide +kernel
theorem dX4_goesTo_9 : decode cX4_goesTo 9 = .ok (.iastore, 1) := by decide +kernel
theorem dX4_goesTo_10 : decode cX4_goesTo 10 = .ok (.aload_n 0, 1) := by decide +kernel
theorem dX4_goesTo_11 : decode cX4_goesTo 11 = .ok (.getfield 67, 3) := by decide +kernel
theorem dX4_goesTo_14 : decode cX4_goesTo 14 = .ok (.aload_n 0, 1) := by decide +kernel
theorem dX4_goesTo_15 : decode cX4_goesTo 15 = .ok (.getfield 179, 3) := by decide +kernel
theorem dX4_goesTo_18 : decode cX4_goesTo 18 = .ok (.iload_n 2, 1) := by decide +kernel
theorem dX4_goesTo_19 : decode cX4_goesTo 19 = .ok (.iastore, 1) := by decide +kernel
theorem dX4_goesTo_20 : decode cX4_goesTo 20 = .ok (.aload_n 0, 1) := by decide +kernel
theorem dX4_goesTo_21 : decode cX4_goesTo 21 = .ok (.getfield 70, 3) := by decide +kernel
theorem dX4_goesTo_24 : decode cX4_goesTo 24 = .ok (.aload_n 0, 1) := by decide +kernel
theorem dX4_goesTo_25 : decode cX4_goesTo 25 = .ok (.getfield 179, 3) := by decide +kernel
theorem dX4_goesTo_28 : decode cX4_goesTo 28 = .ok (.iconst 0, 1) := by decide +kernel
theorem dX4_goesTo_29 : decode cX4_goesTo 29 = .ok (.iastore, 1) := by decide +kernel
theorem dX4_goesTo_30 : decode cX4_goesTo 30 = .ok (.aload_n 0, 1) := by decide +kernel
theorem dX4_goesTo_31 : decode cX4_goesTo 31 = .ok (.dup, 1) := by decide +kernel
theorem dX4_goesTo_32 : decode cX4_goesTo 32 = .ok (.getfield 179, 3) := by decide +kernel
theorem dX4_goesTo_35 : decode cX4_goesTo 35 = .ok (.iconst 1, 1) := by decide +kernel
theorem dX4_goesTo_36 : decode cX4_goesTo 36 = .ok (.iadd, 1) := by decide +kernel
theorem dX4_goesTo_37 : decode cX4_goesTo 37 = .ok (.putfield 179, 3) := by decide +kernel
theorem dX4_goesTo_40 : decode cX4_goesTo 40 = .ok (.return_, 1) := by decide +kernel
theorem dX4_ends_0 : decode cX4_ends 0 = .ok (.aload_n 0, 1) := by decide +kernel
theorem dX4_ends_1 : decode cX4_ends 1 = .ok (.dup, 1) := by decide +kernel
theorem dX4_ends_2 : decode cX4_ends 2 = .ok (.getfield 179, 3) := by decide +kernel
theorem dX4_ends_5 : decode cX4_ends 5 = .ok (.iconst 1, 1) := by decide +kernel
theorem dX4_ends_6 : decode cX4_ends 6 = .ok (.isub, 1) := by decide +kernel
theorem dX4_ends_7 : decode cX4_ends 7 = .ok (.putfield 179, 3) := by decide +kernel
theorem dX4_ends_10 : decode cX4_ends 10 = .ok (.aload_n 0, 1) := by decide +kernel
theorem dX4_ends_11 : decode cX4_ends 11 = .ok (.getfield 58, 3) := by decide +kernel
theorem dX4_ends_14 : decode cX4_ends 14 = .ok (.sipush 740, 3) := by decide +kernel
theorem dX4_ends_17 : decode cX4_ends 17 = .ok (.aload_n 0, 1) := by decide +kernel
theorem dX4_ends_18 : decode cX4_ends 18 = .ok (.getfield 64, 3) := by decide +kernel
theorem dX4_ends_21 : decode cX4_ends 21 = .ok (.aload_n 0, 1) := by decide +kernel
theorem dX4_ends_22 : decode cX4_ends 22 = .ok (.getfield 179, 3) := by decide +kernel
theorem dX4_ends_25 : decode cX4_ends 25 = .ok (.iaload, 1) := by decide +kernel
theorem dX4_ends_26 : decode cX4_ends 26 = .ok (.imul, 1) := by decide +kernel
theorem dX4_ends_27 : decode cX4_ends 27 = .ok (.aload_n 0, 1) := by decide +kernel
theorem dX4_ends_28 : decode cX4_ends 28 = .ok (.getfield 67, 3) := by decide +kernel
theorem dX4_ends_31 : decode cX4_ends 31 = .ok (.aload_n 0, 1) := by decide +kernel
theorem dX4_ends_32 : decode cX4_ends 32 = .ok (.getfield 179, 3) := by decide +kernel
theorem dX4_ends_35 : decode cX4_ends 35 = .ok (.iaload, 1) := by decide +kernel
theorem dX4_ends_36 : decode cX4_ends 36 = .ok (.iadd, 1) := by decide +kernel
theorem dX4_ends_37 : decode cX4_ends 37 = .ok (.iconst 2, 1) := by decide +kernel
theorem dX4_ends_38 : decode cX4_ends 38 = .ok (.aload_n 0, 1) := by decide +kernel
theorem dX4_ends_39 : decode cX4_ends 39 = .ok (.getfield 182, 3) := by decide +kernel
theorem dX4_ends_42 : decode cX4_ends 42 = .ok (.imul, 1) := by decide +kernel
theorem dX4_ends_43 : decode cX4_ends 43 = .ok (.iload_n 1, 1) := by decide +kernel
theorem dX4_ends_44 : decode cX4_ends 44 = .ok (.ifCond .eq 7, 3) := by decide +kernel
theorem dX4_ends_47 : decode cX4_ends 47 = .ok (.iconst 1, 1) := by decide +kernel
theorem dX4_ends_48 : decode cX4_ends 48 = .ok (.goto 4, 3) := by decide +kernel
theorem dX4_ends_51 : decode cX4_ends 51 = .ok (.iconst 0, 1) := by decide +kernel
theorem dX4_ends_52 : decode cX4_ends 52 = .ok (.iadd, 1) := by decide +kernel
theorem dX4_ends_53 : decode cX4_ends 53 = .ok (.iastore, 1) := by decide +kernel
theorem dX4_ends_54 : decode cX4_ends 54 = .ok (.aload_n 0, 1) := by decide +kernel
theorem dX4_ends_55 : decode cX4_ends 55 = .ok (.iload_n 1, 1) := by decide +kernel
theorem dX4_ends_56 : decode cX4_ends 56 = .ok (.putfield 185, 3) := by decide +kernel
theorem dX4_ends_59 : decode cX4_ends 59 = .ok (.return_, 1) := by decide +kernel
theorem dX4_leaves_0 : decode cX4_leaves 0 = .ok (.aload_n 0, 1) := by decide +kernel
theorem dX4_leaves_1 : decode cX4_leaves 1 = .ok (.dup, 1) := by decide +kernel
theorem dX4_leaves_2 : decode cX4_leaves 2 = .ok (.getfield 179, 3) := by decide +kernel
theorem dX4_leaves_5 : decode cX4_leaves 5 = .ok (.iconst 1, 1) := by decide +kernel
theorem dX4_leaves_6 : decode cX4_leaves 6 = .ok (.isub, 1) := by decide +kernel
theorem dX4_leaves_7 : decode cX4_leaves 7 = .ok (.putfield 179, 3) := by decide +kernel
theorem dX4_leaves_10 : decode cX4_leaves 10 = .ok (.aload_n 0, 1) := by decide +kernel
theorem dX4_leaves_11 : decode cX4_leaves 11 = .ok (.iload_n 1, 1) := by decide +kernel
theorem dX4_leaves_12 : decode cX4_leaves 12 = .ok (.putfield 185, 3) := by decide +kernel
theorem dX4_leaves_15 : decode cX4_leaves 15 = .ok (.return_, 1) := by decide +kernel
theorem dX4_unfoldsSome_0 : decode cX4_unfoldsSome 0 = .ok (.aload_n 0, 1) := by decide +kernel
theorem dX4_unfoldsSome_1 : decode cX4_unfoldsSome 1 = .ok (.iload_n 1, 1) := by decide +kernel
theorem dX4_unfoldsSome_2 : decode cX4_unfoldsSome 2 = .ok (.ifCond .eq 11, 3) := by decide +kernel
theorem dX4_unfoldsSome_5 : decode cX4_unfoldsSome 5 = .ok (.iload_n 2, 1) := by decide +kernel
theorem dX4_unfoldsSome_6 : decode cX4_unfoldsSome 6 = .ok (.ifCond .eq 7, 3) := by decide +kernel
theorem dX4_unfoldsSome_9 : decode cX4_unfoldsSome 9 = .ok (.iconst 2, 1) := by decide +kernel
theorem dX4_unfoldsSome_10 : decode cX4_unfoldsSome 10 = .ok (.goto 4, 3) := by decide +kernel
theorem dX4_unfoldsSome_13 : decode cX4_unfoldsSome 13 = .ok (.iconst 1, 1) := by decide +kernel
theorem dX4_unfoldsSome_14 : decode cX4_unfoldsSome 14 = .ok (.invokevirtual 188, 3) := by decide +kernel
theorem dX4_unfoldsSome_17 : decode cX4_unfoldsSome 17 = .ok (.ifCond .ne 9, 3) := by decide +kernel
theorem dX4_unfoldsSome_20 : decode cX4_unfoldsSome 20 = .ok (.aload_n 0, 1) := by decide +kernel
theorem dX4_unfoldsSome_21 : decode cX4_unfoldsSome 21 = .ok (.iconst 0, 1) := by decide +kernel
theorem dX4_unfoldsSome_22 : decode cX4_unfoldsSome 22 = .ok (.invokevirtual 191, 3) := by decide +kernel
theorem dX4_unfoldsSome_25 : decode cX4_unfoldsSome 25 = .ok (.return_, 1) := by decide +kernel
theorem dX4_unfoldsSome_26 : decode cX4_unfoldsSome 26 = .ok (.aload_n 0, 1) := by decide +kernel
theorem dX4_unfoldsSome_27 : decode cX4_unfoldsSome 27 = .ok (.getfield 70, 3) := by decide +kernel
theorem dX4_unfoldsSome_30 : decode cX4_unfoldsSome 30 = .ok (.aload_n 0, 1) := by decide +kernel
theorem dX4_unfoldsSome_31 : decode cX4_unfoldsSome 31 = .ok (.getfield 179, 3) := by decide +kernel
theorem dX4_unfoldsSome_34 : decode cX4_unfoldsSome 34 = .ok (.iconst 1, 1) := by decide +kernel
theorem dX4_unfoldsSome_35 : decode cX4_unfoldsSome 35 = .ok (.isub, 1) := by decide +kernel
theorem dX4_unfoldsSome_36 : decode cX4_unfoldsSome 36 = .ok (.bipush 9, 2) := by decide +kernel
theorem dX4_unfoldsSome_38 : decode cX4_unfoldsSome 38 = .ok (.iastore, 1) := by decide +kernel
theorem dX4_unfoldsSome_39 : decode cX4_unfoldsSome 39 = .ok (.aload_n 0, 1) := by decide +kernel
theorem dX4_unfoldsSome_40 : decode cX4_unfoldsSome 40 = .ok (.getfield 64, 3) := by decide +kernel
theorem dX4_unfoldsSome_43 : decode cX4_unfoldsSome 43 = .ok (.aload_n 0, 1) := by decide +kernel
theorem dX4_unfoldsSome_44 : decode cX4_unfoldsSome 44 = .ok (.getfield 179, 3) := by decide +kernel
theorem dX4_unfoldsSome_47 : decode cX4_unfoldsSome 47 = .ok (.iconst 1, 1) := by decide +kernel
theorem dX4_unfoldsSome_48 : decode cX4_unfoldsSome 48 = .ok (.isub, 1) := by decide +kernel
theorem dX4_unfoldsSome_49 : decode cX4_unfoldsSome 49 = .ok (.iaload, 1) := by decide +kernel
theorem dX4_unfoldsSome_50 : decode cX4_unfoldsSome 50 = .ok (.istore_n 3, 1) := by decide +kernel
theorem dX4_unfoldsSome_51 : decode cX4_unfoldsSome 51 = .ok (.aload_n 0, 1) := by decide +kernel
theorem dX4_unfoldsSome_52 : decode cX4_unfoldsSome 52 = .ok (.getfield 67, 3) := by decide +kernel
theorem dX4_unfoldsSome_55 : decode cX4_unfoldsSome 55 = .ok (.aload_n 0, 1) := by decide +kernel
theorem dX4_unfoldsSome_56 : decode cX4_unfoldsSome 56 = .ok (.getfield 179, 3) := by decide +kernel
theorem dX4_unfoldsSome_59 : decode cX4_unfoldsSome 59 = .ok (.iconst 1, 1) := by decide +kernel
theorem dX4_unfoldsSome_60 : decode cX4_unfoldsSome 60 = .ok (.isub, 1) := by decide +kernel
theorem dX4_unfoldsSome_61 : decode cX4_unfoldsSome 61 = .ok (.iaload, 1) := by decide +kernel
theorem dX4_unfoldsSome_62 : decode cX4_unfoldsSome 62 = .ok (.istore 4, 2) := by decide +kernel
theorem dX4_unfoldsSome_64 : decode cX4_unfoldsSome 64 = .ok (.iload_n 1, 1) := by decide +kernel
theorem dX4_unfoldsSome_65 : decode cX4_unfoldsSome 65 = .ok (.ifCond .eq 11, 3) := by decide +kernel
theorem dX4_unfoldsSome_68 : decode cX4_unfoldsSome 68 = .ok (.aload_n 0, 1) := by decide +kernel
theorem dX4_unfoldsSome_69 : decode cX4_unfoldsSome 69 = .ok (.iload_n 3, 1) := by decide +kernel
theorem dX4_unfoldsSome_70 : decode cX4_unfoldsSome 70 = .ok (.invokevirtual 195, 3) := by decide +kernel
theorem dX4_unfoldsSome_73 : decode cX4_unfoldsSome 73 = .ok (.goto 4, 3) := by decide +kernel
theorem dX4_unfoldsSome_76 : decode cX4_unfoldsSome 76 = .ok (.iload_n 3, 1) := by decide +kernel
theorem dX4_unfoldsSome_77 : decode cX4_unfoldsSome 77 = .ok (.istore 5, 2) := by decide +kernel
theorem dX4_unfoldsSome_79 : decode cX4_unfoldsSome 79 = .ok (.aload_n 0, 1) := by decide +kernel
theorem dX4_unfoldsSome_80 : decode cX4_unfoldsSome 80 = .ok (.iload 5, 2) := by decide +kernel
theorem dX4_unfoldsSome_82 : decode cX4_unfoldsSome 82 = .ok (.iload_n 2, 1) := by decide +kernel
theorem dX4_unfoldsSome_83 : decode cX4_unfoldsSome 83 = .ok (.ifCond .eq 12, 3) := by decide +kernel
theorem dX4_unfoldsSome_86 : decode cX4_unfoldsSome 86 = .ok (.aload_n 0, 1) := by decide +kernel
theorem dX4_unfoldsSome_87 : decode cX4_unfoldsSome 87 = .ok (.iload 4, 2) := by decide +kernel
theorem dX4_unfoldsSome_89 : decode cX4_unfoldsSome 89 = .ok (.invokevirtual 195, 3) := by decide +kernel
theorem dX4_unfoldsSome_92 : decode cX4_unfoldsSome 92 = .ok (.goto 5, 3) := by decide +kernel
theorem dX4_unfoldsSome_95 : decode cX4_unfoldsSome 95 = .ok (.iload 4, 2) := by decide +kernel
theorem dX4_unfoldsSome_97 : decode cX4_unfoldsSome 97 = .ok (.invokevirtual 198, 3) := by decide +kernel
theorem dX4_unfoldsSome_100 : decode cX4_unfoldsSome 100 = .ok (.return_, 1) := by decide +kernel
theorem dX4_judgesNames_0 : decode cX4_judgesNames 0 = .ok (.aload_n 0, 1) := by decide +kernel
theorem dX4_judgesNames_1 : decode cX4_judgesNames 1 = .ok (.iload_n 1, 1) := by decide +kernel
theorem dX4_judgesNames_2 : decode cX4_judgesNames 2 = .ok (.invokevirtual 139, 3) := by decide +kernel
theorem dX4_judgesNames_5 : decode cX4_judgesNames 5 = .ok (.istore_n 3, 1) := by decide +kernel
theorem dX4_judgesNames_6 : decode cX4_judgesNames 6 = .ok (.aload_n 0, 1) := by decide +kernel
theorem dX4_judgesNames_7 : decode cX4_judgesNames 7 = .ok (.iload_n 2, 1) := by decide +kernel
theorem dX4_judgesNames_8 : decode cX4_judgesNames 8 = .ok (.invokevirtual 139, 3) := by decide +kernel
theorem dX4_judgesNames_11 : decode cX4_judgesNames 11 = .ok (.istore 4, 2) := by decide +kernel
theorem dX4_judgesNames_13 : decode cX4_judgesNames 13 = .ok (.iload_n 3, 1) := by decide +kernel
theorem dX4_judgesNames_14 : decode cX4_judgesNames 14 = .ok (.ifCond .ne 26, 3) := by decide +kernel
theorem dX4_judgesNames_17 : decode cX4_judgesNames 17 = .ok (.iload 4, 2) := by decide +kernel
theorem dX4_judgesNames_19 : decode cX4_judgesNames 19 = .ok (.ifCond .ne 21, 3) := by decide +kernel
theorem dX4_judgesNames_22 : decode cX4_judgesNames 22 = .ok (.aload_n 0, 1) := by decide +kernel
theorem dX4_judgesNames_23 : decode cX4_judgesNames 23 = .ok (.iload_n 1, 1) := by decide +kernel
theorem dX4_judgesNames_24 : decode cX4_judgesNames 24 = .ok (.putfield 202, 3) := by decide +kernel
theorem dX4_judgesNames_27 : decode cX4_judgesNames 27 = .ok (.aload_n 0, 1) := by decide +kernel
theorem dX4_judgesNames_28 : decode cX4_judgesNames 28 = .ok (.iload_n 2, 1) := by decide +kernel
theorem dX4_judgesNames_29 : decode cX4_judgesNames 29 = .ok (.putfield 205, 3) := by decide +kernel
theorem dX4_judgesNames_32 : decode cX4_judgesNames 32 = .ok (.aload_n 0, 1) := by decide +kernel
theorem dX4_judgesNames_33 : decode cX4_judgesNames 33 = .ok (.iconst 0, 1) := by decide +kernel
theorem dX4_judgesNames_34 : decode cX4_judgesNames 34 = .ok (.invokevirtual 208, 3) := by decide +kernel
theorem dX4_judgesNames_37 : decode cX4_judgesNames 37 = .ok (.goto 66, 3) := by decide +kernel
theorem dX4_judgesNames_40 : decode cX4_judgesNames 40 = .ok (.iload_n 3, 1) := by decide +kernel
theorem dX4_judgesNames_41 : decode cX4_judgesNames 41 = .ok (.ifCond .eq 55, 3) := by decide +kernel
theorem dX4_judgesNames_44 : decode cX4_judgesNames 44 = .ok (.iload 4, 2) := by decide +kernel
theorem dX4_judgesNames_46 : decode cX4_judgesNames 46 = .ok (.ifCond .eq 50, 3) := by decide +kernel
theorem dX4_judgesNames_49 : decode cX4_judgesNames 49 = .ok (.aload_n 0, 1) := by decide +kernel
theorem dX4_judgesNames_50 : decode cX4_judgesNames 50 = .ok (.aload_n 0, 1) := by decide +kernel
theorem dX4_judgesNames_51 : decode cX4_judgesNames 51 = .ok (.getfield 32, 3) := by decide +kernel
theorem dX4_judgesNames_54 : decode cX4_judgesNames 54 = .ok (.iload_n 1, 1) := by decide +kernel
theorem dX4_judgesNames_55 : decode cX4_judgesNames 55 = .ok (.iaload, 1) := by decide +kernel
theorem dX4_judgesNames_56 : decode cX4_judgesNames 56 = .ok (.aload_n 0, 1) := by decide +kernel
theorem dX4_judgesNames_57 : decode cX4_judgesNames 57 = .ok (.getfield 32, 3) := by decide +kernel
theorem dX4_judgesNames_60 : decode cX4_judgesNames 60 = .ok (.iload_n 2, 1) := by decide +kernel
theorem dX4_judgesNames_61 : decode cX4_judgesNames 61 = .ok (.iaload, 1) := by decide +kernel
theorem dX4_judgesNames_62 : decode cX4_judgesNames 62 = .ok (.if_icmp .lt 7, 3) := by decide +kernel
theorem dX4_judgesNames_65 : decode cX4_judgesNames 65 = .ok (.iconst 1, 1) := by decide +kernel
theorem dX4_judgesNames_66 : decode cX4_judgesNames 66 = .ok (.goto 4, 3) := by decide +kernel
theorem dX4_judgesNames_69 : decode cX4_judgesNames 69 = .ok (.iconst 0, 1) := by decide +kernel
theorem dX4_judgesNames_70 : decode cX4_judgesNames 70 = .ok (.aload_n 0, 1) := by decide +kernel
theorem dX4_judgesNames_71 : decode cX4_judgesNames 71 = .ok (.getfield 32, 3) := by decide +kernel
theorem dX4_judgesNames_74 : decode cX4_judgesNames 74 = .ok (.iload_n 2, 1) := by decide +kernel
theorem dX4_judgesNames_75 : decode cX4_judgesNames 75 = .ok (.iaload, 1) := by decide +kernel
theorem dX4_judgesNames_76 : decode cX4_judgesNames 76 = .ok (.aload_n 0, 1) := by decide +kernel
theorem dX4_judgesNames_77 : decode cX4_judgesNames 77 = .ok (.getfield 32, 3) := by decide +kernel
theorem dX4_judgesNames_80 : decode cX4_judgesNames 80 = .ok (.iload_n 1, 1) := by decide +kernel
theorem dX4_judgesNames_81 : decode cX4_judgesNames 81 = .ok (.iaload, 1) := by decide +kernel
theorem dX4_judgesNames_82 : decode cX4_judgesNames 82 = .ok (.if_icmp .lt 7, 3) := by decide +kernel
theorem dX4_judgesNames_85 : decode cX4_judgesNames 85 = .ok (.iconst 1, 1) := by decide +kernel
theorem dX4_judgesNames_86 : decode cX4_judgesNames 86 = .ok (.goto 4, 3) := by decide +kernel
theorem dX4_judgesNames_89 : decode cX4_judgesNames 89 = .ok (.iconst 0, 1) := by decide +kernel
theorem dX4_judgesNames_90 : decode cX4_judgesNames 90 = .ok (.invokevirtual 211, 3) := by decide +kernel
theorem dX4_judgesNames_93 : decode cX4_judgesNames 93 = .ok (.goto 10, 3) := by decide +kernel
theorem dX4_judgesNames_96 : decode cX4_judgesNames 96 = .ok (.aload_n 0, 1) := by decide +kernel
theorem dX4_judgesNames_97 : decode cX4_judgesNames 97 = .ok (.iload_n 3, 1) := by decide +kernel
theorem dX4_judgesNames_98 : decode cX4_judgesNames 98 = .ok (.iload 4, 2) := by decide +kernel
theorem dX4_judgesNames_100 : decode cX4_judgesNames 100 = .ok (.invokevirtual 211, 3) := by decide +kernel
theorem dX4_judgesNames_103 : decode cX4_judgesNames 103 = .ok (.return_, 1) := by decide +kernel
theorem dX4_goesToPart_0 : decode cX4_goesToPart 0 = .ok (.aload_n 0, 1) := by decide +kernel
theorem dX4_goesToPart_1 : decode cX4_goesToPart 1 = .ok (.getfield 179, 3) := by decide +kernel
theorem dX4_goesToPart_4 : decode cX4_goesToPart 4 = .ok (.iconst 1, 1) := by decide +kernel
theorem dX4_goesToPart_5 : decode cX4_goesToPart 5 = .ok (.isub, 1) := by decide +kernel
theorem dX4_goesToPart_6 : decode cX4_goesToPart 6 = .ok (.istore_n 2, 1) := by decide +kernel
theorem dX4_goesToPart_7 : decode cX4_goesToPart 7 = .ok (.aload_n 0, 1) := by decide +kernel
theorem dX4_goesToPart_8 : decode cX4_goesToPart 8 = .ok (.getfield 70, 3) := by decide +kernel
theorem dX4_goesToPart_11 : decode cX4_goesToPart 11 = .ok (.iload_n 2, 1) := by decide +kernel
theorem dX4_goesToPart_12 : decode cX4_goesToPart 12 = .ok (.iconst 1, 1) := by decide +kernel
theorem dX4_goesToPart_13 : decode cX4_goesToPart 13 = .ok (.iload_n 1, 1) := by decide +kernel
theorem dX4_goesToPart_14 : decode cX4_goesToPart 14 = .ok (.iadd, 1) := by decide +kernel
theorem dX4_goesToPart_15 : decode cX4_goesToPart 15 = .ok (.iastore, 1) := by decide +kernel
theorem dX4_goesToPart_16 : decode cX4_goesToPart 16 = .ok (.aload_n 0, 1) := by decide +kernel
theorem dX4_goesToPart_17 : decode cX4_goesToPart 17 = .ok (.aload_n 0, 1) := by decide +kernel
theorem dX4_goesToPart_18 : decode cX4_goesToPart 18 = .ok (.aload_n 0, 1) := by decide +kernel
theorem dX4_goesToPart_19 : decode cX4_goesToPart 19 = .ok (.getfield 64, 3) := by decide +kernel
theorem dX4_goesToPart_22 : decode cX4_goesToPart 22 = .ok (.iload_n 2, 1) := by decide +kernel
theorem dX4_goesToPart_23 : decode cX4_goesToPart 23 = .ok (.iaload, 1) := by decide +kernel
theorem dX4_goesToPart_24 : decode cX4_goesToPart 24 = .ok (.iload_n 1, 1) := by decide +kernel
theorem dX4_goesToPart_25 : decode cX4_goesToPart 25 = .ok (.invokevirtual 90, 3) := by decide +kernel
theorem dX4_goesToPart_28 : decode cX4_goesToPart 28 = .ok (.aload_n 0, 1) := by decide +kernel
theorem dX4_goesToPart_29 : decode cX4_goesToPart 29 = .ok (.aload_n 0, 1) := by decide +kernel
theorem dX4_goesToPart_30 : decode cX4_goesToPart 30 = .ok (.getfield 67, 3) := by decide +kernel
theorem dX4_goesToPart_33 : decode cX4_goesToPart 33 = .ok (.iload_n 2, 1) := by decide +kernel
theorem dX4_goesToPart_34 : decode cX4_goesToPart 34 = .ok (.iaload, 1) := by decide +kernel
theorem dX4_goesToPart_35 : decode cX4_goesToPart 35 = .ok (.iload_n 1, 1) := by decide +kernel
theorem dX4_goesToPart_36 : decode cX4_goesToPart 36 = .ok (.invokevirtual 90, 3) := by decide +kernel
theorem dX4_goesToPart_39 : decode cX4_goesToPart 39 = .ok (.invokevirtual 198, 3) := by decide +kernel
theorem dX4_goesToPart_42 : decode cX4_goesToPart 42 = .ok (.return_, 1) := by decide +kernel
theorem dX4_begins_0 : decode cX4_begins 0 = .ok (.aload_n 0, 1) := by decide +kernel
theorem dX4_begins_1 : decode cX4_begins 1 = .ok (.getfield 64, 3) := by decide +kernel
theorem dX4_begins_4 : decode cX4_begins 4 = .ok (.aload_n 0, 1) := by decide +kernel
theorem dX4_begins_5 : decode cX4_begins 5 = .ok (.getfield 179, 3) := by decide +kernel
theorem dX4_begins_8 : decode cX4_begins 8 = .ok (.iconst 1, 1) := by decide +kernel
theorem dX4_begins_9 : decode cX4_begins 9 = .ok (.isub, 1) := by decide +kernel
theorem dX4_begins_10 : decode cX4_begins 10 = .ok (.iaload, 1) := by decide +kernel
theorem dX4_begins_11 : decode cX4_begins 11 = .ok (.istore_n 1, 1) := by decide +kernel
theorem dX4_begins_12 : decode cX4_begins 12 = .ok (.aload_n 0, 1) := by decide +kernel
theorem dX4_begins_13 : decode cX4_begins 13 = .ok (.getfield 67, 3) := by decide +kernel
theorem dX4_begins_16 : decode cX4_begins 16 = .ok (.aload_n 0, 1) := by decide +kernel
theorem dX4_begins_17 : decode cX4_begins 17 = .ok (.getfield 179, 3) := by decide +kernel
theorem dX4_begins_20 : decode cX4_begins 20 = .ok (.iconst 1, 1) := by decide +kernel
theorem dX4_begins_21 : decode cX4_begins 21 = .ok (.isub, 1) := by decide +kernel
theorem dX4_begins_22 : decode cX4_begins 22 = .ok (.iaload, 1) := by decide +kernel
theorem dX4_begins_23 : decode cX4_begins 23 = .ok (.istore_n 2, 1) := by decide +kernel
theorem dX4_begins_24 : decode cX4_begins 24 = .ok (.aload_n 0, 1) := by decide +kernel
theorem dX4_begins_25 : decode cX4_begins 25 = .ok (.getfield 58, 3) := by decide +kernel
theorem dX4_begins_28 : decode cX4_begins 28 = .ok (.sipush 740, 3) := by decide +kernel
theorem dX4_begins_31 : decode cX4_begins 31 = .ok (.iload_n 1, 1) := by decide +kernel
theorem dX4_begins_32 : decode cX4_begins 32 = .ok (.imul, 1) := by decide +kernel
theorem dX4_begins_33 : decode cX4_begins 33 = .ok (.iload_n 2, 1) := by decide +kernel
theorem dX4_begins_34 : decode cX4_begins 34 = .ok (.iadd, 1) := by decide +kernel
theorem dX4_begins_35 : decode cX4_begins 35 = .ok (.iaload, 1) := by decide +kernel
theorem dX4_begins_36 : decode cX4_begins 36 = .ok (.istore_n 3, 1) := by decide +kernel
theorem dX4_begins_37 : decode cX4_begins 37 = .ok (.aload_n 0, 1) := by decide +kernel
theorem dX4_begins_38 : decode cX4_begins 38 = .ok (.getfield 175, 3) := by decide +kernel
theorem dX4_begins_41 : decode cX4_begins 41 = .ok (.ifCond .ne 8, 3) := by decide +kernel
theorem dX4_begins_44 : decode cX4_begins 44 = .ok (.iload_n 1, 1) := by decide +kernel
theorem dX4_begins_45 : decode cX4_begins 45 = .ok (.iload_n 2, 1) := by decide +kernel
theorem dX4_begins_46 : decode cX4_begins 46 = .ok (.if_icmp .ne 22, 3) := by decide +kernel
theorem dX4_begins_49 : decode cX4_begins 49 = .ok (.aload_n 0, 1) := by decide +kernel
theorem dX4_begins_50 : decode cX4_begins 50 = .ok (.aload_n 0, 1) := by decide +kernel
theorem dX4_begins_51 : decode cX4_begins 51 = .ok (.getfield 175, 3) := by decide +kernel
theorem dX4_begins_54 : decode cX4_begins 54 = .ok (.ifCond .ne 7, 3) := by decide +kernel
theorem dX4_begins_57 : decode cX4_begins 57 = .ok (.iconst 1, 1) := by decide +kernel
theorem dX4_begins_58 : decode cX4_begins 58 = .ok (.goto 4, 3) := by decide +kernel
theorem dX4_begins_61 : decode cX4_begins 61 = .ok (.iconst 0, 1) := by decide +kernel
theorem dX4_begins_62 : decode cX4_begins 62 = .ok (.invokevirtual 191, 3) := by decide +kernel
theorem dX4_begins_65 : decode cX4_begins 65 = .ok (.goto 81, 3) := by decide +kernel
theorem dX4_begins_68 : decode cX4_begins 68 = .ok (.iload_n 3, 1) := by decide +kernel
theorem dX4_begins_69 : decode cX4_begins 69 = .ok (.iconst 2, 1) := by decide +kernel
theorem dX4_begins_70 : decode cX4_begins 70 = .ok (.idiv, 1) := by decide +kernel
theorem dX4_begins_71 : decode cX4_begins 71 = .ok (.aload_n 0, 1) := by decide +kernel
theorem dX4_begins_72 : decode cX4_begins 72 = .ok (.getfield 182, 3) := by decide +kernel
theorem dX4_begins_75 : decode cX4_begins 75 = .ok (.if_icmp .ne 22, 3) := by decide +kernel
theorem dX4_begins_78 : decode cX4_begins 78 = .ok (.aload_n 0, 1) := by decide +kernel
theorem dX4_begins_79 : decode cX4_begins 79 = .ok (.iload_n 3, 1) := by decide +kernel
theorem dX4_begins_80 : decode cX4_begins 80 = .ok (.iconst 2, 1) := by decide +kernel
theorem dX4_begins_81 : decode cX4_begins 81 = .ok (.irem, 1) := by decide +kernel
theorem dX4_begins_82 : decode cX4_begins 82 = .ok (.iconst 1, 1) := by decide +kernel
theorem dX4_begins_83 : decode cX4_begins 83 = .ok (.if_icmp .ne 7, 3) := by decide +kernel
theorem dX4_begins_86 : decode cX4_begins 86 = .ok (.iconst 1, 1) := by decide +kernel
theorem dX4_begins_87 : decode cX4_begins 87 = .ok (.goto 4, 3) := by decide +kernel
theorem dX4_begins_90 : decode cX4_begins 90 = .ok (.iconst 0, 1) := by decide +kernel
theorem dX4_begins_91 : decode cX4_begins 91 = .ok (.invokevirtual 191, 3) := by decide +kernel
theorem dX4_begins_94 : decode cX4_begins 94 = .ok (.goto 52, 3) := by decide +kernel
theorem dX4_begins_97 : decode cX4_begins 97 = .ok (.aload_n 0, 1) := by decide +kernel
theorem dX4_begins_98 : decode cX4_begins 98 = .ok (.dup, 1) := by decide +kernel
theorem dX4_begins_99 : decode cX4_begins 99 = .ok (.getfield 215, 3) := by decide +kernel
theorem dX4_begins_102 : decode cX4_begins 102 = .ok (.iconst 1, 1) := by decide +kernel
theorem dX4_begins_103 : decode cX4_begins 103 = .ok (.iadd, 1) := by decide +kernel
theorem dX4_begins_104 : decode cX4_begins 104 = .ok (.putfield 215, 3) := by decide +kernel
theorem dX4_begins_107 : decode cX4_begins 107 = .ok (.aload_n 0, 1) := by decide +kernel
theorem dX4_begins_108 : decode cX4_begins 108 = .ok (.getfield 20, 3) := by decide +kernel
theorem dX4_begins_111 : decode cX4_begins 111 = .ok (.iload_n 1, 1) := by decide +kernel
theorem dX4_begins_112 : decode cX4_begins 112 = .ok (.iaload, 1) := by decide +kernel
theorem dX4_begins_113 : decode cX4_begins 113 = .ok (.aload_n 0, 1) := by decide +kernel
theorem dX4_begins_114 : decode cX4_begins 114 = .ok (.getfield 20, 3) := by decide +kernel
theorem dX4_begins_117 : decode cX4_begins 117 = .ok (.iload_n 2, 1) := by decide +kernel
theorem dX4_begins_118 : decode cX4_begins 118 = .ok (.iaload, 1) := by decide +kernel
theorem dX4_begins_119 : decode cX4_begins 119 = .ok (.if_icmp .ne 11, 3) := by decide +kernel
theorem dX4_begins_122 : decode cX4_begins 122 = .ok (.aload_n 0, 1) := by decide +kernel
theorem dX4_begins_123 : decode cX4_begins 123 = .ok (.iconst 0, 1) := by decide +kernel
theorem dX4_begins_124 : decode cX4_begins 124 = .ok (.invokevirtual 218, 3) := by decide +kernel
theorem dX4_begins_127 : decode cX4_begins 127 = .ok (.goto 19, 3) := by decide +kernel
theorem dX4_begins_130 : decode cX4_begins 130 = .ok (.aload_n 0, 1) := by decide +kernel
theorem dX4_begins_131 : decode cX4_begins 131 = .ok (.aload_n 0, 1) := by decide +kernel
theorem dX4_begins_132 : decode cX4_begins 132 = .ok (.getfield 20, 3) := by decide +kernel
theorem dX4_begins_135 : decode cX4_begins 135 = .ok (.iload_n 1, 1) := by decide +kernel
theorem dX4_begins_136 : decode cX4_begins 136 = .ok (.iaload, 1) := by decide +kernel
theorem dX4_begins_137 : decode cX4_begins 137 = .ok (.aload_n 0, 1) := by decide +kernel
theorem dX4_begins_138 : decode cX4_begins 138 = .ok (.getfield 20, 3) := by decide +kernel
theorem dX4_begins_141 : decode cX4_begins 141 = .ok (.iload_n 2, 1) := by decide +kernel
theorem dX4_begins_142 : decode cX4_begins 142 = .ok (.iaload, 1) := by decide +kernel
theorem dX4_begins_143 : decode cX4_begins 143 = .ok (.invokevirtual 221, 3) := by decide +kernel
theorem dX4_begins_146 : decode cX4_begins 146 = .ok (.return_, 1) := by decide +kernel
theorem dX4_goesOn_0 : decode cX4_goesOn 0 = .ok (.aload_n 0, 1) := by decide +kernel
theorem dX4_goesOn_1 : decode cX4_goesOn 1 = .ok (.getfield 179, 3) := by decide +kernel
theorem dX4_goesOn_4 : decode cX4_goesOn 4 = .ok (.iconst 1, 1) := by decide +kernel
theorem dX4_goesOn_5 : decode cX4_goesOn 5 = .ok (.isub, 1) := by decide +kernel
theorem dX4_goesOn_6 : decode cX4_goesOn 6 = .ok (.istore_n 1, 1) := by decide +kernel
theorem dX4_goesOn_7 : decode cX4_goesOn 7 = .ok (.aload_n 0, 1) := by decide +kernel
theorem dX4_goesOn_8 : decode cX4_goesOn 8 = .ok (.getfield 64, 3) := by decide +kernel
theorem dX4_goesOn_11 : decode cX4_goesOn 11 = .ok (.iload_n 1, 1) := by decide +kernel
theorem dX4_goesOn_12 : decode cX4_goesOn 12 = .ok (.iaload, 1) := by decide +kernel
theorem dX4_goesOn_13 : decode cX4_goesOn 13 = .ok (.istore_n 2, 1) := by decide +kernel
theorem dX4_goesOn_14 : decode cX4_goesOn 14 = .ok (.aload_n 0, 1) := by decide +kernel
theorem dX4_goesOn_15 : decode cX4_goesOn 15 = .ok (.getfield 175, 3) := by decide +kernel
theorem dX4_goesOn_18 : decode cX4_goesOn 18 = .ok (.ifCond .eq 11, 3) := by decide +kernel
theorem dX4_goesOn_21 : decode cX4_goesOn 21 = .ok (.aload_n 0, 1) := by decide +kernel
theorem dX4_goesOn_22 : decode cX4_goesOn 22 = .ok (.iconst 0, 1) := by decide +kernel
theorem dX4_goesOn_23 : decode cX4_goesOn 23 = .ok (.invokevirtual 191, 3) := by decide +kernel
theorem dX4_goesOn_26 : decode cX4_goesOn 26 = .ok (.goto 74, 3) := by decide +kernel
theorem dX4_goesOn_29 : decode cX4_goesOn 29 = .ok (.aload_n 0, 1) := by decide +kernel
theorem dX4_goesOn_30 : decode cX4_goesOn 30 = .ok (.getfield 185, 3) := by decide +kernel
theorem dX4_goesOn_33 : decode cX4_goesOn 33 = .ok (.ifCond .eq 30, 3) := by decide +kernel
theorem dX4_goesOn_36 : decode cX4_goesOn 36 = .ok (.aload_n 0, 1) := by decide +kernel
theorem dX4_goesOn_37 : decode cX4_goesOn 37 = .ok (.getfield 70, 3) := by decide +kernel
theorem dX4_goesOn_40 : decode cX4_goesOn 40 = .ok (.iload_n 1, 1) := by decide +kernel
theorem dX4_goesOn_41 : decode cX4_goesOn 41 = .ok (.iaload, 1) := by decide +kernel
theorem dX4_goesOn_42 : decode cX4_goesOn 42 = .ok (.aload_n 0, 1) := by decide +kernel
theorem dX4_goesOn_43 : decode cX4_goesOn 43 = .ok (.iload_n 2, 1) := by decide +kernel
theorem dX4_goesOn_44 : decode cX4_goesOn 44 = .ok (.invokevirtual 117, 3) := by decide +kernel
theorem dX4_goesOn_47 : decode cX4_goesOn 47 = .ok (.if_icmp .ge 16, 3) := by decide +kernel
theorem dX4_goesOn_50 : decode cX4_goesOn 50 = .ok (.aload_n 0, 1) := by decide +kernel
theorem dX4_goesOn_51 : decode cX4_goesOn 51 = .ok (.aload_n 0, 1) := by decide +kernel
theorem dX4_goesOn_52 : decode cX4_goesOn 52 = .ok (.getfield 70, 3) := by decide +kernel
theorem dX4_goesOn_55 : decode cX4_goesOn 55 = .ok (.iload_n 1, 1) := by decide +kernel
theorem dX4_goesOn_56 : decode cX4_goesOn 56 = .ok (.iaload, 1) := by decide +kernel
theorem dX4_goesOn_57 : decode cX4_goesOn 57 = .ok (.invokevirtual 218, 3) := by decide +kernel
theorem dX4_goesOn_60 : decode cX4_goesOn 60 = .ok (.goto 40, 3) := by decide +kernel
theorem dX4_goesOn_63 : decode cX4_goesOn 63 = .ok (.aload_n 0, 1) := by decide +kernel
theorem dX4_goesOn_64 : decode cX4_goesOn 64 = .ok (.getfield 185, 3) := by decide +kernel
theorem dX4_goesOn_67 : decode cX4_goesOn 67 = .ok (.ifCond .ne 16, 3) := by decide +kernel
theorem dX4_goesOn_70 : decode cX4_goesOn 70 = .ok (.aload_n 0, 1) := by decide +kernel
theorem dX4_goesOn_71 : decode cX4_goesOn 71 = .ok (.aload_n 0, 1) := by decide +kernel
theorem dX4_goesOn_72 : decode cX4_goesOn 72 = .ok (.getfield 20, 3) := by decide +kernel
theorem dX4_goesOn_75 : decode cX4_goesOn 75 = .ok (.iload_n 2, 1) := by decide +kernel
theorem dX4_goesOn_76 : decode cX4_goesOn 76 = .ok (.iaload, 1) := by decide +kernel
theorem dX4_goesOn_77 : decode cX4_goesOn 77 = .ok (.invokevirtual 139, 3) := by decide +kernel
theorem dX4_goesOn_80 : decode cX4_goesOn 80 = .ok (.ifCond .ne 14, 3) := by decide +kernel
theorem dX4_goesOn_83 : decode cX4_goesOn 83 = .ok (.aload_n 0, 1) := by decide +kernel
theorem dX4_goesOn_84 : decode cX4_goesOn 84 = .ok (.aload_n 0, 1) := by decide +kernel
theorem dX4_goesOn_85 : decode cX4_goesOn 85 = .ok (.getfield 185, 3) := by decide +kernel
theorem dX4_goesOn_88 : decode cX4_goesOn 88 = .ok (.invokevirtual 208, 3) := by decide +kernel
theorem dX4_goesOn_91 : decode cX4_goesOn 91 = .ok (.goto 9, 3) := by decide +kernel
theorem dX4_goesOn_94 : decode cX4_goesOn 94 = .ok (.aload_n 0, 1) := by decide +kernel
theorem dX4_goesOn_95 : decode cX4_goesOn 95 = .ok (.iconst 1, 1) := by decide +kernel
theorem dX4_goesOn_96 : decode cX4_goesOn 96 = .ok (.iconst 1, 1) := by decide +kernel
theorem dX4_goesOn_97 : decode cX4_goesOn 97 = .ok (.invokevirtual 211, 3) := by decide +kernel
theorem dX4_goesOn_100 : decode cX4_goesOn 100 = .ok (.return_, 1) := by decide +kernel
theorem dX4_judges_0 : decode cX4_judges 0 = .ok (.aload_n 0, 1) := by decide +kernel
theorem dX4_judges_1 : decode cX4_judges 1 = .ok (.iconst 0, 1) := by decide +kernel
theorem dX4_judges_2 : decode cX4_judges 2 = .ok (.putfield 179, 3) := by decide +kernel
theorem dX4_judges_5 : decode cX4_judges 5 = .ok (.aload_n 0, 1) := by decide +kernel
theorem dX4_judges_6 : decode cX4_judges 6 = .ok (.iload_n 1, 1) := by decide +kernel
theorem dX4_judges_7 : decode cX4_judges 7 = .ok (.iload_n 2, 1) := by decide +kernel
theorem dX4_judges_8 : decode cX4_judges 8 = .ok (.invokevirtual 198, 3) := by decide +kernel
theorem dX4_judges_11 : decode cX4_judges 11 = .ok (.aload_n 0, 1) := by decide +kernel
theorem dX4_judges_12 : decode cX4_judges 12 = .ok (.getfield 179, 3) := by decide +kernel
theorem dX4_judges_15 : decode cX4_judges 15 = .ok (.ifCond .le 50, 3) := by decide +kernel
theorem dX4_judges_18 : decode cX4_judges 18 = .ok (.aload_n 0, 1) := by decide +kernel
theorem dX4_judges_19 : decode cX4_judges 19 = .ok (.getfield 70, 3) := by decide +kernel
theorem dX4_judges_22 : decode cX4_judges 22 = .ok (.aload_n 0, 1) := by decide +kernel
theorem dX4_judges_23 : decode cX4_judges 23 = .ok (.getfield 179, 3) := by decide +kernel
theorem dX4_judges_26 : decode cX4_judges 26 = .ok (.iconst 1, 1) := by decide +kernel
theorem dX4_judges_27 : decode cX4_judges 27 = .ok (.isub, 1) := by decide +kernel
theorem dX4_judges_28 : decode cX4_judges 28 = .ok (.iaload, 1) := by decide +kernel
theorem dX4_judges_29 : decode cX4_judges 29 = .ok (.istore_n 3, 1) := by decide +kernel
theorem dX4_judges_30 : decode cX4_judges 30 = .ok (.iload_n 3, 1) := by decide +kernel
theorem dX4_judges_31 : decode cX4_judges 31 = .ok (.ifCond .ne 10, 3) := by decide +kernel
theorem dX4_judges_34 : decode cX4_judges 34 = .ok (.aload_n 0, 1) := by decide +kernel
theorem dX4_judges_35 : decode cX4_judges 35 = .ok (.invokevirtual 224, 3) := by decide +kernel
theorem dX4_judges_38 : decode cX4_judges 38 = .ok (.goto 24, 3) := by decide +kernel
theorem dX4_judges_41 : decode cX4_judges 41 = .ok (.iload_n 3, 1) := by decide +kernel
theorem dX4_judges_42 : decode cX4_judges 42 = .ok (.bipush 9, 2) := by decide +kernel
theorem dX4_judges_44 : decode cX4_judges 44 = .ok (.if_icmp .ge 10, 3) := by decide +kernel
theorem dX4_judges_47 : decode cX4_judges 47 = .ok (.aload_n 0, 1) := by decide +kernel
theorem dX4_judges_48 : decode cX4_judges 48 = .ok (.invokevirtual 227, 3) := by decide +kernel
theorem dX4_judges_51 : decode cX4_judges 51 = .ok (.goto 11, 3) := by decide +kernel
theorem dX4_judges_54 : decode cX4_judges 54 = .ok (.aload_n 0, 1) := by decide +kernel
theorem dX4_judges_55 : decode cX4_judges 55 = .ok (.aload_n 0, 1) := by decide +kernel
theorem dX4_judges_56 : decode cX4_judges 56 = .ok (.getfield 185, 3) := by decide +kernel
theorem dX4_judges_59 : decode cX4_judges 59 = .ok (.invokevirtual 208, 3) := by decide +kernel
theorem dX4_judges_62 : decode cX4_judges 62 = .ok (.goto (-51), 3) := by decide +kernel
theorem dX4_judges_65 : decode cX4_judges 65 = .ok (.aload_n 0, 1) := by decide +kernel
theorem dX4_judges_66 : decode cX4_judges 66 = .ok (.getfield 185, 3) := by decide +kernel
theorem dX4_judges_69 : decode cX4_judges 69 = .ok (.ireturn, 1) := by decide +kernel
theorem dX4_check_0 : decode cX4_check 0 = .ok (.aload_n 0, 1) := by decide +kernel
theorem dX4_check_1 : decode cX4_check 1 = .ok (.iload_n 1, 1) := by decide +kernel
theorem dX4_check_2 : decode cX4_check 2 = .ok (.invokevirtual 111, 3) := by decide +kernel
theorem dX4_check_5 : decode cX4_check 5 = .ok (.ifCond .eq 11, 3) := by decide +kernel
theorem dX4_check_8 : decode cX4_check 8 = .ok (.aload_n 0, 1) := by decide +kernel
theorem dX4_check_9 : decode cX4_check 9 = .ok (.iload_n 2, 1) := by decide +kernel
theorem dX4_check_10 : decode cX4_check 10 = .ok (.invokevirtual 111, 3) := by decide +kernel
theorem dX4_check_13 : decode cX4_check 13 = .ok (.ifCond .ne 5, 3) := by decide +kernel
theorem dX4_check_16 : decode cX4_check 16 = .ok (.iconst (-1), 1) := by decide +kernel
theorem dX4_check_17 : decode cX4_check 17 = .ok (.ireturn, 1) := by decide +kernel
theorem dX4_check_18 : decode cX4_check 18 = .ok (.aload_n 0, 1) := by decide +kernel
theorem dX4_check_19 : decode cX4_check 19 = .ok (.iload_n 1, 1) := by decide +kernel
theorem dX4_check_20 : decode cX4_check 20 = .ok (.invokevirtual 154, 3) := by decide +kernel
theorem dX4_check_23 : decode cX4_check 23 = .ok (.ifCond .eq 11, 3) := by decide +kernel
theorem dX4_check_26 : decode cX4_check 26 = .ok (.aload_n 0, 1) := by decide +kernel
theorem dX4_check_27 : decode cX4_check 27 = .ok (.iload_n 2, 1) := by decide +kernel
theorem dX4_check_28 : decode cX4_check 28 = .ok (.invokevirtual 154, 3) := by decide +kernel
theorem dX4_check_31 : decode cX4_check 31 = .ok (.ifCond .ne 6, 3) := by decide +kernel
theorem dX4_check_34 : decode cX4_check 34 = .ok (.bipush (-3), 2) := by decide +kernel
theorem dX4_check_36 : decode cX4_check 36 = .ok (.ireturn, 1) := by decide +kernel
theorem dX4_check_37 : decode cX4_check 37 = .ok (.aload_n 0, 1) := by decide +kernel
theorem dX4_check_38 : decode cX4_check 38 = .ok (.invokevirtual 151, 3) := by decide +kernel
theorem dX4_check_41 : decode cX4_check 41 = .ok (.aload_n 0, 1) := by decide +kernel
theorem dX4_check_42 : decode cX4_check 42 = .ok (.iconst 0, 1) := by decide +kernel
theorem dX4_check_43 : decode cX4_check 43 = .ok (.putfield 169, 3) := by decide +kernel
theorem dX4_check_46 : decode cX4_check 46 = .ok (.aload_n 0, 1) := by decide +kernel
theorem dX4_check_47 : decode cX4_check 47 = .ok (.iconst 0, 1) := by decide +kernel
theorem dX4_check_48 : decode cX4_check 48 = .ok (.putfield 215, 3) := by decide +kernel
theorem dX4_check_51 : decode cX4_check 51 = .ok (.aload_n 0, 1) := by decide +kernel
theorem dX4_check_52 : decode cX4_check 52 = .ok (.bipush (-9), 2) := by decide +kernel
theorem dX4_check_54 : decode cX4_check 54 = .ok (.putfield 202, 3) := by decide +kernel
theorem dX4_check_57 : decode cX4_check 57 = .ok (.aload_n 0, 1) := by decide +kernel
theorem dX4_check_58 : decode cX4_check 58 = .ok (.bipush (-9), 2) := by decide +kernel
theorem dX4_check_60 : decode cX4_check 60 = .ok (.putfield 205, 3) := by decide +kernel
theorem dX4_check_63 : decode cX4_check 63 = .ok (.aload_n 0, 1) := by decide +kernel
theorem dX4_check_64 : decode cX4_check 64 = .ok (.iconst 0, 1) := by decide +kernel
theorem dX4_check_65 : decode cX4_check 65 = .ok (.putfield 175, 3) := by decide +kernel
theorem dX4_check_68 : decode cX4_check 68 = .ok (.aload_n 0, 1) := by decide +kernel
theorem dX4_check_69 : decode cX4_check 69 = .ok (.dup, 1) := by decide +kernel
theorem dX4_check_70 : decode cX4_check 70 = .ok (.getfield 182, 3) := by decide +kernel
theorem dX4_check_73 : decode cX4_check 73 = .ok (.iconst 1, 1) := by decide +kernel
theorem dX4_check_74 : decode cX4_check 74 = .ok (.iadd, 1) := by decide +kernel
theorem dX4_check_75 : decode cX4_check 75 = .ok (.putfield 182, 3) := by decide +kernel
theorem dX4_check_78 : decode cX4_check 78 = .ok (.aload_n 0, 1) := by decide +kernel
theorem dX4_check_79 : decode cX4_check 79 = .ok (.iload_n 1, 1) := by decide +kernel
theorem dX4_check_80 : decode cX4_check 80 = .ok (.iload_n 2, 1) := by decide +kernel
theorem dX4_check_81 : decode cX4_check 81 = .ok (.invokevirtual 230, 3) := by decide +kernel
theorem dX4_check_84 : decode cX4_check 84 = .ok (.istore_n 3, 1) := by decide +kernel
theorem dX4_check_85 : decode cX4_check 85 = .ok (.aload_n 0, 1) := by decide +kernel
theorem dX4_check_86 : decode cX4_check 86 = .ok (.aload_n 0, 1) := by decide +kernel
theorem dX4_check_87 : decode cX4_check 87 = .ok (.getfield 84, 3) := by decide +kernel
theorem dX4_check_90 : decode cX4_check 90 = .ok (.putfield 87, 3) := by decide +kernel
theorem dX4_check_93 : decode cX4_check 93 = .ok (.aload_n 0, 1) := by decide +kernel
theorem dX4_check_94 : decode cX4_check 94 = .ok (.getfield 175, 3) := by decide +kernel
theorem dX4_check_97 : decode cX4_check 97 = .ok (.ifCond .eq 6, 3) := by decide +kernel
theorem dX4_check_100 : decode cX4_check 100 = .ok (.bipush (-6), 2) := by decide +kernel
theorem dX4_check_102 : decode cX4_check 102 = .ok (.ireturn, 1) := by decide +kernel
theorem dX4_check_103 : decode cX4_check 103 = .ok (.aload_n 0, 1) := by decide +kernel
theorem dX4_check_104 : decode cX4_check 104 = .ok (.getfield 73, 3) := by decide +kernel
theorem dX4_check_107 : decode cX4_check 107 = .ok (.iconst 0, 1) := by decide +kernel
theorem dX4_check_108 : decode cX4_check 108 = .ok (.aload_n 0, 1) := by decide +kernel
theorem dX4_check_109 : decode cX4_check 109 = .ok (.getfield 169, 3) := by decide +kernel
theorem dX4_check_112 : decode cX4_check 112 = .ok (.iastore, 1) := by decide +kernel
theorem dX4_check_113 : decode cX4_check 113 = .ok (.aload_n 0, 1) := by decide +kernel
theorem dX4_check_114 : decode cX4_check 114 = .ok (.getfield 73, 3) := by decide +kernel
theorem dX4_check_117 : decode cX4_check 117 = .ok (.iconst 1, 1) := by decide +kernel
theorem dX4_check_118 : decode cX4_check 118 = .ok (.aload_n 0, 1) := by decide +kernel
theorem dX4_check_119 : decode cX4_check 119 = .ok (.getfield 215, 3) := by decide +kernel
theorem dX4_check_122 : decode cX4_check 122 = .ok (.iastore, 1) := by decide +kernel
theorem dX4_check_123 : decode cX4_check 123 = .ok (.aload_n 0, 1) := by decide +kernel
theorem dX4_check_124 : decode cX4_check 124 = .ok (.getfield 73, 3) := by decide +kernel
theorem dX4_check_127 : decode cX4_check 127 = .ok (.iconst 2, 1) := by decide +kernel
theorem dX4_check_128 : decode cX4_check 128 = .ok (.iload_n 3, 1) := by decide +kernel
theorem dX4_check_129 : decode cX4_check 129 = .ok (.ifCond .eq 8, 3) := by decide +kernel
theorem dX4_check_132 : decode cX4_check 132 = .ok (.bipush (-9), 2) := by decide +kernel
theorem dX4_check_134 : decode cX4_check 134 = .ok (.goto 7, 3) := by decide +kernel
theorem dX4_check_137 : decode cX4_check 137 = .ok (.aload_n 0, 1) := by decide +kernel
theorem dX4_check_138 : decode cX4_check 138 = .ok (.getfield 202, 3) := by decide +kernel
theorem dX4_check_141 : decode cX4_check 141 = .ok (.iastore, 1) := by decide +kernel
theorem dX4_check_142 : decode cX4_check 142 = .ok (.aload_n 0, 1) := by decide +kernel
theorem dX4_check_143 : decode cX4_check 143 = .ok (.getfield 73, 3) := by decide +kernel
theorem dX4_check_146 : decode cX4_check 146 = .ok (.iconst 3, 1) := by decide +kernel
theorem dX4_check_147 : decode cX4_check 147 = .ok (.iload_n 3, 1) := by decide +kernel
theorem dX4_check_148 : decode cX4_check 148 = .ok (.ifCond .eq 8, 3) := by decide +kernel
theorem dX4_check_151 : decode cX4_check 151 = .ok (.bipush (-9), 2) := by decide +kernel
theorem dX4_check_153 : decode cX4_check 153 = .ok (.goto 7, 3) := by decide +kernel
theorem dX4_check_156 : decode cX4_check 156 = .ok (.aload_n 0, 1) := by decide +kernel
theorem dX4_check_157 : decode cX4_check 157 = .ok (.getfield 205, 3) := by decide +kernel
theorem dX4_check_160 : decode cX4_check 160 = .ok (.iastore, 1) := by decide +kernel
theorem dX4_check_161 : decode cX4_check 161 = .ok (.aload_n 0, 1) := by decide +kernel
theorem dX4_check_162 : decode cX4_check 162 = .ok (.getfield 73, 3) := by decide +kernel
theorem dX4_check_165 : decode cX4_check 165 = .ok (.iconst 4, 1) := by decide +kernel
theorem dX4_check_166 : decode cX4_check 166 = .ok (.iload_n 3, 1) := by decide +kernel
theorem dX4_check_167 : decode cX4_check 167 = .ok (.ifCond .eq 7, 3) := by decide +kernel
theorem dX4_check_170 : decode cX4_check 170 = .ok (.iconst 1, 1) := by decide +kernel
theorem dX4_check_171 : decode cX4_check 171 = .ok (.goto 4, 3) := by decide +kernel
theorem dX4_check_174 : decode cX4_check 174 = .ok (.iconst 0, 1) := by decide +kernel
theorem dX4_check_175 : decode cX4_check 175 = .ok (.iastore, 1) := by decide +kernel
theorem dX4_check_176 : decode cX4_check 176 = .ok (.aload_n 0, 1) := by decide +kernel
theorem dX4_check_177 : decode cX4_check 177 = .ok (.iconst 1, 1) := by decide +kernel
theorem dX4_check_178 : decode cX4_check 178 = .ok (.putfield 233, 3) := by decide +kernel
theorem dX4_check_181 : decode cX4_check 181 = .ok (.aload_n 0, 1) := by decide +kernel
theorem dX4_check_182 : decode cX4_check 182 = .ok (.getfield 73, 3) := by decide +kernel
theorem dX4_check_185 : decode cX4_check 185 = .ok (.iconst 4, 1) := by decide +kernel
theorem dX4_check_186 : decode cX4_check 186 = .ok (.iaload, 1) := by decide +kernel
theorem dX4_check_187 : decode cX4_check 187 = .ok (.ireturn, 1) := by decide +kernel
theorem dX4_checked_0 : decode cX4_checked 0 = .ok (.iload_n 1, 1) := by decide +kernel
theorem dX4_checked_1 : decode cX4_checked 1 = .ok (.iconst 0, 1) := by decide +kernel
theorem dX4_checked_2 : decode cX4_checked 2 = .ok (.iconst 4, 1) := by decide +kernel
theorem dX4_checked_3 : decode cX4_checked 3 = .ok (.invokestatic 80, 3) := by decide +kernel
theorem dX4_checked_6 : decode cX4_checked 6 = .ok (.ifCond .ne 6, 3) := by decide +kernel
theorem dX4_checked_9 : decode cX4_checked 9 = .ok (.bipush (-2), 2) := by decide +kernel
theorem dX4_checked_11 : decode cX4_checked 11 = .ok (.ireturn, 1) := by decide +kernel
theorem dX4_checked_12 : decode cX4_checked 12 = .ok (.aload_n 0, 1) := by decide +kernel
theorem dX4_checked_13 : decode cX4_checked 13 = .ok (.getfield 233, 3) := by decide +kernel
theorem dX4_checked_16 : decode cX4_checked 16 = .ok (.ifCond .eq 12, 3) := by decide +kernel
theorem dX4_checked_19 : decode cX4_checked 19 = .ok (.aload_n 0, 1) := by decide +kernel
theorem dX4_checked_20 : decode cX4_checked 20 = .ok (.getfield 73, 3) := by decide +kernel
theorem dX4_checked_23 : decode cX4_checked 23 = .ok (.iload_n 1, 1) := by decide +kernel
theorem dX4_checked_24 : decode cX4_checked 24 = .ok (.iaload, 1) := by decide +kernel
theorem dX4_checked_25 : decode cX4_checked 25 = .ok (.goto 5, 3) := by decide +kernel
theorem dX4_checked_28 : decode cX4_checked 28 = .ok (.bipush (-3), 2) := by decide +kernel
theorem dX4_checked_30 : decode cX4_checked 30 = .ok (.ireturn, 1) := by decide +kernel
theorem dX4_manyNames_0 : decode cX4_manyNames 0 = .ok (.iconst 0, 1) := by decide +kernel
theorem dX4_manyNames_1 : decode cX4_manyNames 1 = .ok (.istore_n 2, 1) := by decide +kernel
theorem dX4_manyNames_2 : decode cX4_manyNames 2 = .ok (.iconst 0, 1) := by decide +kernel
theorem dX4_manyNames_3 : decode cX4_manyNames 3 = .ok (.istore_n 3, 1) := by decide +kernel
theorem dX4_manyNames_4 : decode cX4_manyNames 4 = .ok (.iload_n 3, 1) := by decide +kernel
theorem dX4_manyNames_5 : decode cX4_manyNames 5 = .ok (.aload_n 0, 1) := by decide +kernel
theorem dX4_manyNames_6 : decode cX4_manyNames 6 = .ok (.getfield 76, 3) := by decide +kernel
theorem dX4_manyNames_9 : decode cX4_manyNames 9 = .ok (.if_icmp .ge 48, 3) := by decide +kernel
theorem dX4_manyNames_12 : decode cX4_manyNames 12 = .ok (.iload_n 2, 1) := by decide +kernel
theorem dX4_manyNames_13 : decode cX4_manyNames 13 = .ok (.iload_n 1, 1) := by decide +kernel
theorem dX4_manyNames_14 : decode cX4_manyNames 14 = .ok (.ifCond .eq 19, 3) := by decide +kernel
theorem dX4_manyNames_17 : decode cX4_manyNames 17 = .ok (.aload_n 0, 1) := by decide +kernel
theorem dX4_manyNames_18 : decode cX4_manyNames 18 = .ok (.iload_n 3, 1) := by decide +kernel
theorem dX4_manyNames_19 : decode cX4_manyNames 19 = .ok (.invokevirtual 139, 3) := by decide +kernel
theorem dX4_manyNames_22 : decode cX4_manyNames 22 = .ok (.ifCond .eq 7, 3) := by decide +kernel
theorem dX4_manyNames_25 : decode cX4_manyNames 25 = .ok (.iconst 1, 1) := by decide +kernel
theorem dX4_manyNames_26 : decode cX4_manyNames 26 = .ok (.goto 23, 3) := by decide +kernel
theorem dX4_manyNames_29 : decode cX4_manyNames 29 = .ok (.iconst 0, 1) := by decide +kernel
theorem dX4_manyNames_30 : decode cX4_manyNames 30 = .ok (.goto 19, 3) := by decide +kernel
theorem dX4_manyNames_33 : decode cX4_manyNames 33 = .ok (.aload_n 0, 1) := by decide +kernel
theorem dX4_manyNames_34 : decode cX4_manyNames 34 = .ok (.getfield 13, 3) := by decide +kernel
theorem dX4_manyNames_37 : decode cX4_manyNames 37 = .ok (.iload_n 3, 1) := by decide +kernel
theorem dX4_manyNames_38 : decode cX4_manyNames 38 = .ok (.iaload, 1) := by decide +kernel
theorem dX4_manyNames_39 : decode cX4_manyNames 39 = .ok (.bipush (-9), 2) := by decide +kernel
theorem dX4_manyNames_41 : decode cX4_manyNames 41 = .ok (.if_icmp .eq 7, 3) := by decide +kernel
theorem dX4_manyNames_44 : decode cX4_manyNames 44 = .ok (.iconst 1, 1) := by decide +kernel
theorem dX4_manyNames_45 : decode cX4_manyNames 45 = .ok (.goto 4, 3) := by decide +kernel
theorem dX4_manyNames_48 : decode cX4_manyNames 48 = .ok (.iconst 0, 1) := by decide +kernel
theorem dX4_manyNames_49 : decode cX4_manyNames 49 = .ok (.iadd, 1) := by decide +kernel
theorem dX4_manyNames_50 : decode cX4_manyNames 50 = .ok (.istore_n 2, 1) := by decide +kernel
theorem dX4_manyNames_51 : decode cX4_manyNames 51 = .ok (.iinc 3 1, 3) := by decide +kernel
theorem dX4_manyNames_54 : decode cX4_manyNames 54 = .ok (.goto (-50), 3) := by decide +kernel
theorem dX4_manyNames_57 : decode cX4_manyNames 57 = .ok (.iload_n 2, 1) := by decide +kernel
theorem dX4_manyNames_58 : decode cX4_manyNames 58 = .ok (.ireturn, 1) := by decide +kernel
theorem dX4_manyClosed_0 : decode cX4_manyClosed 0 = .ok (.iconst 0, 1) := by decide +kernel
theorem dX4_manyClosed_1 : decode cX4_manyClosed 1 = .ok (.istore_n 1, 1) := by decide +kernel
theorem dX4_manyClosed_2 : decode cX4_manyClosed 2 = .ok (.iconst 0, 1) := by decide +kernel
theorem dX4_manyClosed_3 : decode cX4_manyClosed 3 = .ok (.istore_n 2, 1) := by decide +kernel
theorem dX4_manyClosed_4 : decode cX4_manyClosed 4 = .ok (.iload_n 2, 1) := by decide +kernel
theorem dX4_manyClosed_5 : decode cX4_manyClosed 5 = .ok (.aload_n 0, 1) := by decide +kernel
theorem dX4_manyClosed_6 : decode cX4_manyClosed 6 = .ok (.getfield 84, 3) := by decide +kernel
theorem dX4_manyClosed_9 : decode cX4_manyClosed 9 = .ok (.if_icmp .ge 25, 3) := by decide +kernel
theorem dX4_manyClosed_12 : decode cX4_manyClosed 12 = .ok (.iload_n 1, 1) := by decide +kernel
theorem dX4_manyClosed_13 : decode cX4_manyClosed 13 = .ok (.aload_n 0, 1) := by decide +kernel
theorem dX4_manyClosed_14 : decode cX4_manyClosed 14 = .ok (.iload_n 2, 1) := by decide +kernel
theorem dX4_manyClosed_15 : decode cX4_manyClosed 15 = .ok (.invokevirtual 154, 3) := by decide +kernel
theorem dX4_manyClosed_18 : decode cX4_manyClosed 18 = .ok (.ifCond .eq 7, 3) := by decide +kernel
theorem dX4_manyClosed_21 : decode cX4_manyClosed 21 = .ok (.iconst 1, 1) := by decide +kernel
theorem dX4_manyClosed_22 : decode cX4_manyClosed 22 = .ok (.goto 4, 3) := by decide +kernel
theorem dX4_manyClosed_25 : decode cX4_manyClosed 25 = .ok (.iconst 0, 1) := by decide +kernel
theorem dX4_manyClosed_26 : decode cX4_manyClosed 26 = .ok (.iadd, 1) := by decide +kernel
theorem dX4_manyClosed_27 : decode cX4_manyClosed 27 = .ok (.istore_n 1, 1) := by decide +kernel
theorem dX4_manyClosed_28 : decode cX4_manyClosed 28 = .ok (.iinc 2 1, 3) := by decide +kernel
theorem dX4_manyClosed_31 : decode cX4_manyClosed 31 = .ok (.goto (-27), 3) := by decide +kernel
theorem dX4_manyClosed_34 : decode cX4_manyClosed 34 = .ok (.iload_n 1, 1) := by decide +kernel
theorem dX4_manyClosed_35 : decode cX4_manyClosed 35 = .ok (.ireturn, 1) := by decide +kernel
theorem dX4_many_0 : decode cX4_many 0 = .ok (.iload_n 1, 1) := by decide +kernel
theorem dX4_many_1 : decode cX4_many 1 = .ok (.tableswitch 62 0 4 #[35, 40, 45, 51, 57], 35) := by decide +kernel
theorem dX4_many_36 : decode cX4_many 36 = .ok (.aload_n 0, 1) := by decide +kernel
theorem dX4_many_37 : decode cX4_many 37 = .ok (.getfield 76, 3) := by decide +kernel
theorem dX4_many_40 : decode cX4_many 40 = .ok (.ireturn, 1) := by decide +kernel
theorem dX4_many_41 : decode cX4_many 41 = .ok (.aload_n 0, 1) := by decide +kernel
theorem dX4_many_42 : decode cX4_many 42 = .ok (.getfield 84, 3) := by decide +kernel
theorem dX4_many_45 : decode cX4_many 45 = .ok (.ireturn, 1) := by decide +kernel
theorem dX4_many_46 : decode cX4_many 46 = .ok (.aload_n 0, 1) := by decide +kernel
theorem dX4_many_47 : decode cX4_many 47 = .ok (.iconst 0, 1) := by decide +kernel
theorem dX4_many_48 : decode cX4_many 48 = .ok (.invokevirtual 236, 3) := by decide +kernel
theorem dX4_many_51 : decode cX4_many 51 = .ok (.ireturn, 1) := by decide +kernel
theorem dX4_many_52 : decode cX4_many 52 = .ok (.aload_n 0, 1) := by decide +kernel
theorem dX4_many_53 : decode cX4_many 53 = .ok (.iconst 1, 1) := by decide +kernel
theorem dX4_many_54 : decode cX4_many 54 = .ok (.invokevirtual 236, 3) := by decide +kernel
theorem dX4_many_57 : decode cX4_many 57 = .ok (.ireturn, 1) := by decide +kernel
theorem dX4_many_58 : decode cX4_many 58 = .ok (.aload_n 0, 1) := by decide +kernel
theorem dX4_many_59 : decode cX4_many 59 = .ok (.invokevirtual 240, 3) := by decide +kernel
theorem dX4_many_62 : decode cX4_many 62 = .ok (.ireturn, 1) := by decide +kernel
theorem dX4_many_63 : decode cX4_many 63 = .ok (.bipush (-2), 2) := by decide +kernel
theorem dX4_many_65 : decode cX4_many 65 = .ok (.ireturn, 1) := by decide +kernel
end
section
/-! MY LAYER: memory of whole numbers, cells by number; AW: the machine at a pc of a method over such a memory; AM: a method's contract -/
abbrev Mem : Type := Nat → Int → Int
def rg (a : Int) : Prop := -2147483648 ≤ a ∧ a ≤ 2147483647
def rl (a : Int) : Prop := -9223372036854775808 ≤ a ∧ a ≤ 9223372036854775807
def b01 (a : Int) : Prop := a = 0 ∨ a = 1
def vi (a : Int) : Value := .int (Int32.ofInt a)
def vl (a : Int) : Value := .long (Int64.ofInt a)
def up (M : Mem) (c : Nat) (i v : Int) : Mem := fun c' => if c' = c then fun j => if j = i then v else M c j else M c'
theorem up_at (M : Mem) (c : Nat) (i v : Int) : up M c i v c = fun j => if j = i then v else M c j := by simp [up]
theorem up_off {M : Mem} {c c' : Nat} {i v : Int} (h : c' ≠ c) : up M c i v c' = M c' := by simp [up, h]
abbrev WX : Type := Launch × va_G × (Nat → Nat) × Nat × (Nat → (Int → Int) → va_E) × List (ClassId × FieldType) × (Nat → Bool)
def xl (X : WX) : Launch := X.1
def xD (X : WX) : va_G := X.2.1
def xad (X : WX) : Nat → Nat := X.2.2.1
def xK (X : WX) : Nat := X.2.2.2.1
def xE (X : WX) : Nat → (Int → Int) → va_E := X.2.2.2.2.1
def xty (X : WX) : List (ClassId × FieldType) := X.2.2.2.2.2.1
def xL (X : WX) : Nat → Bool := X.2.2.2.2.2.2
def xw (X : WX) (M : Mem) : va_W := (List.range (xK X)).map (fun c => (xad X c, xE X c (M c)))
def xA (X : WX) : Nat → Prop := fun q => ∃ k : Nat, k < xK X ∧ q = xad X k
def RG (X : WX) (M : Mem) : Prop := ∀ (c : Nat) (i : Int), (xL X c = true → rl (M c i)) ∧ (xL X c = false → rg (M c i))
abbrev MC : Type := String × ByteArray × Nat × Option FieldType × Room
def rmL (d : Nat) : Room := { frames := d, cells := 0, slots := 0, locals := 40 * d }
theorem xw_get (X : WX) (M : Mem) {q : Nat} (h : q < xK X) : (xw X M)[q]? = some (xad X q, xE X q (M q)) := by
  simp [xw, h]
theorem xw_set (X : WX) (M M' : Mem) {q : Nat} (e : va_E) (he : xE X q (M' q) = e) (ho : ∀ c, c ≠ q → M' c = M c) : (xw X M).set q (xad X q, e) = xw X M' := by
  apply List.ext_getElem?
  intro j
  rw [List.getElem?_set]
  by_cases hj : q = j
  · subst hj
    by_cases hl : q < xK X
    · simp [xw, hl, he]
    · simp [xw, hl]
  · rw [if_neg hj]
    by_cases hl : j < xK X
    · rw [xw_get X M hl, xw_get X M' hl, ho j (fun h => hj h.symm)]
    · simp [xw, hl]
def gtb : List Cond := lw_tbl.filter goodWord
theorem tbl_good : ∀ w ∈ gtb, goodWord w = true := fun _ h => (List.mem_filter.mp h).2
theorem gtb_in {w : Cond} (h : w ∈ lw_tbl) (g : goodWord w = true) : w ∈ gtb := List.mem_filter.mpr ⟨h, g⟩
def AC (X : WX) (mc : MC) (p : Program) (s : State) (m : MethodId) (args : Array Value) (meth : Method) (c : Code) : Prop :=
  p.tables.exec = Jvm.exec ∧ c.code = mc.2.1 ∧ meth.sig.returnType = mc.2.2.2.1 ∧ c.maxLocals = mc.2.2.1 ∧ (∀ w ∈ gtb, w.before args s = true) ∧ s.vm.findClass mc.1 = some m.cls ∧ meth.locks = false ∧ va_K (xD X) vwCl (xty X) s ∧ ∀ M, va_D (xA X) (xw X M)
def AQ (X : WX) (Q : Option Value → Mem → Prop) : Array Value → State → Outcome → State → Prop := fun _ st oc t =>
  (∃ (v : Option Value) (M : Mem), oc = .returned v ∧ Q v M ∧ RG X M ∧ va_P (xD X) vwCl (xw X M) t.heap ∧ va_K (xD X) vwCl (xty X) t) ∧ va_F (xA X) st t
def AW (X : WX) (mc : MC) (Q : Option Value → Mem → Prop) (pc : Nat) (lv : List (Nat × Value)) (st : List Value) (M : Mem) : Prop :=
  RG X M → ∀ (p : Program) (e : Env) (s : State) (m : MethodId) (args : Array Value) (below : List Frame) (meth : Method) (c : Code) (H : Heap) (locs : List Loc) (ls : Array Slot),
    AC X mc p s m args meth c → va_P (xD X) vwCl (xw X M) H → va_S (xA X) s.heap H locs → lv_has ls mc.2.2.1 lv →
    W p (xl X) e mc.2.2.2.2 s m args below meth c H locs 0 0 (MQ below (AQ X Q) args s 0 0 (xA X)) (F0 m pc ls st)
def AM (X : WX) (y : MethodName) (mc : MC) (av : List Value) (M : Mem) (Q : Option Value → Mem → Prop) : Prop :=
  RG X M → Met (xl X) y (.code y mc.2.1 mc.2.2.1 mc.2.2.2.1 :: gtb) mc.2.2.2.2 (va_Pc av (fun U => va_P (xD X) vwCl (xw X M) U.heap ∧ va_K (xD X) vwCl (xty X) U ∧ ∀ M, va_D (xA X) (xw X M))) (AQ X Q) 0 0 (xA X)
theorem gtb_all (ws : List Cond) (h : ∀ w ∈ ws, w ∈ lw_tbl) (g : ws.all goodWord = true) : ∀ w ∈ ws, w ∈ gtb := fun w hw => gtb_in (h w hw) (List.all_eq_true.mp g w hw)
theorem AM.ofAW {X : WX} {y : MethodName} {mc : MC} {av : List Value} {M : Mem} {Q : Option Value → Mem → Prop} (hy : plainName y.cls = true) (hc : mc.1 = y.cls) (hl : (lg_sl av).length ≤ mc.2.2.1)
    (k : AW X mc Q 0 (lv_args 0 av) [] M) : AM X y mc av M Q := by
  intro hR
  refine Met.ofW (cc := mc.2.1) (maxL := mc.2.2.1) (ret := mc.2.2.2.1) hy rfl ?_
  intro p e s m args below meth c s₁ B hml hv
  obtain ⟨rfl, hP, hK, hD⟩ := hv
  have hts := atoms_spec (ws := .code y mc.2.1 mc.2.2.1 mc.2.2.2.1 :: gtb) B.pre
  have hown : s.vm.findClass y.cls = some m.cls := findClass_of_methodNamed B.named
  rw [lg_entry_eq]
  exact k hR p e s m av.toArray below meth c s.heap [] _ ⟨B.exec, B.bytes, B.returns, hml, fun w h => hts w (List.mem_cons_of_mem _ h), by rw [hc]; exact hown, B.notSynchronized, hK, hD⟩ hP va_S.rf (lv_entry av hl)
section ROWS
variable {X : WX} {mc : MC} {Q : Option Value → Mem → Prop} {pc : Nat} {lv : List (Nat × Value)} {st : List Value} {M : Mem}
theorem AW.pick (ks : List Nat) {lv' : List (Nat × Value)} (h : lv_pick lv ks = lv') (k : AW X mc Q pc lv' st M) : AW X mc Q pc lv st M :=
  fun hR p e s m args below meth c H locs ls C hP hS hl => k hR p e s m args below meth c H locs ls C hP hS (lv_sub hl ks h)
theorem AW.rng (k : RG X M → AW X mc Q pc lv st M) : AW X mc Q pc lv st M := fun hR => k hR hR
theorem a_iconst {n : Int} (d : decode mc.2.1 pc = .ok (.iconst n, 1)) (k : AW X mc Q (pc + 1) lv (vi n :: st) M) : AW X mc Q pc lv st M :=
  fun hR p e s m args below meth c H locs ls C hP hS hl => lv_iconst C.1 C.2.1 d rfl (k hR p e s m args below meth c H locs ls C hP hS hl)
theorem n_i8 {n : Int} (h : -128 ≤ n ∧ n ≤ 127) : (Int8.ofInt n).toInt32 = Int32.ofInt n := by
  apply Int32.toInt_inj.mp
  rw [Int8.toInt_toInt32, Int8.toInt_ofInt_of_le (by omega) (by omega), Int32.toInt_ofInt_of_le (by omega) (by omega)]
theorem n_i16 {n : Int} (h : -32768 ≤ n ∧ n ≤ 32767) : (Int16.ofInt n).toInt32 = Int32.ofInt n := by
  apply Int32.toInt_inj.mp
  rw [Int16.toInt_toInt32, Int16.toInt_ofInt_of_le (by omega) (by omega), Int32.toInt_ofInt_of_le (by omega) (by omega)]
theorem a_bipush {n : Int} (h : -128 ≤ n ∧ n ≤ 127) (d : decode mc.2.1 pc = .ok (.bipush n, 2)) (k : AW X mc Q (pc + 2) lv (vi n :: st) M) : AW X mc Q pc lv st M :=
  fun hR p e s m args below meth c H locs ls C hP hS hl => lv_bipush C.1 C.2.1 d (n_i8 h) (k hR p e s m args below meth c H locs ls C hP hS hl)
theorem a_sipush {n : Int} (h : -32768 ≤ n ∧ n ≤ 32767) (d : decode mc.2.1 pc = .ok (.sipush n, 3)) (k : AW X mc Q (pc + 3) lv (vi n :: st) M) : AW X mc Q pc lv st M :=
  fun hR p e s m args below meth c H locs ls C hP hS hl => lv_sipush C.1 C.2.1 d (n_i16 h) (k hR p e s m args below meth c H locs ls C hP hS hl)
theorem a_lconst {n : Fin 2} {v : Int} (hv : Int64.ofNat (n : Nat) = Int64.ofInt v) (d : decode mc.2.1 pc = .ok (.lconst n, 1)) (k : AW X mc Q (pc + 1) lv (vl v :: st) M) : AW X mc Q pc lv st M :=
  fun hR p e s m args below meth c H locs ls C hP hS hl => lv_lconst C.1 C.2.1 d hv (k hR p e s m args below meth c H locs ls C hP hS hl)
theorem a_ldc {index : Nat} {v : Int32} {n : Int} (hw : Cond.constant mc.1 index v ∈ gtb) (hv : v = Int32.ofInt n) (d : decode mc.2.1 pc = .ok (.ldc index, 2)) (k : AW X mc Q (pc + 2) lv (vi n :: st) M) : AW X mc Q pc lv st M :=
  fun hR p e s m args below meth c H locs ls C hP hS hl => by
    subst hv
    exact lv_ldc C.1 C.2.1 C.2.2.2.2.2.1 (C.2.2.2.2.1 _ hw) d (k hR p e s m args below meth c H locs ls C hP hS hl)
theorem a_ldc2 {index : Nat} {v : Int64} {n : Int} (hw : Cond.constantLong mc.1 index v ∈ gtb) (hv : v = Int64.ofInt n) (d : decode mc.2.1 pc = .ok (.ldc2_w index, 3)) (k : AW X mc Q (pc + 3) lv (vl n :: st) M) : AW X mc Q pc lv st M :=
  fun hR p e s m args below meth c H locs ls C hP hS hl => by
    subst hv
    exact lv_ldc2 C.1 C.2.1 C.2.2.2.2.2.1 (C.2.2.2.2.1 _ hw) d (k hR p e s m args below meth c H locs ls C hP hS hl)
theorem a_iload_n {i : Fin 4} {x : Int} (j : Nat) (hj : lv[j]? = some ((i : Nat), vi x)) (d : decode mc.2.1 pc = .ok (.iload_n i, 1)) (k : AW X mc Q (pc + 1) lv (vi x :: st) M) : AW X mc Q pc lv st M :=
  fun hR p e s m args below meth c H locs ls C hP hS hl => lv_iload_n C.1 C.2.1 d rfl (lv_at hl j hj) (k hR p e s m args below meth c H locs ls C hP hS hl)
theorem a_iload {i : Nat} {x : Int} (j : Nat) (hj : lv[j]? = some (i, vi x)) (d : decode mc.2.1 pc = .ok (.iload i, 2)) (k : AW X mc Q (pc + 2) lv (vi x :: st) M) : AW X mc Q pc lv st M :=
  fun hR p e s m args below meth c H locs ls C hP hS hl => lv_iload C.1 C.2.1 d (lv_at hl j hj) (k hR p e s m args below meth c H locs ls C hP hS hl)
theorem a_lload_n {i : Fin 4} {x : Int} (j : Nat) (hj : lv[j]? = some ((i : Nat), vl x)) (d : decode mc.2.1 pc = .ok (.lload_n i, 1)) (k : AW X mc Q (pc + 1) lv (vl x :: st) M) : AW X mc Q pc lv st M :=
  fun hR p e s m args below meth c H locs ls C hP hS hl => lv_lload_n C.1 C.2.1 d rfl (lv_at hl j hj) (k hR p e s m args below meth c H locs ls C hP hS hl)
theorem a_lload {i : Nat} {x : Int} (j : Nat) (hj : lv[j]? = some (i, vl x)) (d : decode mc.2.1 pc = .ok (.lload i, 2)) (k : AW X mc Q (pc + 2) lv (vl x :: st) M) : AW X mc Q pc lv st M :=
  fun hR p e s m args below meth c H locs ls C hP hS hl => lv_lload C.1 C.2.1 d (lv_at hl j hj) (k hR p e s m args below meth c H locs ls C hP hS hl)
theorem a_aload_n {i : Fin 4} {x : Nat} (j : Nat) (hj : lv[j]? = some ((i : Nat), .ref x)) (d : decode mc.2.1 pc = .ok (.aload_n i, 1)) (k : AW X mc Q (pc + 1) lv (.ref x :: st) M) : AW X mc Q pc lv st M :=
  fun hR p e s m args below meth c H locs ls C hP hS hl => lv_aload_n C.1 C.2.1 d rfl (lv_at hl j hj) (k hR p e s m args below meth c H locs ls C hP hS hl)
theorem a_istore_n {i : Fin 4} {x : Int} {lv' : List (Nat × Value)} (hn : (i : Nat) < mc.2.2.1) (hl' : ((i : Nat), vi x) :: lv.filter (fun q => !(q.1 == (i : Nat)) && !(q.1 + 1 == (i : Nat) && q.2.category == 2)) = lv') (d : decode mc.2.1 pc = .ok (.istore_n i, 1)) (k : AW X mc Q (pc + 1) lv' st M) : AW X mc Q pc lv (vi x :: st) M :=
  fun hR p e s m args below meth c H locs ls C hP hS hl => lv_istore_n C.1 C.2.1 d rfl hl hn hl' (fun ls hl => k hR p e s m args below meth c H locs ls C hP hS hl)
theorem a_istore {i : Nat} {x : Int} {lv' : List (Nat × Value)} (hn : i < mc.2.2.1) (hl' : (i, vi x) :: lv.filter (fun q => !(q.1 == i) && !(q.1 + 1 == i && q.2.category == 2)) = lv') (d : decode mc.2.1 pc = .ok (.istore i, 2)) (k : AW X mc Q (pc + 2) lv' st M) : AW X mc Q pc lv (vi x :: st) M :=
  fun hR p e s m args below meth c H locs ls C hP hS hl => lv_istore C.1 C.2.1 d hl hn hl' (fun ls hl => k hR p e s m args below meth c H locs ls C hP hS hl)
theorem a_lstore_n {i : Fin 4} {x : Int} {lv' : List (Nat × Value)} (hn : (i : Nat) + 1 < mc.2.2.1) (hl' : ((i : Nat), vl x) :: lv.filter (fun q => !(q.1 == (i : Nat)) && (!(q.1 == (i : Nat) + 1) && !(q.1 + 1 == (i : Nat) && q.2.category == 2))) = lv') (d : decode mc.2.1 pc = .ok (.lstore_n i, 1)) (k : AW X mc Q (pc + 1) lv' st M) : AW X mc Q pc lv (vl x :: st) M :=
  fun hR p e s m args below meth c H locs ls C hP hS hl => lv_lstore_n C.1 C.2.1 d rfl hl hn hl' (fun ls hl => k hR p e s m args below meth c H locs ls C hP hS hl)
theorem a_lstore {i : Nat} {x : Int} {lv' : List (Nat × Value)} (hn : i + 1 < mc.2.2.1) (hl' : (i, vl x) :: lv.filter (fun q => !(q.1 == i) && (!(q.1 == i + 1) && !(q.1 + 1 == i && q.2.category == 2))) = lv') (d : decode mc.2.1 pc = .ok (.lstore i, 2)) (k : AW X mc Q (pc + 2) lv' st M) : AW X mc Q pc lv (vl x :: st) M :=
  fun hR p e s m args below meth c H locs ls C hP hS hl => lv_lstore C.1 C.2.1 d hl hn hl' (fun ls hl => k hR p e s m args below meth c H locs ls C hP hS hl)
theorem a_astore_n {i : Fin 4} {x : Nat} {lv' : List (Nat × Value)} (hn : (i : Nat) < mc.2.2.1) (hl' : ((i : Nat), Value.ref x) :: lv.filter (fun q => !(q.1 == (i : Nat)) && !(q.1 + 1 == (i : Nat) && q.2.category == 2)) = lv') (d : decode mc.2.1 pc = .ok (.astore_n i, 1)) (k : AW X mc Q (pc + 1) lv' st M) : AW X mc Q pc lv (.ref x :: st) M :=
  fun hR p e s m args below meth c H locs ls C hP hS hl => lv_astore_n C.1 C.2.1 d rfl hl hn hl' (fun ls hl => k hR p e s m args below meth c H locs ls C hP hS hl)
theorem a_iinc {i : Nat} {x n : Int} {lv' : List (Nat × Value)} (j : Nat) (hj : lv[j]? = some (i, vi x)) (hn : i < mc.2.2.1) (hl' : (i, vi (x + n)) :: lv.filter (fun q => !(q.1 == i) && !(q.1 + 1 == i && q.2.category == 2)) = lv') (d : decode mc.2.1 pc = .ok (.iinc i n, 3)) (k : AW X mc Q (pc + 3) lv' st M) : AW X mc Q pc lv st M :=
  fun hR p e s m args below meth c H locs ls C hP hS hl => lv_iinc C.1 C.2.1 d hl hj (Int32.ofInt_add x n).symm hn hl' (fun ls hl => k hR p e s m args below meth c H locs ls C hP hS hl)
theorem AW.e1 {a b : Value} (h : a = b) (k : AW X mc Q pc lv (a :: st) M) : AW X mc Q pc lv (b :: st) M := h ▸ k
end ROWS
end
section
/-! rows of my layer: arithmetic, branches, arrays, fields, calls, returns -/
def bor (a b : Int) : Int := (Int32.ofInt a ||| Int32.ofInt b).toInt
def band (a b : Int) : Int := (Int32.ofInt a &&& Int32.ofInt b).toInt
def bshl (a b : Int) : Int := (Int32.ofInt a <<< (Int32.ofInt b &&& 31)).toInt
def bshr (a b : Int) : Int := (Int32.ofInt a >>> (Int32.ofInt b &&& 31)).toInt
def lbor (a b : Int) : Int := (Int64.ofInt a ||| Int64.ofInt b).toInt
def lbshl (a b : Int) : Int := (Int64.ofInt a <<< ((Int32.ofInt b).toInt64 &&& 63)).toInt
def lbushr (a b : Int) : Int := ((Int64.ofInt a).toUInt64 >>> ((Int32.ofInt b).toInt64.toUInt64 &&& Int64.toUInt64 63)).toInt64.toInt
def bl2i (a : Int) : Int := (Int64.ofInt a).toInt32.toInt
def lcm (a b : Int) : Int := if b < a then 1 else if a = b then 0 else -1
theorem rg_t (x : Int32) : rg x.toInt := by
  have h1 := x.toInt_lt
  have h2 := x.le_toInt
  unfold rg
  omega
theorem rl_t (x : Int64) : rl x.toInt := by
  have h1 := x.toInt_lt
  have h2 := x.le_toInt
  unfold rl
  omega
theorem toI {a : Int} (h : rg a) : (Int32.ofInt a).toInt = a := by
  unfold rg at h
  exact Int32.toInt_ofInt_of_le (by omega) (by omega)
theorem toL {a : Int} (h : rl a) : (Int64.ofInt a).toInt = a := by
  unfold rl at h
  exact Int64.toInt_ofInt_of_le (by omega) (by omega)
theorem lt_I {a b : Int} (ha : rg a) (hb : rg b) : Int32.ofInt a < Int32.ofInt b ↔ a < b := by rw [Int32.lt_iff_toInt_lt, toI ha, toI hb]
theorem le_I {a b : Int} (ha : rg a) (hb : rg b) : Int32.ofInt a ≤ Int32.ofInt b ↔ a ≤ b := by rw [Int32.le_iff_toInt_le, toI ha, toI hb]
theorem eq_I {a b : Int} (ha : rg a) (hb : rg b) : Int32.ofInt a = Int32.ofInt b ↔ a = b := by rw [← Int32.toInt_inj, toI ha, toI hb]
theorem rg_0 : rg 0 := by unfold rg; omega
theorem z_I : (0 : Int32) = Int32.ofInt 0 := rfl
theorem cl_I {i : Int} {n : Nat} (hn : n < 2147483648) (h : 0 ≤ i ∧ i < (n : Int)) : (Int32.ofInt i).toNatClampNeg = i.toNat := Int32.toNatClampNeg_ofInt_of_le (by omega) (by omega)
theorem in_I {i : Int} {n : Nat} (hn : n < 2147483648) (h : 0 ≤ i ∧ i < (n : Int)) : vp_in (Int32.ofInt i) n := by
  intro q
  rcases q with q | q
  · rw [z_I, lt_I (by unfold rg; omega) rg_0] at q
    omega
  · rw [cl_I hn h] at q
    omega
theorem w_band (a b : Int) : Value.int (Int32.ofInt a &&& Int32.ofInt b) = vi (band a b) := by unfold vi band; rw [Int32.ofInt_toInt]
theorem w_bor (a b : Int) : Value.int (Int32.ofInt a ||| Int32.ofInt b) = vi (bor a b) := by unfold vi bor; rw [Int32.ofInt_toInt]
section ROWS
variable {X : WX} {mc : MC} {Q : Option Value → Mem → Prop} {pc : Nat} {lv : List (Nat × Value)} {st : List Value} {M : Mem}
theorem a_iadd {a b : Int} (d : decode mc.2.1 pc = .ok (.iadd, 1)) (k : AW X mc Q (pc + 1) lv (vi (a + b) :: st) M) : AW X mc Q pc lv (vi b :: vi a :: st) M :=
  fun hR p e s m args below meth c H locs ls C hP hS hl => lv_iadd C.1 C.2.1 d (by rw [← Int32.ofInt_add]; exact k hR p e s m args below meth c H locs ls C hP hS hl)
theorem a_isub {a b : Int} (d : decode mc.2.1 pc = .ok (.isub, 1)) (k : AW X mc Q (pc + 1) lv (vi (a - b) :: st) M) : AW X mc Q pc lv (vi b :: vi a :: st) M :=
  fun hR p e s m args below meth c H locs ls C hP hS hl => lv_isub C.1 C.2.1 d (by rw [← Int32.ofInt_sub]; exact k hR p e s m args below meth c H locs ls C hP hS hl)
theorem a_imul {a b : Int} (d : decode mc.2.1 pc = .ok (.imul, 1)) (k : AW X mc Q (pc + 1) lv (vi (a * b) :: st) M) : AW X mc Q pc lv (vi b :: vi a :: st) M :=
  fun hR p e s m args below meth c H locs ls C hP hS hl => lv_imul C.1 C.2.1 d (by rw [← Int32.ofInt_mul]; exact k hR p e s m args below meth c H locs ls C hP hS hl)
theorem a_idiv {a b : Int} (ga : rg a) (gb : rg b) (h0 : b ≠ 0) (d : decode mc.2.1 pc = .ok (.idiv, 1)) (k : AW X mc Q (pc + 1) lv (vi (Int.tdiv a b) :: st) M) : AW X mc Q pc lv (vi b :: vi a :: st) M :=
  fun hR p e s m args below meth c H locs ls C hP hS hl => lv_idiv C.1 C.2.1 d (by rw [z_I, eq_I gb rg_0]; exact h0) (by rw [← Int32.ofInt_tdiv ga.1 ga.2 gb.1 gb.2]; exact k hR p e s m args below meth c H locs ls C hP hS hl)
theorem a_irem {a b : Int} (ga : rg a) (gb : rg b) (h0 : b ≠ 0) (d : decode mc.2.1 pc = .ok (.irem, 1)) (k : AW X mc Q (pc + 1) lv (vi (Int.tmod a b) :: st) M) : AW X mc Q pc lv (vi b :: vi a :: st) M :=
  fun hR p e s m args below meth c H locs ls C hP hS hl => lv_irem C.1 C.2.1 d (by rw [z_I, eq_I gb rg_0]; exact h0) (by
    have h : Int32.ofInt a - Int32.ofInt a / Int32.ofInt b * Int32.ofInt b = Int32.ofInt (Int.tmod a b) := by rw [← Int32.ofInt_tdiv ga.1 ga.2 gb.1 gb.2, ← Int32.ofInt_mul, ← Int32.ofInt_sub, Int.tmod_def, Int.mul_comm]
    rw [h]; exact k hR p e s m args below meth c H locs ls C hP hS hl)
theorem a_iand {a b : Int} (d : decode mc.2.1 pc = .ok (.iand, 1)) (k : AW X mc Q (pc + 1) lv (vi (band a b) :: st) M) : AW X mc Q pc lv (vi b :: vi a :: st) M :=
  fun hR p e s m args below meth c H locs ls C hP hS hl => lv_iand C.1 C.2.1 d (by rw [w_band]; exact k hR p e s m args below meth c H locs ls C hP hS hl)
theorem a_ior {a b : Int} (d : decode mc.2.1 pc = .ok (.ior, 1)) (k : AW X mc Q (pc + 1) lv (vi (bor a b) :: st) M) : AW X mc Q pc lv (vi b :: vi a :: st) M :=
  fun hR p e s m args below meth c H locs ls C hP hS hl => lv_ior C.1 C.2.1 d (by rw [w_bor]; exact k hR p e s m args below meth c H locs ls C hP hS hl)
theorem a_ishl {a b : Int} (d : decode mc.2.1 pc = .ok (.ishl, 1)) (k : AW X mc Q (pc + 1) lv (vi (bshl a b) :: st) M) : AW X mc Q pc lv (vi b :: vi a :: st) M :=
  fun hR p e s m args below meth c H locs ls C hP hS hl => lv_ishl C.1 C.2.1 d (by
    have k := k hR p e s m args below meth c H locs ls C hP hS hl
    unfold vi bshl at k; rw [Int32.ofInt_toInt] at k; exact k)
theorem a_ishr {a b : Int} (d : decode mc.2.1 pc = .ok (.ishr, 1)) (k : AW X mc Q (pc + 1) lv (vi (bshr a b) :: st) M) : AW X mc Q pc lv (vi b :: vi a :: st) M :=
  fun hR p e s m args below meth c H locs ls C hP hS hl => lv_ishr C.1 C.2.1 d (by
    have k := k hR p e s m args below meth c H locs ls C hP hS hl
    unfold vi bshr at k; rw [Int32.ofInt_toInt] at k; exact k)
theorem a_ladd {a b : Int} (d : decode mc.2.1 pc = .ok (.ladd, 1)) (k : AW X mc Q (pc + 1) lv (vl (a + b) :: st) M) : AW X mc Q pc lv (vl b :: vl a :: st) M :=
  fun hR p e s m args below meth c H locs ls C hP hS hl => lv_ladd C.1 C.2.1 d (by rw [← Int64.ofInt_add]; exact k hR p e s m args below meth c H locs ls C hP hS hl)
theorem a_lmul {a b : Int} (d : decode mc.2.1 pc = .ok (.lmul, 1)) (k : AW X mc Q (pc + 1) lv (vl (a * b) :: st) M) : AW X mc Q pc lv (vl b :: vl a :: st) M :=
  fun hR p e s m args below meth c H locs ls C hP hS hl => lv_lmul C.1 C.2.1 d (by rw [← Int64.ofInt_mul]; exact k hR p e s m args below meth c H locs ls C hP hS hl)
theorem eq_L {a b : Int} (ha : rl a) (hb : rl b) : Int64.ofInt a = Int64.ofInt b ↔ a = b := by rw [← Int64.toInt_inj, toL ha, toL hb]
theorem lt_L {a b : Int} (ha : rl a) (hb : rl b) : Int64.ofInt a < Int64.ofInt b ↔ a < b := by rw [Int64.lt_iff_toInt_lt, toL ha, toL hb]
theorem z_L : (0 : Int64) = Int64.ofInt 0 := rfl
theorem rl_0 : rl 0 := by unfold rl; omega
theorem a_ldiv {a b : Int} (ga : rl a) (gb : rl b) (h0 : b ≠ 0) (d : decode mc.2.1 pc = .ok (.ldiv, 1)) (k : AW X mc Q (pc + 1) lv (vl (Int.tdiv a b) :: st) M) : AW X mc Q pc lv (vl b :: vl a :: st) M :=
  fun hR p e s m args below meth c H locs ls C hP hS hl => lv_ldiv C.1 C.2.1 d (by rw [z_L, eq_L gb rl_0]; exact h0) (by rw [← Int64.ofInt_tdiv ga.1 ga.2 gb.1 gb.2]; exact k hR p e s m args below meth c H locs ls C hP hS hl)
theorem a_lor {a b : Int} (d : decode mc.2.1 pc = .ok (.lor, 1)) (k : AW X mc Q (pc + 1) lv (vl (lbor a b) :: st) M) : AW X mc Q pc lv (vl b :: vl a :: st) M :=
  fun hR p e s m args below meth c H locs ls C hP hS hl => lv_lor C.1 C.2.1 d (by
    have k := k hR p e s m args below meth c H locs ls C hP hS hl
    unfold vl lbor at k; rw [Int64.ofInt_toInt] at k; exact k)
theorem a_lshl {a b : Int} (d : decode mc.2.1 pc = .ok (.lshl, 1)) (k : AW X mc Q (pc + 1) lv (vl (lbshl a b) :: st) M) : AW X mc Q pc lv (vi b :: vl a :: st) M :=
  fun hR p e s m args below meth c H locs ls C hP hS hl => lv_lshl C.1 C.2.1 d rfl (by
    have k := k hR p e s m args below meth c H locs ls C hP hS hl
    unfold vl lbshl at k; rw [Int64.ofInt_toInt] at k; exact k)
theorem a_lushr {a b : Int} (d : decode mc.2.1 pc = .ok (.lushr, 1)) (k : AW X mc Q (pc + 1) lv (vl (lbushr a b) :: st) M) : AW X mc Q pc lv (vi b :: vl a :: st) M :=
  fun hR p e s m args below meth c H locs ls C hP hS hl => lv_lushr C.1 C.2.1 d rfl (by
    have k := k hR p e s m args below meth c H locs ls C hP hS hl
    unfold vl lbushr at k; rw [Int64.ofInt_toInt] at k; exact k)
theorem a_l2i {a : Int} (d : decode mc.2.1 pc = .ok (.l2i, 1)) (k : AW X mc Q (pc + 1) lv (vi (bl2i a) :: st) M) : AW X mc Q pc lv (vl a :: st) M :=
  fun hR p e s m args below meth c H locs ls C hP hS hl => lv_l2i C.1 C.2.1 d rfl (by
    have k := k hR p e s m args below meth c H locs ls C hP hS hl
    unfold vi bl2i at k; rw [Int32.ofInt_toInt] at k; exact k)
theorem rl_g {a : Int} (h : rg a) : rl a := by unfold rg at h; unfold rl; omega
theorem a_i2l {a : Int} (ga : rg a) (d : decode mc.2.1 pc = .ok (.i2l, 1)) (k : AW X mc Q (pc + 1) lv (vl a :: st) M) : AW X mc Q pc lv (vi a :: st) M :=
  fun hR p e s m args below meth c H locs ls C hP hS hl => lv_i2l C.1 C.2.1 d (by
    show (Int32.ofInt a).toInt64 = Int64.ofInt a
    apply Int64.toInt_inj.mp
    rw [Int32.toInt_toInt64, toI ga, toL (rl_g ga)]) (k hR p e s m args below meth c H locs ls C hP hS hl)
theorem lcm_I {a b : Int} (ga : rl a) (gb : rl b) : lg_cmp (Int64.ofInt a) (Int64.ofInt b) = Int32.ofInt (lcm a b) := by
  unfold lg_cmp lcm
  simp only [gt_iff_lt, lt_L gb ga, eq_L ga gb]
  split
  · rfl
  · split <;> rfl
theorem a_lcmp {a b : Int} (ga : rl a) (gb : rl b) (d : decode mc.2.1 pc = .ok (.lcmp, 1)) (k : AW X mc Q (pc + 1) lv (vi (lcm a b) :: st) M) : AW X mc Q pc lv (vl b :: vl a :: st) M :=
  fun hR p e s m args below meth c H locs ls C hP hS hl => W.lcmp C.1 C.2.1 d (by rw [lcm_I ga gb]; exact k hR p e s m args below meth c H locs ls C hP hS hl)
theorem rg_lcm (a b : Int) : rg (lcm a b) := by
  unfold lcm rg
  split
  · omega
  · split <;> omega
theorem a_dup {v : Value} (hv : v.category = 1) (d : decode mc.2.1 pc = .ok (.dup, 1)) (k : AW X mc Q (pc + 1) lv (v :: v :: st) M) : AW X mc Q pc lv (v :: st) M :=
  fun hR p e s m args below meth c H locs ls C hP hS hl => lv_dup C.1 C.2.1 d hv (k hR p e s m args below meth c H locs ls C hP hS hl)
theorem a_dup2 {v w : Value} (hv : v.category = 1) (hw : w.category = 1) (d : decode mc.2.1 pc = .ok (.dup2, 1)) (k : AW X mc Q (pc + 1) lv (v :: w :: v :: w :: st) M) : AW X mc Q pc lv (v :: w :: st) M :=
  fun hR p e s m args below meth c H locs ls C hP hS hl => lv_dup2_11 C.1 C.2.1 d hv hw (k hR p e s m args below meth c H locs ls C hP hS hl)
theorem a_goto {off : Int} (tgt : Nat) (ht : (pc : Int) + off = (tgt : Int)) (d : decode mc.2.1 pc = .ok (.goto off, 3)) (k : AW X mc Q tgt lv st M) : AW X mc Q pc lv st M :=
  fun hR p e s m args below meth c H locs ls C hP hS hl => lv_goto C.1 C.2.1 d ht (k hR p e s m args below meth c H locs ls C hP hS hl)
theorem a_icmp_eq {a b off : Int} (tgt : Nat) (ga : rg a) (gb : rg b) (ht : (pc : Int) + off = (tgt : Int)) (d : decode mc.2.1 pc = .ok (.if_icmp .eq off, 3)) (kt : a = b → AW X mc Q tgt lv st M) (kf : ¬ a = b → AW X mc Q (pc + 3) lv st M) : AW X mc Q pc lv (vi b :: vi a :: st) M :=
  fun hR p e s m args below meth c H locs ls C hP hS hl => lv_icmp_eq C.1 C.2.1 d ht (fun h => kt ((eq_I ga gb).mp h) hR p e s m args below meth c H locs ls C hP hS hl) (fun h => kf (fun q => h ((eq_I ga gb).mpr q)) hR p e s m args below meth c H locs ls C hP hS hl)
theorem a_icmp_ne {a b off : Int} (tgt : Nat) (ga : rg a) (gb : rg b) (ht : (pc : Int) + off = (tgt : Int)) (d : decode mc.2.1 pc = .ok (.if_icmp .ne off, 3)) (kt : ¬ a = b → AW X mc Q tgt lv st M) (kf : a = b → AW X mc Q (pc + 3) lv st M) : AW X mc Q pc lv (vi b :: vi a :: st) M :=
  fun hR p e s m args below meth c H locs ls C hP hS hl => lv_icmp_ne C.1 C.2.1 d ht (fun h => kt (fun q => h ((eq_I ga gb).mpr q)) hR p e s m args below meth c H locs ls C hP hS hl) (fun h => kf ((eq_I ga gb).mp h) hR p e s m args below meth c H locs ls C hP hS hl)
theorem a_icmp_lt {a b off : Int} (tgt : Nat) (ga : rg a) (gb : rg b) (ht : (pc : Int) + off = (tgt : Int)) (d : decode mc.2.1 pc = .ok (.if_icmp .lt off, 3)) (kt : a < b → AW X mc Q tgt lv st M) (kf : ¬ a < b → AW X mc Q (pc + 3) lv st M) : AW X mc Q pc lv (vi b :: vi a :: st) M :=
  fun hR p e s m args below meth c H locs ls C hP hS hl => lv_icmp_lt C.1 C.2.1 d ht (fun h => kt ((lt_I ga gb).mp h) hR p e s m args below meth c H locs ls C hP hS hl) (fun h => kf (fun q => h ((lt_I ga gb).mpr q)) hR p e s m args below meth c H locs ls C hP hS hl)
theorem a_icmp_le {a b off : Int} (tgt : Nat) (ga : rg a) (gb : rg b) (ht : (pc : Int) + off = (tgt : Int)) (d : decode mc.2.1 pc = .ok (.if_icmp .le off, 3)) (kt : a ≤ b → AW X mc Q tgt lv st M) (kf : ¬ a ≤ b → AW X mc Q (pc + 3) lv st M) : AW X mc Q pc lv (vi b :: vi a :: st) M :=
  fun hR p e s m args below meth c H locs ls C hP hS hl => lv_icmp_le C.1 C.2.1 d ht (fun h => kt ((le_I ga gb).mp h) hR p e s m args below meth c H locs ls C hP hS hl) (fun h => kf (fun q => h ((le_I ga gb).mpr q)) hR p e s m args below meth c H locs ls C hP hS hl)
theorem a_icmp_gt {a b off : Int} (tgt : Nat) (ga : rg a) (gb : rg b) (ht : (pc : Int) + off = (tgt : Int)) (d : decode mc.2.1 pc = .ok (.if_icmp .gt off, 3)) (kt : b < a → AW X mc Q tgt lv st M) (kf : ¬ b < a → AW X mc Q (pc + 3) lv st M) : AW X mc Q pc lv (vi b :: vi a :: st) M :=
  fun hR p e s m args below meth c H locs ls C hP hS hl => lv_icmp_gt C.1 C.2.1 d ht (fun h => kt ((lt_I gb ga).mp h) hR p e s m args below meth c H locs ls C hP hS hl) (fun h => kf (fun q => h ((lt_I gb ga).mpr q)) hR p e s m args below meth c H locs ls C hP hS hl)
theorem a_icmp_ge {a b off : Int} (tgt : Nat) (ga : rg a) (gb : rg b) (ht : (pc : Int) + off = (tgt : Int)) (d : decode mc.2.1 pc = .ok (.if_icmp .ge off, 3)) (kt : b ≤ a → AW X mc Q tgt lv st M) (kf : ¬ b ≤ a → AW X mc Q (pc + 3) lv st M) : AW X mc Q pc lv (vi b :: vi a :: st) M :=
  fun hR p e s m args below meth c H locs ls C hP hS hl => lv_icmp_ge C.1 C.2.1 d ht (fun h => kt ((le_I gb ga).mp h) hR p e s m args below meth c H locs ls C hP hS hl) (fun h => kf (fun q => h ((le_I gb ga).mpr q)) hR p e s m args below meth c H locs ls C hP hS hl)
theorem a_if_eq {a off : Int} (tgt : Nat) (ga : rg a) (ht : (pc : Int) + off = (tgt : Int)) (d : decode mc.2.1 pc = .ok (.ifCond .eq off, 3)) (kt : a = 0 → AW X mc Q tgt lv st M) (kf : ¬ a = 0 → AW X mc Q (pc + 3) lv st M) : AW X mc Q pc lv (vi a :: st) M :=
  fun hR p e s m args below meth c H locs ls C hP hS hl => lv_if_eq C.1 C.2.1 d ht (fun h => kt ((eq_I ga rg_0).mp h) hR p e s m args below meth c H locs ls C hP hS hl) (fun h => kf (fun q => h ((eq_I ga rg_0).mpr q)) hR p e s m args below meth c H locs ls C hP hS hl)
theorem a_if_ne {a off : Int} (tgt : Nat) (ga : rg a) (ht : (pc : Int) + off = (tgt : Int)) (d : decode mc.2.1 pc = .ok (.ifCond .ne off, 3)) (kt : ¬ a = 0 → AW X mc Q tgt lv st M) (kf : a = 0 → AW X mc Q (pc + 3) lv st M) : AW X mc Q pc lv (vi a :: st) M :=
  fun hR p e s m args below meth c H locs ls C hP hS hl => lv_if_ne C.1 C.2.1 d ht (fun h => kt (fun q => h ((eq_I ga rg_0).mpr q)) hR p e s m args below meth c H locs ls C hP hS hl) (fun h => kf ((eq_I ga rg_0).mp h) hR p e s m args below meth c H locs ls C hP hS hl)
theorem a_if_lt {a off : Int} (tgt : Nat) (ga : rg a) (ht : (pc : Int) + off = (tgt : Int)) (d : decode mc.2.1 pc = .ok (.ifCond .lt off, 3)) (kt : a < 0 → AW X mc Q tgt lv st M) (kf : ¬ a < 0 → AW X mc Q (pc + 3) lv st M) : AW X mc Q pc lv (vi a :: st) M :=
  fun hR p e s m args below meth c H locs ls C hP hS hl => lv_if_lt C.1 C.2.1 d ht (fun h => kt ((lt_I ga rg_0).mp h) hR p e s m args below meth c H locs ls C hP hS hl) (fun h => kf (fun q => h ((lt_I ga rg_0).mpr q)) hR p e s m args below meth c H locs ls C hP hS hl)
theorem a_if_le {a off : Int} (tgt : Nat) (ga : rg a) (ht : (pc : Int) + off = (tgt : Int)) (d : decode mc.2.1 pc = .ok (.ifCond .le off, 3)) (kt : a ≤ 0 → AW X mc Q tgt lv st M) (kf : ¬ a ≤ 0 → AW X mc Q (pc + 3) lv st M) : AW X mc Q pc lv (vi a :: st) M :=
  fun hR p e s m args below meth c H locs ls C hP hS hl => lv_if_le C.1 C.2.1 d ht (fun h => kt ((le_I ga rg_0).mp h) hR p e s m args below meth c H locs ls C hP hS hl) (fun h => kf (fun q => h ((le_I ga rg_0).mpr q)) hR p e s m args below meth c H locs ls C hP hS hl)
theorem a_if_gt {a off : Int} (tgt : Nat) (ga : rg a) (ht : (pc : Int) + off = (tgt : Int)) (d : decode mc.2.1 pc = .ok (.ifCond .gt off, 3)) (kt : 0 < a → AW X mc Q tgt lv st M) (kf : ¬ 0 < a → AW X mc Q (pc + 3) lv st M) : AW X mc Q pc lv (vi a :: st) M :=
  fun hR p e s m args below meth c H locs ls C hP hS hl => lv_if_gt C.1 C.2.1 d ht (fun h => kt ((lt_I rg_0 ga).mp h) hR p e s m args below meth c H locs ls C hP hS hl) (fun h => kf (fun q => h ((lt_I rg_0 ga).mpr q)) hR p e s m args below meth c H locs ls C hP hS hl)
theorem a_if_ge {a off : Int} (tgt : Nat) (ga : rg a) (ht : (pc : Int) + off = (tgt : Int)) (d : decode mc.2.1 pc = .ok (.ifCond .ge off, 3)) (kt : 0 ≤ a → AW X mc Q tgt lv st M) (kf : ¬ 0 ≤ a → AW X mc Q (pc + 3) lv st M) : AW X mc Q pc lv (vi a :: st) M :=
  fun hR p e s m args below meth c H locs ls C hP hS hl => lv_if_ge C.1 C.2.1 d ht (fun h => kt ((le_I rg_0 ga).mp h) hR p e s m args below meth c H locs ls C hP hS hl) (fun h => kf (fun q => h ((le_I rg_0 ga).mpr q)) hR p e s m args below meth c H locs ls C hP hS hl)
theorem a_tsOut {a dflt lo hi : Int} {offs : Array Int} {len : Nat} (tgt : Nat) (ga : rg a) (ht : (pc : Int) + dflt = (tgt : Int)) (d : decode mc.2.1 pc = .ok (.tableswitch dflt lo hi offs, len)) (h : a < lo ∨ hi < a) (k : AW X mc Q tgt lv st M) : AW X mc Q pc lv (vi a :: st) M :=
  fun hR p e s m args below meth c H locs ls C hP hS hl => lv_tableOut C.1 C.2.1 d (by rw [toI ga]; exact h) ht (k hR p e s m args below meth c H locs ls C hP hS hl)
theorem a_tsIn {a b dflt lo hi off : Int} {offs : Array Int} {len : Nat} (tgt : Nat) (ga : rg a) (ht : (pc : Int) + off = (tgt : Int)) (d : decode mc.2.1 pc = .ok (.tableswitch dflt lo hi offs, len)) (h : a = b) (h1 : ¬ b < lo) (h2 : ¬ hi < b) (ho : offs[(b - lo).toNat]? = some off) (k : AW X mc Q tgt lv st M) : AW X mc Q pc lv (vi a :: st) M :=
  fun hR p e s m args below meth c H locs ls C hP hS hl => by
    subst h
    exact lv_tableIn C.1 C.2.1 d (by rw [toI ga]; exact h1) (by rw [toI ga]; exact h2) (by rw [toI ga]; exact ho) ht (k hR p e s m args below meth c H locs ls C hP hS hl)
end ROWS
end
section
/-! rows of my layer: fields, arrays, calls, returns -/
theorem RG.i {X : WX} {M : Mem} (h : RG X M) {q : Nat} (hL : xL X q = false) (i : Int) : rg (M q i) := (h q i).2 hL
theorem RG.l {X : WX} {M : Mem} (h : RG X M) {q : Nat} (hL : xL X q = true) (i : Int) : rl (M q i) := (h q i).1 hL
theorem RG.upi {X : WX} {M : Mem} (h : RG X M) {q : Nat} (hL : xL X q = false) {i v : Int} (g : rg v) : RG X (up M q i v) := by
  intro c j
  by_cases hc : c = q
  · subst hc
    rw [up_at]
    refine ⟨fun h1 => absurd (hL.symm.trans h1) (by decide), fun _ => ?_⟩
    show rg (if j = i then v else M c j)
    split
    · exact g
    · exact h.i hL j
  · rw [up_off hc]
    exact h c j
theorem RG.upl {X : WX} {M : Mem} (h : RG X M) {q : Nat} (hL : xL X q = true) {i v : Int} (g : rl v) : RG X (up M q i v) := by
  intro c j
  by_cases hc : c = q
  · subst hc
    rw [up_at]
    refine ⟨fun _ => ?_, fun h1 => absurd (hL.symm.trans h1) (by decide)⟩
    show rl (if j = i then v else M c j)
    split
    · exact g
    · exact h.l hL j
  · rw [up_off hc]
    exact h c j
def ai (f : Int → Int) : Nat → Int32 := fun j => Int32.ofInt (f (j : Int))
def al (f : Int → Int) : Nat → Int64 := fun j => Int64.ofInt (f (j : Int))
theorem ai_at {f : Int → Int} {i : Int} (h : 0 ≤ i) : ai f i.toNat = Int32.ofInt (f i) := by unfold ai; rw [Int.toNat_of_nonneg h]
theorem al_at {f : Int → Int} {i : Int} (h : 0 ≤ i) : al f i.toNat = Int64.ofInt (f i) := by unfold al; rw [Int.toNat_of_nonneg h]
theorem ai_up {f : Int → Int} {i v : Int} (h : 0 ≤ i) : ai (fun j => if j = i then v else f j) = upd (ai f) i.toNat (Int32.ofInt v) := by
  funext j
  unfold ai upd
  dsimp only
  by_cases hj : (j : Int) = i
  · rw [if_pos hj, if_pos (by omega)]
  · rw [if_neg hj, if_neg (by omega)]
theorem al_up {f : Int → Int} {i v : Int} (h : 0 ≤ i) : al (fun j => if j = i then v else f j) = vp_updL (al f) i.toNat (Int64.ofInt v) := by
  funext j
  unfold al vp_updL
  dsimp only
  by_cases hj : (j : Int) = i
  · rw [if_pos hj, if_pos (by omega)]
  · rw [if_neg hj, if_neg (by omega)]
section ROWS
variable {X : WX} {mc : MC} {Q : Option Value → Mem → Prop} {pc : Nat} {lv : List (Nat × Value)} {st : List Value} {M : Mem}
theorem a_iald {q n t : Nat} {cA : ClassId} {i : Int} (hq : q < xK X) (he : xE X q (M q) = .inl (cA, n, .inl (ai (M q)))) (ht : (xty X)[t]? = some (cA, .int)) (hL : xL X q = false) (hn : n < 2147483648) (d : decode mc.2.1 pc = .ok (.iaload, 1)) (b : 0 ≤ i ∧ i < (n : Int)) (k : rg (M q i) → AW X mc Q (pc + 1) lv (vi (M q i) :: st) M) : AW X mc Q pc lv (vi i :: .ref (xad X q) :: st) M :=
  fun hR p e s m args below meth c H locs ls C hP hS hl => va_iald C.1 C.2.1 C.2.2.2.2.2.2.2.1 hP q t ((xw_get X M hq).trans (by rw [he])) ht (in_I hn b) d (by
    rw [cl_I hn b, ai_at b.1]
    exact k (hR.i hL i) hR p e s m args below meth c H locs ls C hP hS hl)
theorem a_zald {q n t : Nat} {cA : ClassId} {i : Int} (hq : q < xK X) (he : xE X q (M q) = .inl (cA, n, .inl (ai (M q)))) (ht : (xty X)[t]? = some (cA, .boolean)) (hL : xL X q = false) (hn : n < 2147483648) (d : decode mc.2.1 pc = .ok (.baload, 1)) (b : 0 ≤ i ∧ i < (n : Int)) (k : rg (M q i) → AW X mc Q (pc + 1) lv (vi (M q i) :: st) M) : AW X mc Q pc lv (vi i :: .ref (xad X q) :: st) M :=
  fun hR p e s m args below meth c H locs ls C hP hS hl => va_zald C.1 C.2.1 C.2.2.2.2.2.2.2.1 hP q t ((xw_get X M hq).trans (by rw [he])) ht (in_I hn b) d (by
    rw [cl_I hn b, ai_at b.1]
    exact k (hR.i hL i) hR p e s m args below meth c H locs ls C hP hS hl)
theorem a_lald {q n t : Nat} {cA : ClassId} {i : Int} (hq : q < xK X) (he : xE X q (M q) = .inl (cA, n, .inr (.inl (al (M q))))) (ht : (xty X)[t]? = some (cA, .long)) (hL : xL X q = true) (hn : n < 2147483648) (d : decode mc.2.1 pc = .ok (.laload, 1)) (b : 0 ≤ i ∧ i < (n : Int)) (k : rl (M q i) → AW X mc Q (pc + 1) lv (vl (M q i) :: st) M) : AW X mc Q pc lv (vi i :: .ref (xad X q) :: st) M :=
  fun hR p e s m args below meth c H locs ls C hP hS hl => va_lald C.1 C.2.1 C.2.2.2.2.2.2.2.1 hP q t ((xw_get X M hq).trans (by rw [he])) ht (in_I hn b) d (by
    rw [cl_I hn b, al_at b.1]
    exact k (hR.l hL i) hR p e s m args below meth c H locs ls C hP hS hl)
theorem a_iast {q n t : Nat} {cA : ClassId} {i v : Int} (hq : q < xK X) (he : ∀ f, xE X q f = .inl (cA, n, .inl (ai f))) (ht : (xty X)[t]? = some (cA, .int)) (hL : xL X q = false) (hn : n < 2147483648) (d : decode mc.2.1 pc = .ok (.iastore, 1)) (b : 0 ≤ i ∧ i < (n : Int)) (g : rg v) (k : AW X mc Q (pc + 1) lv st (up M q i v)) : AW X mc Q pc lv (vi v :: vi i :: .ref (xad X q) :: st) M :=
  fun hR p e s m args below meth c H locs ls C hP hS hl => va_iast C.1 C.2.1 C.2.2.2.2.2.2.2.1 hP (C.2.2.2.2.2.2.2.2 M) hS q t ((xw_get X M hq).trans (by rw [he])) ht (in_I hn b) d (fun H1 locs1 hP1 _ hS1 => by
    rw [cl_I hn b, xw_set X M (up M q i v) _ (by rw [up_at, he, ai_up b.1]) (fun c hc => up_off hc)] at hP1
    exact k (hR.upi hL g) p e s m args below meth c H1 locs1 ls C hP1 hS1 hl)
theorem a_last {q n t : Nat} {cA : ClassId} {i v : Int} (hq : q < xK X) (he : ∀ f, xE X q f = .inl (cA, n, .inr (.inl (al f)))) (ht : (xty X)[t]? = some (cA, .long)) (hL : xL X q = true) (hn : n < 2147483648) (d : decode mc.2.1 pc = .ok (.lastore, 1)) (b : 0 ≤ i ∧ i < (n : Int)) (g : rl v) (k : AW X mc Q (pc + 1) lv st (up M q i v)) : AW X mc Q pc lv (vl v :: vi i :: .ref (xad X q) :: st) M :=
  fun hR p e s m args below meth c H locs ls C hP hS hl => va_last C.1 C.2.1 C.2.2.2.2.2.2.2.1 hP (C.2.2.2.2.2.2.2.2 M) hS q t ((xw_get X M hq).trans (by rw [he])) ht (in_I hn b) d (fun H1 locs1 hP1 _ hS1 => by
    rw [cl_I hn b, xw_set X M (up M q i v) _ (by rw [up_at, he, al_up b.1]) (fun c hc => up_off hc)] at hP1
    exact k (hR.upl hL g) p e s m args below meth c H1 locs1 ls C hP1 hS1 hl)
theorem nz_b {v : Int} (h : b01 v) : vp_nar .boolean (Int32.ofInt v) = Int32.ofInt v := by
  rcases h with h | h <;> subst h <;> rfl
theorem rg_b {v : Int} (h : b01 v) : rg v := by
  unfold b01 at h
  unfold rg
  omega
theorem a_zast {q n t : Nat} {cA : ClassId} {i v : Int} (hq : q < xK X) (he : ∀ f, xE X q f = .inl (cA, n, .inl (ai f))) (ht : (xty X)[t]? = some (cA, .boolean)) (hL : xL X q = false) (hn : n < 2147483648) (d : decode mc.2.1 pc = .ok (.bastore, 1)) (b : 0 ≤ i ∧ i < (n : Int)) (g : b01 v) (k : AW X mc Q (pc + 1) lv st (up M q i v)) : AW X mc Q pc lv (vi v :: vi i :: .ref (xad X q) :: st) M :=
  fun hR p e s m args below meth c H locs ls C hP hS hl => va_zast C.1 C.2.1 C.2.2.2.2.2.2.2.1 hP (C.2.2.2.2.2.2.2.2 M) hS q t ((xw_get X M hq).trans (by rw [he])) ht (in_I hn b) d (fun H1 locs1 hP1 _ hS1 => by
    rw [cl_I hn b, nz_b g, xw_set X M (up M q i v) _ (by rw [up_at, he, ai_up b.1]) (fun c hc => up_off hc)] at hP1
    exact k (hR.upi hL (rg_b g)) p e s m args below meth c H1 locs1 ls C hP1 hS1 hl)
theorem a_alen {q n t : Nat} {cA : ClassId} {x : vp_A} {ty : FieldType} (hq : q < xK X) (he : xE X q (M q) = .inl (cA, x)) (hn : x.1 = n) (ht : (xty X)[t]? = some (cA, ty)) (d : decode mc.2.1 pc = .ok (.arraylength, 1)) (k : AW X mc Q (pc + 1) lv (vi (n : Int) :: st) M) : AW X mc Q pc lv (.ref (xad X q) :: st) M :=
  fun hR p e s m args below meth c H locs ls C hP hS hl => va_alen C.1 C.2.1 C.2.2.2.2.2.2.2.1 hP q t ((xw_get X M hq).trans (by rw [he])) ht (by rw [hn]; exact Int32.ofInt_eq_ofNat.symm) d (k hR p e s m args below meth c H locs ls C hP hS hl)
/-- an array of arrays, that never changes: its rows are the cells from r on -/
def rows (ad : Nat → Nat) (r N : Nat) : Nat → Option Nat := fun j => if j < N then some (ad (r + j)) else none
theorem a_aald {q n r t : Nat} {cA : ClassId} {ty : FieldType} {i : Int} (hq : q < xK X) (he : xE X q (M q) = .inl (cA, n, .inr (.inr (.inr (.inr (rows (xad X) r n)))))) (ht : (xty X)[t]? = some (cA, .array ty)) (hn : n < 2147483648) (d : decode mc.2.1 pc = .ok (.aaload, 1)) (b : 0 ≤ i ∧ i < (n : Int)) (k : AW X mc Q (pc + 1) lv (.ref (xad X (r + i.toNat)) :: st) M) : AW X mc Q pc lv (vi i :: .ref (xad X q) :: st) M :=
  fun hR p e s m args below meth c H locs ls C hP hS hl => by
    have hv : va_rf (rows (xad X) r n i.toNat) = .ref (xad X (r + i.toNat)) := by
      unfold rows
      rw [if_pos (by omega)]
      rfl
    have hcell := hP q _ ((xw_get X M hq).trans (by rw [he]))
    have hin := in_I hn b
    have hlt : i.toNat < n := by omega
    refine W.aald (v := .ref (xad X (r + i.toNat))) (ty := .array ty) C.1 C.2.1 hcell ((C.2.2.2.2.2.2.2.1.2 t _ ht).1 n (fun j => va_rf (rows (xad X) r n j))) rfl (fun q => by cases q) ?_ ?_ rfl rfl d (k hR p e s m args below meth c H locs ls C hP hS hl)
    · show ¬ (Int32.ofInt i < 0 ∨ (arrV _ _ _).slots.size ≤ _)
      rw [arrV_size]
      exact hin
    · show (arrV _ _ _).slots[_]? = _
      rw [cl_I hn b, arrV_read _ _ hlt, hv]
theorem a_get {q ci k N index : Nat} {C : String} {T : u_T} {fs : List Value} {v : Value} (hq : q < xK X) (he : xE X q (M q) = .inr (ci, fs)) (hc : vwCl[ci]? = some (C, T, N)) (hin : ∀ w ∈ u_ws C T N, w ∈ gtb) (hk : k < N) (hw : Cond.fieldLink mc.1 index (T k).1 (T k).2.1 (T k).2.2.1 ∈ gtb) (hv : fs[k]? = some v) (d : decode mc.2.1 pc = .ok (.getfield index, 3)) (kk : AW X mc Q (pc + 3) lv (v :: st) M) : AW X mc Q pc lv (.ref (xad X q) :: st) M :=
  fun hR p e s m args below meth c H locs ls Cc hP hS hl => va_get Cc.1 Cc.2.1 Cc.2.2.2.2.1 hin Cc.2.2.2.2.2.1 Cc.2.2.2.2.2.2.2.1 hP q ((xw_get X M hq).trans (by rw [he])) hc k hk (Cc.2.2.2.2.1 _ hw) (fun _ h => h) hv d (kk hR p e s m args below meth c H locs ls Cc hP hS hl)
theorem a_put {q ci k N index : Nat} {C : String} {T : u_T} {fs : List Value} {v : Int} {ty : FieldType} {ty0 : Nat → FieldType} (hq : q < xK X) (he : xE X q (M q) = .inr (ci, fs)) (he2 : xE X q (fun j => if j = (k : Int) then v else M q j) = .inr (ci, fs.set k (vi v))) (hc : vwCl[ci]? = some (C, T, N)) (hin : ∀ w ∈ u_ws C T N, w ∈ gtb)
    (hty : ∀ k, k < N → parseFieldDescriptor (T k).2.2.1 = some (ty0 k)) (hnm : ∀ a, a < N → ∀ b, b < N → a ≠ b → (T a).2.1 ≠ (T b).2.1) (hk : k < N) (hw : Cond.fieldLink mc.1 index (T k).1 (T k).2.1 (T k).2.2.1 ∈ gtb) (hfin : (T k).2.2.2 = false) (hd : parseFieldDescriptor (T k).2.2.1 = some ty) (hn : narrow ty (vi v) = vi v) (hfit : fits ty (vi v) = true) (hlen : k < fs.length) (hL : xL X q = false)
    (d : decode mc.2.1 pc = .ok (.putfield index, 3)) (g : rg v) (kk : AW X mc Q (pc + 3) lv st (up M q (k : Int) v)) : AW X mc Q pc lv (vi v :: .ref (xad X q) :: st) M :=
  fun hR p e s m args below meth c H locs ls Cc hP hS hl => va_put Cc.1 Cc.2.1 Cc.2.2.2.2.1 hin ty0 hty hnm Cc.2.2.2.2.2.1 Cc.2.2.2.2.2.2.2.1 hP (Cc.2.2.2.2.2.2.2.2 M) hS q ((xw_get X M hq).trans (by rw [he])) hc k hk (Cc.2.2.2.2.1 _ hw) (fun _ h => h) hfin hd hn hfit hlen d (fun H1 locs1 hP1 _ hS1 => by
    rw [xw_set X M (up M q (k : Int) v) _ (by rw [up_at, he2]) (fun c hc => up_off hc)] at hP1
    exact kk (hR.upi hL g) p e s m args below meth c H1 locs1 ls Cc hP1 hS1 hl)
theorem AM.blind {X : WX} {M : Mem} {av : List Value} : FrameBlind (va_Pc av (fun U => va_P (xD X) vwCl (xw X M) U.heap ∧ va_K (xD X) vwCl (xty X) U ∧ ∀ M, va_D (xA X) (xw X M))) := by
  intro a U g mk q
  obtain ⟨q0, qP, qK, qD⟩ := q
  exact ⟨q0, qP, va_K.moved (u := U) (U := U.calling g mk a) (Vm.Alike.refl U.vm) qK, qD⟩
theorem call_go {p : Program} {l : Launch} {e : Env} {R : Room} {s : State} {m : MethodId} {args : Array Value} {below : List Frame} {meth : Method} {c : Code} {H : Heap} {locs : List Loc} {Qf : State → Prop} {ls : Array Slot} {st0 rest : List Value} {a : Array Value} {H0 : Heap} {Q' : Option Value → Mem → Prop}
    (hr : va_Run p l e R s m args below meth c H locs 0 0 0 0 (F0 m pc ls st0) rest (AQ X Q' a) (xA X)) (hS : va_S (xA X) H0 H locs)
    (kk : ∀ (v : Option Value) (M1 : Mem) (H1 : Heap) (locs1 : List Loc), Q' v M1 → RG X M1 → va_P (xD X) vwCl (xw X M1) H1 → va_S (xA X) H0 H1 locs1 → W p l e R s m args below meth c H1 locs1 0 0 Qf (F0 m (pc + 3) ls (v.toList ++ rest))) : W p l e R s m args below meth c H locs 0 0 Qf (F0 m pc ls st0) := by
  intro T hT Xs
  obtain ⟨v, st₀, t, T', L, h0, X', hL, e1, e2, ⟨⟨v2, M1, hv, hq, hR, hP, hK⟩, hz, hk⟩, stp⟩ := hr T hT Xs
  cases hv
  rw [h0] at hz hk
  obtain ⟨t2, a1, b1⟩ := kk v M1 T'.heap (locs ++ L) hq hR (by rw [e1]; exact hP)
    ⟨Nat.le_trans hS.1 (by rw [e1]; exact hz), fun q h1 h2 => by rw [e1, hk q (Nat.lt_of_lt_of_le h1 hS.1) h2]; exact hS.2.1 q h1 h2, fun q hq => by
      rcases List.mem_append.mp hq with h | h
      · exact hS.2.2 q h
      · exact hL q h⟩ T' rfl X'
  exact ⟨t2, stp t2 a1, b1⟩
theorem a_callV {y : MethodName} {mc' : MC} {q ci N index n : Nat} {As rest : List Value} {C : String} {T : u_T} {fs : List Value} {Q' : Option Value → Mem → Prop} (hq : q < xK X) (he : xE X q (M q) = .inr (ci, fs)) (hc : vwCl[ci]? = some (C, T, N))
    (h1 : Cond.methodLink mc.1 index y ∈ gtb) (h2 : Cond.instanceMethod y ∈ gtb) (h3 : Cond.selects C y y ∈ gtb) (h4 : Cond.initialized y.cls ∈ gtb) (h5 : Cond.code y mc'.2.1 mc'.2.2.1 mc'.2.2.2.1 ∈ gtb)
    (hd : y.cls ≠ "java/lang/invoke/MethodHandle" ∧ y.cls ≠ "java/lang/invoke/VarHandle" ∧ (parseMethodDescriptor y.desc).map (fun d => d.parameters.length) = some n) (hn : As.length = n)
    (hR0 : mc'.2.2.2.2.cells = 0 ∧ mc'.2.2.2.2.slots = 0) (hR1 : mc'.2.2.2.2.frames + 1 ≤ mc.2.2.2.2.frames ∧ 8 + (mc'.2.2.1 + 11) + mc'.2.2.2.2.locals ≤ mc.2.2.2.2.locals) (hrm : (rest.map fun v => v.category).sum ≤ 8)
    (hst : st = As.reverse ++ .ref (xad X q) :: rest) (d : decode mc.2.1 pc = .ok (.invokevirtual index, 3)) (hM : AM X y mc' (.ref (xad X q) :: As) M Q')
    (kk : ∀ (v : Option Value) (M1 : Mem), Q' v M1 → AW X mc Q (pc + 3) lv (v.toList ++ rest) M1) : AW X mc Q pc lv st M := by
  intro hR p e s m args below meth c H locs ls Cc hP hS hl
  have hG : GoodIn gtb (Cond.code y mc'.2.1 mc'.2.2.1 mc'.2.2.2.1 :: gtb) := fun w hw => by
    rcases List.mem_cons.mp hw with h | h
    · subst h
      exact ⟨h5, good_of_word (tbl_good _ h5)⟩
    · exact ⟨h, good_of_word (tbl_good _ h)⟩
  have hts := Cc.2.2.2.2.1
  have hcb : CallB mc.2.2.2.2 s args mc.1 index y mc'.2.1 mc'.2.2.1 mc'.2.2.2.1 (Cond.code y mc'.2.1 mc'.2.2.1 mc'.2.2.2.1 :: gtb) mc'.2.2.2.2 0 0 n := callB_of n hts hG rfl hR0.1 hR0.2 (hts _ h4) (hts _ h1) hd hR1
  refine call_go (va_runV (As := As) (rest := rest) (nL := mc.2.2.1) ⟨Cc.1, Cc.2.1, Cc.2.2.2.1, Cc.2.2.2.2.2.1, hts⟩ (hM hR) ⟨hcb, hts _ h2, hts _ h3⟩ ⟨AM.blind, ?_, fun U hU hW => ⟨rfl, by rw [hU]; exact hP, va_K.moved hW.alike Cc.2.2.2.2.2.2.2.1, Cc.2.2.2.2.2.2.2.2⟩⟩ rfl hn hl.1 hst (lv_room hrm) d ⟨Nat.zero_le _, Nat.zero_le _⟩) hS (fun v M1 H1 locs1 hq1 hR1 hP1 hS1 => kk v M1 hq1 hR1 p e s m args below meth c H1 locs1 ls Cc hP1 hS1 hl)
  exact va_recv Cc.2.2.2.2.2.2.2.1 hP hc ((xw_get X M hq).trans (by rw [he]))
theorem a_callS {y : MethodName} {mc' : MC} {index n : Nat} {As rest : List Value} {Q' : Option Value → Mem → Prop}
    (h1 : Cond.methodLink mc.1 index y ∈ gtb) (h2 : Cond.static y ∈ gtb) (h4 : Cond.initialized y.cls ∈ gtb) (h5 : Cond.code y mc'.2.1 mc'.2.2.1 mc'.2.2.2.1 ∈ gtb)
    (hd : y.cls ≠ "java/lang/invoke/MethodHandle" ∧ y.cls ≠ "java/lang/invoke/VarHandle" ∧ (parseMethodDescriptor y.desc).map (fun d => d.parameters.length) = some n) (hn : As.length = n)
    (hR0 : mc'.2.2.2.2.cells = 0 ∧ mc'.2.2.2.2.slots = 0) (hR1 : mc'.2.2.2.2.frames + 1 ≤ mc.2.2.2.2.frames ∧ 8 + (mc'.2.2.1 + 11) + mc'.2.2.2.2.locals ≤ mc.2.2.2.2.locals) (hrm : (rest.map fun v => v.category).sum ≤ 8)
    (hst : st = As.reverse ++ rest) (d : decode mc.2.1 pc = .ok (.invokestatic index, 3)) (hM : AM X y mc' As M Q')
    (kk : ∀ (v : Option Value) (M1 : Mem), Q' v M1 → AW X mc Q (pc + 3) lv (v.toList ++ rest) M1) : AW X mc Q pc lv st M := by
  intro hR p e s m args below meth c H locs ls Cc hP hS hl
  have hG : GoodIn gtb (Cond.code y mc'.2.1 mc'.2.2.1 mc'.2.2.2.1 :: gtb) := fun w hw => by
    rcases List.mem_cons.mp hw with h | h
    · subst h
      exact ⟨h5, good_of_word (tbl_good _ h5)⟩
    · exact ⟨h, good_of_word (tbl_good _ h)⟩
  have hts := Cc.2.2.2.2.1
  have hcb : CallB mc.2.2.2.2 s args mc.1 index y mc'.2.1 mc'.2.2.1 mc'.2.2.2.1 (Cond.code y mc'.2.1 mc'.2.2.1 mc'.2.2.2.1 :: gtb) mc'.2.2.2.2 0 0 n := callB_of n hts hG rfl hR0.1 hR0.2 (hts _ h4) (hts _ h1) hd hR1
  exact call_go (va_runS (As := As) (rest := rest) (nL := mc.2.2.1) ⟨Cc.1, Cc.2.1, Cc.2.2.2.1, Cc.2.2.2.2.2.1, hts⟩ (hM hR) ⟨hcb, hts _ h2⟩ ⟨AM.blind, fun U hU hW => ⟨rfl, by rw [hU]; exact hP, va_K.moved hW.alike Cc.2.2.2.2.2.2.2.1, Cc.2.2.2.2.2.2.2.2⟩⟩ rfl hn hl.1 hst (lv_room hrm) d ⟨Nat.zero_le _, Nat.zero_le _⟩) hS (fun v M1 H1 locs1 hq1 hR1 hP1 hS1 => kk v M1 hq1 hR1 p e s m args below meth c H1 locs1 ls Cc hP1 hS1 hl)
/-- the ends: an int, a long, nothing -/
def qI (Q : Int → Mem → Prop) : Option Value → Mem → Prop := fun v M => ∃ a : Int, v = some (vi a) ∧ rg a ∧ Q a M
def qL (Q : Int → Mem → Prop) : Option Value → Mem → Prop := fun v M => ∃ a : Int, v = some (vl a) ∧ rl a ∧ Q a M
def qV (Q : Mem → Prop) : Option Value → Mem → Prop := fun v M => v = none ∧ Q M
theorem a_iret {Q : Int → Mem → Prop} {a : Int} (hr : mc.2.2.2.1 = some .int) (d : decode mc.2.1 pc = .ok (.ireturn, 1)) (g : rg a) (h : Q a M) : AW X mc (qI Q) pc lv [vi a] M :=
  fun hR p e s m args below meth c H locs ls C hP hS hl => W.iret (v := Int32.ofInt a) C.1 C.2.1 (C.2.2.1.trans hr) (fun t ht hW => ⟨⟨some (vi a), M, rfl, ⟨a, rfl, g, h⟩, hR, by rw [ht]; exact hP, va_K.moved hW.alike C.2.2.2.2.2.2.2.1⟩, hS.F ht⟩) hS.2.2 d C.2.2.2.2.2.2.1
theorem a_zret {Q : Int → Mem → Prop} {a : Int} (hr : mc.2.2.2.1 = some .boolean) (d : decode mc.2.1 pc = .ok (.ireturn, 1)) (g : b01 a) (h : Q a M) : AW X mc (qI Q) pc lv [vi a] M :=
  fun hR p e s m args below meth c H locs ls C hP hS hl => W.zret (v := Int32.ofInt a) C.1 C.2.1 (C.2.2.1.trans hr) (by rcases g with g | g <;> subst g <;> rfl) (fun t ht hW => ⟨⟨some (vi a), M, rfl, ⟨a, rfl, rg_b g, h⟩, hR, by rw [ht]; exact hP, va_K.moved hW.alike C.2.2.2.2.2.2.2.1⟩, hS.F ht⟩) hS.2.2 d C.2.2.2.2.2.2.1
theorem a_lret {Q : Int → Mem → Prop} {a : Int} (hr : mc.2.2.2.1 = some .long) (d : decode mc.2.1 pc = .ok (.lreturn, 1)) (g : rl a) (h : Q a M) : AW X mc (qL Q) pc lv [vl a] M :=
  fun hR p e s m args below meth c H locs ls C hP hS hl => W.lret (v := Int64.ofInt a) C.1 C.2.1 (C.2.2.1.trans hr) (fun t ht hW => ⟨⟨some (vl a), M, rfl, ⟨a, rfl, g, h⟩, hR, by rw [ht]; exact hP, va_K.moved hW.alike C.2.2.2.2.2.2.2.1⟩, hS.F ht⟩) hS.2.2 d C.2.2.2.2.2.2.1
theorem a_vret {Q : Mem → Prop} (hr : mc.2.2.2.1 = none) (d : decode mc.2.1 pc = .ok (.return_, 1)) (h : Q M) : AW X mc (qV Q) pc lv [] M :=
  fun hR p e s m args below meth c H locs ls C hP hS hl => W.vret C.1 C.2.1 (C.2.2.1.trans hr) (fun t ht hW => ⟨⟨none, M, rfl, ⟨rfl, h⟩, hR, by rw [ht]; exact hP, va_K.moved hW.alike C.2.2.2.2.2.2.2.1⟩, hS.F ht⟩) hS.2.2 d C.2.2.2.2.2.2.1
end ROWS
end
section
theorem rgk (a : Int) (h : -2147483648 ≤ a ∧ a ≤ 2147483647) : rg a := h
theorem rlk (a : Int) (h : -9223372036854775808 ≤ a ∧ a ≤ 9223372036854775807) : rl a := h
theorem rm_ok {c d n : Nat} (h : c + 1 ≤ d) (hn : n ≤ 21) : (rmL c).frames + 1 ≤ (rmL d).frames ∧ 8 + (n + 11) + (rmL c).locals ≤ (rmL d).locals := by
  simp only [rmL]
  omega
theorem inGX0 : ∀ w ∈ u_ws RX0 TX0 13, w ∈ gtb := gtb_all _ inT0 (by decide +kernel)
theorem inGX1 : ∀ w ∈ u_ws RX1 TX1 8, w ∈ gtb := gtb_all _ inT1 (by decide +kernel)
theorem inGX2 : ∀ w ∈ u_ws RX2 TX2 10, w ∈ gtb := gtb_all _ inT2 (by decide +kernel)
theorem inGX3 : ∀ w ∈ u_ws RX3 TX3 3, w ∈ gtb := gtb_all _ inT3 (by decide +kernel)
theorem inGX4 : ∀ w ∈ u_ws RX4 TX4 34, w ∈ gtb := gtb_all _ inT4 (by decide +kernel)
/-- the world C: what each of its cells is -/
def EC (ad : Nat → Nat) (cA : Nat → ClassId) : Nat → (Int → Int) → va_E := fun c f => match c with
  | 0 => .inr (3, [.ref (ad 1), .ref (ad 2), .ref (ad 3)])
  | 1 => .inr (2, [.ref (ad 4), .ref (ad 5), .ref (ad 6), .ref (ad 7), .ref (ad 8), .ref (ad 9), .ref (ad 10), .ref (ad 11), vi (f 8), vi (f 9)])
  | 2 => .inr (1, [.ref (ad 1), .ref (ad 12), .ref (ad 13), .ref (ad 14), .ref (ad 15), .ref (ad 16), .ref (ad 17), vi (f 7)])
  | 3 => .inr (0, [.ref (ad 1), .ref (ad 2), .ref (ad 22), .ref (ad 23), .ref (ad 24), .ref (ad 25), vi (f 6), vi (f 7), vi (f 8), vi (f 9), vi (f 10), .ref (ad 26), vi (f 12)])
  | 4 => .inl (cA 4, 370, .inl (ai f))
  | 5 => .inl (cA 5, 370, .inl (ai f))
  | 6 => .inl (cA 6, 370, .inl (ai f))
  | 7 => .inl (cA 7, 90, .inl (ai f))
  | 8 => .inl (cA 8, 90, .inl (ai f))
  | 9 => .inl (cA 9, 90, .inl (ai f))
  | 10 => .inl (cA 10, 90, .inl (ai f))
  | 11 => .inl (cA 11, 90, .inl (ai f))
  | 12 => .inl (cA 12, 12, .inl (ai f))
  | 13 => .inl (cA 13, 12, .inl (ai f))
  | 14 => .inl (cA 14, 12, .inl (ai f))
  | 15 => .inl (cA 15, 12, .inl (ai f))
  | 16 => .inl (cA 16, 12, .inl (ai f))
  | 17 => .inl (cA 17, 4, .inr (.inr (.inr (.inr (rows ad 18 4)))))
  | 18 => .inl (cA 18, 12, .inr (.inl (al f)))
  | 19 => .inl (cA 19, 12, .inr (.inl (al f)))
  | 20 => .inl (cA 20, 12, .inr (.inl (al f)))
  | 21 => .inl (cA 21, 12, .inr (.inl (al f)))
  | 22 => .inl (cA 22, 4440, .inr (.inl (al f)))
  | 23 => .inl (cA 23, 164, .inl (ai f))
  | 24 => .inl (cA 24, 164, .inl (ai f))
  | 25 => .inl (cA 25, 164, .inl (ai f))
  | _ => .inl (cA 26, 5, .inl (ai f))
def tyC (cA : Nat → ClassId) : List (ClassId × FieldType) := [(cA 4, .int), (cA 5, .int), (cA 6, .int), (cA 7, .int), (cA 8, .int), (cA 9, .int), (cA 10, .int), (cA 11, .int), (cA 12, .int), (cA 13, .int), (cA 14, .boolean), (cA 15, .int), (cA 16, .int), (cA 17, .array .long), (cA 18, .long), (cA 19, .long), (cA 20, .long), (cA 21, .long), (cA 22, .long), (cA 23, .int), (cA 24, .int), (cA 25, .int), (cA 26, .int)]
def lgC : Nat → Bool := fun c => match c with
  | 18 => true
  | 19 => true
  | 20 => true
  | 21 => true
  | 22 => true
  | _ => false
def xC (l : Launch) (D : va_G) (ad : Nat → Nat) (cA : Nat → ClassId) : WX := (l, D, ad, 27, EC ad cA, tyC cA, lgC)
theorem ldC_4 {l : Launch} {D : va_G} {ad : Nat → Nat} {cA : Nat → ClassId} {mc : MC} {Q : Option Value → Mem → Prop} {pc : Nat} {lv : List (Nat × Value)} {st : List Value} {M : Mem} {i : Int} (d : decode mc.2.1 pc = .ok (.iaload, 1)) (b : 0 ≤ i ∧ i < 370) (k : rg (M 4 i) → AW (xC l D ad cA) mc Q (pc + 1) lv (vi (M 4 i) :: st) M) : AW (xC l D ad cA) mc Q pc lv (vi i :: .ref (ad 4) :: st) M := a_iald (X := (xC l D ad cA)) (q := 4) (n := 370) (t := 0) (cA := cA 4) (Nat.le_of_ble_eq_true rfl) rfl rfl rfl (Nat.le_of_ble_eq_true rfl) d b k
theorem stC_4 {l : Launch} {D : va_G} {ad : Nat → Nat} {cA : Nat → ClassId} {mc : MC} {Q : Option Value → Mem → Prop} {pc : Nat} {lv : List (Nat × Value)} {st : List Value} {M : Mem} {i v : Int} (d : decode mc.2.1 pc = .ok (.iastore, 1)) (b : 0 ≤ i ∧ i < 370) (g : rg v) (k : AW (xC l D ad cA) mc Q (pc + 1) lv st (up M 4 i v)) : AW (xC l D ad cA) mc Q pc lv (vi v :: vi i :: .ref (ad 4) :: st) M := a_iast (X := (xC l D ad cA)) (q := 4) (n := 370) (t := 0) (cA := cA 4) (Nat.le_of_ble_eq_true rfl) (fun _ => rfl) rfl rfl (Nat.le_of_ble_eq_true rfl) d b g k
theorem ldC_5 {l : Launch} {D : va_G} {ad : Nat → Nat} {cA : Nat → ClassId} {mc : MC} {Q : Option Value → Mem → Prop} {pc : Nat} {lv : List (Nat × Value)} {st : List Value} {M : Mem} {i : Int} (d : decode mc.2.1 pc = .ok (.iaload, 1)) (b : 0 ≤ i ∧ i < 370) (k : rg (M 5 i) → AW (xC l D ad cA) mc Q (pc + 1) lv (vi (M 5 i) :: st) M) : AW (xC l D ad cA) mc Q pc lv (vi i :: .ref (ad 5) :: st) M := a_iald (X := (xC l D ad cA)) (q := 5) (n := 370) (t := 1) (cA := cA 5) (Nat.le_of_ble_eq_true rfl) rfl rfl rfl (Nat.le_of_ble_eq_true rfl) d b k
theorem stC_5 {l : Launch} {D : va_G} {ad : Nat → Nat} {cA : Nat → ClassId} {mc : MC} {Q : Option Value → Mem → Prop} {pc : Nat} {lv : List (Nat × Value)} {st : List Value} {M : Mem} {i v : Int} (d : decode mc.2.1 pc = .ok (.iastore, 1)) (b : 0 ≤ i ∧ i < 370) (g : rg v) (k : AW (xC l D ad cA) mc Q (pc + 1) lv st (up M 5 i v)) : AW (xC l D ad cA) mc Q pc lv (vi v :: vi i :: .ref (ad 5) :: st) M := a_iast (X := (xC l D ad cA)) (q := 5) (n := 370) (t := 1) (cA := cA 5) (Nat.le_of_ble_eq_true rfl) (fun _ => rfl) rfl rfl (Nat.le_of_ble_eq_true rfl) d b g k
theorem ldC_6 {l : Launch} {D : va_G} {ad : Nat → Nat} {cA : Nat → ClassId} {mc : MC} {Q : Option Value → Mem → Prop} {pc : Nat} {lv : List (Nat × Value)} {st : List Value} {M : Mem} {i : Int} (d : decode mc.2.1 pc = .ok (.iaload, 1)) (b : 0 ≤ i ∧ i < 370) (k : rg (M 6 i) → AW (xC l D ad cA) mc Q (pc + 1) lv (vi (M 6 i) :: st) M) : AW (xC l D ad cA) mc Q pc lv (vi i :: .ref (ad 6) :: st) M := a_iald (X := (xC l D ad cA)) (q := 6) (n := 370) (t := 2) (cA := cA 6) (Nat.le_of_ble_eq_true rfl) rfl rfl rfl (Nat.le_of_ble_eq_true rfl) d b k
theorem stC_6 {l : Launch} {D : va_G} {ad : Nat → Nat} {cA : Nat → ClassId} {mc : MC} {Q : Option Value → Mem → Prop} {pc : Nat} {lv : List (Nat × Value)} {st : List Value} {M : Mem} {i v : Int} (d : decode mc.2.1 pc = .ok (.iastore, 1)) (b : 0 ≤ i ∧ i < 370) (g : rg v) (k : AW (xC l D ad cA) mc Q (pc + 1) lv st (up M 6 i v)) : AW (xC l D ad cA) mc Q pc lv (vi v :: vi i :: .ref (ad 6) :: st) M := a_iast (X := (xC l D ad cA)) (q := 6) (n := 370) (t := 2) (cA := cA 6) (Nat.le_of_ble_eq_true rfl) (fun _ => rfl) rfl rfl (Nat.le_of_ble_eq_true rfl) d b g k
theorem ldC_7 {l : Launch} {D : va_G} {ad : Nat → Nat} {cA : Nat → ClassId} {mc : MC} {Q : Option Value → Mem → Prop} {pc : Nat} {lv : List (Nat × Value)} {st : List Value} {M : Mem} {i : Int} (d : decode mc.2.1 pc = .ok (.iaload, 1)) (b : 0 ≤ i ∧ i < 90) (k : rg (M 7 i) → AW (xC l D ad cA) mc Q (pc + 1) lv (vi (M 7 i) :: st) M) : AW (xC l D ad cA) mc Q pc lv (vi i :: .ref (ad 7) :: st) M := a_iald (X := (xC l D ad cA)) (q := 7) (n := 90) (t := 3) (cA := cA 7) (Nat.le_of_ble_eq_true rfl) rfl rfl rfl (Nat.le_of_ble_eq_true rfl) d b k
theorem stC_7 {l : Launch} {D : va_G} {ad : Nat → Nat} {cA : Nat → ClassId} {mc : MC} {Q : Option Value → Mem → Prop} {pc : Nat} {lv : List (Nat × Value)} {st : List Value} {M : Mem} {i v : Int} (d : decode mc.2.1 pc = .ok (.iastore, 1)) (b : 0 ≤ i ∧ i < 90) (g : rg v) (k : AW (xC l D ad cA) mc Q (pc + 1) lv st (up M 7 i v)) : AW (xC l D ad cA) mc Q pc lv (vi v :: vi i :: .ref (ad 7) :: st) M := a_iast (X := (xC l D ad cA)) (q := 7) (n := 90) (t := 3) (cA := cA 7) (Nat.le_of_ble_eq_true rfl) (fun _ => rfl) rfl rfl (Nat.le_of_ble_eq_true rfl) d b g k
theorem ldC_8 {l : Launch} {D : va_G} {ad : Nat → Nat} {cA : Nat → ClassId} {mc : MC} {Q : Option Value → Mem → Prop} {pc : Nat} {lv : List (Nat × Value)} {st : List Value} {M : Mem} {i : Int} (d : decode mc.2.1 pc = .ok (.iaload, 1)) (b : 0 ≤ i ∧ i < 90) (k : rg (M 8 i) → AW (xC l D ad cA) mc Q (pc + 1) lv (vi (M 8 i) :: st) M) : AW (xC l D ad cA) mc Q pc lv (vi i :: .ref (ad 8) :: st) M := a_iald (X := (xC l D ad cA)) (q := 8) (n := 90) (t := 4) (cA := cA 8) (Nat.le_of_ble_eq_true rfl) rfl rfl rfl (Nat.le_of_ble_eq_true rfl) d b k
theorem stC_8 {l : Launch} {D : va_G} {ad : Nat → Nat} {cA : Nat → ClassId} {mc : MC} {Q : Option Value → Mem → Prop} {pc : Nat} {lv : List (Nat × Value)} {st : List Value} {M : Mem} {i v : Int} (d : decode mc.2.1 pc = .ok (.iastore, 1)) (b : 0 ≤ i ∧ i < 90) (g : rg v) (k : AW (xC l D ad cA) mc Q (pc + 1) lv st (up M 8 i v)) : AW (xC l D ad cA) mc Q pc lv (vi v :: vi i :: .ref (ad 8) :: st) M := a_iast (X := (xC l D ad cA)) (q := 8) (n := 90) (t := 4) (cA := cA 8) (Nat.le_of_ble_eq_true rfl) (fun _ => rfl) rfl rfl (Nat.le_of_ble_eq_true rfl) d b g k
theorem ldC_9 {l : Launch} {D : va_G} {ad : Nat → Nat} {cA : Nat → ClassId} {mc : MC} {Q : Option Value → Mem → Prop} {pc : Nat} {lv : List (Nat × Value)} {st : List Value} {M : Mem} {i : Int} (d : decode mc.2.1 pc = .ok (.iaload, 1)) (b : 0 ≤ i ∧ i < 90) (k : rg (M 9 i) → AW (xC l D ad cA) mc Q (pc + 1) lv (vi (M 9 i) :: st) M) : AW (xC l D ad cA) mc Q pc lv (vi i :: .ref (ad 9) :: st) M := a_iald (X := (xC l D ad cA)) (q := 9) (n := 90) (t := 5) (cA := cA 9) (Nat.le_of_ble_eq_true rfl) rfl rfl rfl (Nat.le_of_ble_eq_true rfl) d b k
theorem stC_9 {l : Launch} {D : va_G} {ad : Nat → Nat} {cA : Nat → ClassId} {mc : MC} {Q : Option Value → Mem → Prop} {pc : Nat} {lv : List (Nat × Value)} {st : List Value} {M : Mem} {i v : Int} (d : decode mc.2.1 pc = .ok (.iastore, 1)) (b : 0 ≤ i ∧ i < 90) (g : rg v) (k : AW (xC l D ad cA) mc Q (pc + 1) lv st (up M 9 i v)) : AW (xC l D ad cA) mc Q pc lv (vi v :: vi i :: .ref (ad 9) :: st) M := a_iast (X := (xC l D ad cA)) (q := 9) (n := 90) (t := 5) (cA := cA 9) (Nat.le_of_ble_eq_true rfl) (fun _ => rfl) rfl rfl (Nat.le_of_ble_eq_true rfl) d b g k
theorem ldC_10 {l : Launch} {D : va_G} {ad : Nat → Nat} {cA : Nat → ClassId} {mc : MC} {Q : Option Value → Mem → Prop} {pc : Nat} {lv : List (Nat × Value)} {st : List Value} {M : Mem} {i : Int} (d : decode mc.2.1 pc = .ok (.iaload, 1)) (b : 0 ≤ i ∧ i < 90) (k : rg (M 10 i) → AW (xC l D ad cA) mc Q (pc + 1) lv (vi (M 10 i) :: st) M) : AW (xC l D ad cA) mc Q pc lv (vi i :: .ref (ad 10) :: st) M := a_iald (X := (xC l D ad cA)) (q := 10) (n := 90) (t := 6) (cA := cA 10) (Nat.le_of_ble_eq_true rfl) rfl rfl rfl (Nat.le_of_ble_eq_true rfl) d b k
theorem stC_10 {l : Launch} {D : va_G} {ad : Nat → Nat} {cA : Nat → ClassId} {mc : MC} {Q : Option Value → Mem → Prop} {pc : Nat} {lv : List (Nat × Value)} {st : List Value} {M : Mem} {i v : Int} (d : decode mc.2.1 pc = .ok (.iastore, 1)) (b : 0 ≤ i ∧ i < 90) (g : rg v) (k : AW (xC l D ad cA) mc Q (pc + 1) lv st (up M 10 i v)) : AW (xC l D ad cA) mc Q pc lv (vi v :: vi i :: .ref (ad 10) :: st) M := a_iast (X := (xC l D ad cA)) (q := 10) (n := 90) (t := 6) (cA := cA 10) (Nat.le_of_ble_eq_true rfl) (fun _ => rfl) rfl rfl (Nat.le_of_ble_eq_true rfl) d b g k
theorem ldC_11 {l : Launch} {D : va_G} {ad : Nat → Nat} {cA : Nat → ClassId} {mc : MC} {Q : Option Value → Mem → Prop} {pc : Nat} {lv : List (Nat × Value)} {st : List Value} {M : Mem} {i : Int} (d : decode mc.2.1 pc = .ok (.iaload, 1)) (b : 0 ≤ i ∧ i < 90) (k : rg (M 11 i) → AW (xC l D ad cA) mc Q (pc + 1) lv (vi (M 11 i) :: st) M) : AW (xC l D ad cA) mc Q pc lv (vi i :: .ref (ad 11) :: st) M := a_iald (X := (xC l D ad cA)) (q := 11) (n := 90) (t := 7) (cA := cA 11) (Nat.le_of_ble_eq_true rfl) rfl rfl rfl (Nat.le_of_ble_eq_true rfl) d b k
theorem stC_11 {l : Launch} {D : va_G} {ad : Nat → Nat} {cA : Nat → ClassId} {mc : MC} {Q : Option Value → Mem → Prop} {pc : Nat} {lv : List (Nat × Value)} {st : List Value} {M : Mem} {i v : Int} (d : decode mc.2.1 pc = .ok (.iastore, 1)) (b : 0 ≤ i ∧ i < 90) (g : rg v) (k : AW (xC l D ad cA) mc Q (pc + 1) lv st (up M 11 i v)) : AW (xC l D ad cA) mc Q pc lv (vi v :: vi i :: .ref (ad 11) :: st) M := a_iast (X := (xC l D ad cA)) (q := 11) (n := 90) (t := 7) (cA := cA 11) (Nat.le_of_ble_eq_true rfl) (fun _ => rfl) rfl rfl (Nat.le_of_ble_eq_true rfl) d b g k
theorem ldC_12 {l : Launch} {D : va_G} {ad : Nat → Nat} {cA : Nat → ClassId} {mc : MC} {Q : Option Value → Mem → Prop} {pc : Nat} {lv : List (Nat × Value)} {st : List Value} {M : Mem} {i : Int} (d : decode mc.2.1 pc = .ok (.iaload, 1)) (b : 0 ≤ i ∧ i < 12) (k : rg (M 12 i) → AW (xC l D ad cA) mc Q (pc + 1) lv (vi (M 12 i) :: st) M) : AW (xC l D ad cA) mc Q pc lv (vi i :: .ref (ad 12) :: st) M := a_iald (X := (xC l D ad cA)) (q := 12) (n := 12) (t := 8) (cA := cA 12) (Nat.le_of_ble_eq_true rfl) rfl rfl rfl (Nat.le_of_ble_eq_true rfl) d b k
theorem stC_12 {l : Launch} {D : va_G} {ad : Nat → Nat} {cA : Nat → ClassId} {mc : MC} {Q : Option Value → Mem → Prop} {pc : Nat} {lv : List (Nat × Value)} {st : List Value} {M : Mem} {i v : Int} (d : decode mc.2.1 pc = .ok (.iastore, 1)) (b : 0 ≤ i ∧ i < 12) (g : rg v) (k : AW (xC l D ad cA) mc Q (pc + 1) lv st (up M 12 i v)) : AW (xC l D ad cA) mc Q pc lv (vi v :: vi i :: .ref (ad 12) :: st) M := a_iast (X := (xC l D ad cA)) (q := 12) (n := 12) (t := 8) (cA := cA 12) (Nat.le_of_ble_eq_true rfl) (fun _ => rfl) rfl rfl (Nat.le_of_ble_eq_true rfl) d b g k
theorem ldC_13 {l : Launch} {D : va_G} {ad : Nat → Nat} {cA : Nat → ClassId} {mc : MC} {Q : Option Value → Mem → Prop} {pc : Nat} {lv : List (Nat × Value)} {st : List Value} {M : Mem} {i : Int} (d : decode mc.2.1 pc = .ok (.iaload, 1)) (b : 0 ≤ i ∧ i < 12) (k : rg (M 13 i) → AW (xC l D ad cA) mc Q (pc + 1) lv (vi (M 13 i) :: st) M) : AW (xC l D ad cA) mc Q pc lv (vi i :: .ref (ad 13) :: st) M := a_iald (X := (xC l D ad cA)) (q := 13) (n := 12) (t := 9) (cA := cA 13) (Nat.le_of_ble_eq_true rfl) rfl rfl rfl (Nat.le_of_ble_eq_true rfl) d b k
theorem stC_13 {l : Launch} {D : va_G} {ad : Nat → Nat} {cA : Nat → ClassId} {mc : MC} {Q : Option Value → Mem → Prop} {pc : Nat} {lv : List (Nat × Value)} {st : List Value} {M : Mem} {i v : Int} (d : decode mc.2.1 pc = .ok (.iastore, 1)) (b : 0 ≤ i ∧ i < 12) (g : rg v) (k : AW (xC l D ad cA) mc Q (pc + 1) lv st (up M 13 i v)) : AW (xC l D ad cA) mc Q pc lv (vi v :: vi i :: .ref (ad 13) :: st) M := a_iast (X := (xC l D ad cA)) (q := 13) (n := 12) (t := 9) (cA := cA 13) (Nat.le_of_ble_eq_true rfl) (fun _ => rfl) rfl rfl (Nat.le_of_ble_eq_true rfl) d b g k
theorem ldC_14 {l : Launch} {D : va_G} {ad : Nat → Nat} {cA : Nat → ClassId} {mc : MC} {Q : Option Value → Mem → Prop} {pc : Nat} {lv : List (Nat × Value)} {st : List Value} {M : Mem} {i : Int} (d : decode mc.2.1 pc = .ok (.baload, 1)) (b : 0 ≤ i ∧ i < 12) (k : rg (M 14 i) → AW (xC l D ad cA) mc Q (pc + 1) lv (vi (M 14 i) :: st) M) : AW (xC l D ad cA) mc Q pc lv (vi i :: .ref (ad 14) :: st) M := a_zald (X := (xC l D ad cA)) (q := 14) (n := 12) (t := 10) (cA := cA 14) (Nat.le_of_ble_eq_true rfl) rfl rfl rfl (Nat.le_of_ble_eq_true rfl) d b k
theorem stC_14 {l : Launch} {D : va_G} {ad : Nat → Nat} {cA : Nat → ClassId} {mc : MC} {Q : Option Value → Mem → Prop} {pc : Nat} {lv : List (Nat × Value)} {st : List Value} {M : Mem} {i v : Int} (d : decode mc.2.1 pc = .ok (.bastore, 1)) (b : 0 ≤ i ∧ i < 12) (g : b01 v) (k : AW (xC l D ad cA) mc Q (pc + 1) lv st (up M 14 i v)) : AW (xC l D ad cA) mc Q pc lv (vi v :: vi i :: .ref (ad 14) :: st) M := a_zast (X := (xC l D ad cA)) (q := 14) (n := 12) (t := 10) (cA := cA 14) (Nat.le_of_ble_eq_true rfl) (fun _ => rfl) rfl rfl (Nat.le_of_ble_eq_true rfl) d b g k
theorem ldC_15 {l : Launch} {D : va_G} {ad : Nat → Nat} {cA : Nat → ClassId} {mc : MC} {Q : Option Value → Mem → Prop} {pc : Nat} {lv : List (Nat × Value)} {st : List Value} {M : Mem} {i : Int} (d : decode mc.2.1 pc = .ok (.iaload, 1)) (b : 0 ≤ i ∧ i < 12) (k : rg (M 15 i) → AW (xC l D ad cA) mc Q (pc + 1) lv (vi (M 15 i) :: st) M) : AW (xC l D ad cA) mc Q pc lv (vi i :: .ref (ad 15) :: st) M := a_iald (X := (xC l D ad cA)) (q := 15) (n := 12) (t := 11) (cA := cA 15) (Nat.le_of_ble_eq_true rfl) rfl rfl rfl (Nat.le_of_ble_eq_true rfl) d b k
theorem stC_15 {l : Launch} {D : va_G} {ad : Nat → Nat} {cA : Nat → ClassId} {mc : MC} {Q : Option Value → Mem → Prop} {pc : Nat} {lv : List (Nat × Value)} {st : List Value} {M : Mem} {i v : Int} (d : decode mc.2.1 pc = .ok (.iastore, 1)) (b : 0 ≤ i ∧ i < 12) (g : rg v) (k : AW (xC l D ad cA) mc Q (pc + 1) lv st (up M 15 i v)) : AW (xC l D ad cA) mc Q pc lv (vi v :: vi i :: .ref (ad 15) :: st) M := a_iast (X := (xC l D ad cA)) (q := 15) (n := 12) (t := 11) (cA := cA 15) (Nat.le_of_ble_eq_true rfl) (fun _ => rfl) rfl rfl (Nat.le_of_ble_eq_true rfl) d b g k
theorem ldC_16 {l : Launch} {D : va_G} {ad : Nat → Nat} {cA : Nat → ClassId} {mc : MC} {Q : Option Value → Mem → Prop} {pc : Nat} {lv : List (Nat × Value)} {st : List Value} {M : Mem} {i : Int} (d : decode mc.2.1 pc = .ok (.iaload, 1)) (b : 0 ≤ i ∧ i < 12) (k : rg (M 16 i) → AW (xC l D ad cA) mc Q (pc + 1) lv (vi (M 16 i) :: st) M) : AW (xC l D ad cA) mc Q pc lv (vi i :: .ref (ad 16) :: st) M := a_iald (X := (xC l D ad cA)) (q := 16) (n := 12) (t := 12) (cA := cA 16) (Nat.le_of_ble_eq_true rfl) rfl rfl rfl (Nat.le_of_ble_eq_true rfl) d b k
theorem stC_16 {l : Launch} {D : va_G} {ad : Nat → Nat} {cA : Nat → ClassId} {mc : MC} {Q : Option Value → Mem → Prop} {pc : Nat} {lv : List (Nat × Value)} {st : List Value} {M : Mem} {i v : Int} (d : decode mc.2.1 pc = .ok (.iastore, 1)) (b : 0 ≤ i ∧ i < 12) (g : rg v) (k : AW (xC l D ad cA) mc Q (pc + 1) lv st (up M 16 i v)) : AW (xC l D ad cA) mc Q pc lv (vi v :: vi i :: .ref (ad 16) :: st) M := a_iast (X := (xC l D ad cA)) (q := 16) (n := 12) (t := 12) (cA := cA 16) (Nat.le_of_ble_eq_true rfl) (fun _ => rfl) rfl rfl (Nat.le_of_ble_eq_true rfl) d b g k
theorem ldC_18 {l : Launch} {D : va_G} {ad : Nat → Nat} {cA : Nat → ClassId} {mc : MC} {Q : Option Value → Mem → Prop} {pc : Nat} {lv : List (Nat × Value)} {st : List Value} {M : Mem} {i : Int} (d : decode mc.2.1 pc = .ok (.laload, 1)) (b : 0 ≤ i ∧ i < 12) (k : rl (M 18 i) → AW (xC l D ad cA) mc Q (pc + 1) lv (vl (M 18 i) :: st) M) : AW (xC l D ad cA) mc Q pc lv (vi i :: .ref (ad 18) :: st) M := a_lald (X := (xC l D ad cA)) (q := 18) (n := 12) (t := 14) (cA := cA 18) (Nat.le_of_ble_eq_true rfl) rfl rfl rfl (Nat.le_of_ble_eq_true rfl) d b k
theorem stC_18 {l : Launch} {D : va_G} {ad : Nat → Nat} {cA : Nat → ClassId} {mc : MC} {Q : Option Value → Mem → Prop} {pc : Nat} {lv : List (Nat × Value)} {st : List Value} {M : Mem} {i v : Int} (d : decode mc.2.1 pc = .ok (.lastore, 1)) (b : 0 ≤ i ∧ i < 12) (g : rl v) (k : AW (xC l D ad cA) mc Q (pc + 1) lv st (up M 18 i v)) : AW (xC l D ad cA) mc Q pc lv (vl v :: vi i :: .ref (ad 18) :: st) M := a_last (X := (xC l D ad cA)) (q := 18) (n := 12) (t := 14) (cA := cA 18) (Nat.le_of_ble_eq_true rfl) (fun _ => rfl) rfl rfl (Nat.le_of_ble_eq_true rfl) d b g k
theorem ldC_19 {l : Launch} {D : va_G} {ad : Nat → Nat} {cA : Nat → ClassId} {mc : MC} {Q : Option Value → Mem → Prop} {pc : Nat} {lv : List (Nat × Value)} {st : List Value} {M : Mem} {i : Int} (d : decode mc.2.1 pc = .ok (.laload, 1)) (b : 0 ≤ i ∧ i < 12) (k : rl (M 19 i) → AW (xC l D ad cA) mc Q (pc + 1) lv (vl (M 19 i) :: st) M) : AW (xC l D ad cA) mc Q pc lv (vi i :: .ref (ad 19) :: st) M := a_lald (X := (xC l D ad cA)) (q := 19) (n := 12) (t := 15) (cA := cA 19) (Nat.le_of_ble_eq_true rfl) rfl rfl rfl (Nat.le_of_ble_eq_true rfl) d b k
theorem stC_19 {l : Launch} {D : va_G} {ad : Nat → Nat} {cA : Nat → ClassId} {mc : MC} {Q : Option Value → Mem → Prop} {pc : Nat} {lv : List (Nat × Value)} {st : List Value} {M : Mem} {i v : Int} (d : decode mc.2.1 pc = .ok (.lastore, 1)) (b : 0 ≤ i ∧ i < 12) (g : rl v) (k : AW (xC l D ad cA) mc Q (pc + 1) lv st (up M 19 i v)) : AW (xC l D ad cA) mc Q pc lv (vl v :: vi i :: .ref (ad 19) :: st) M := a_last (X := (xC l D ad cA)) (q := 19) (n := 12) (t := 15) (cA := cA 19) (Nat.le_of_ble_eq_true rfl) (fun _ => rfl) rfl rfl (Nat.le_of_ble_eq_true rfl) d b g k
theorem ldC_20 {l : Launch} {D : va_G} {ad : Nat → Nat} {cA : Nat → ClassId} {mc : MC} {Q : Option Value → Mem → Prop} {pc : Nat} {lv : List (Nat × Value)} {st : List Value} {M : Mem} {i : Int} (d : decode mc.2.1 pc = .ok (.laload, 1)) (b : 0 ≤ i ∧ i < 12) (k : rl (M 20 i) → AW (xC l D ad cA) mc Q (pc + 1) lv (vl (M 20 i) :: st) M) : AW (xC l D ad cA) mc Q pc lv (vi i :: .ref (ad 20) :: st) M := a_lald (X := (xC l D ad cA)) (q := 20) (n := 12) (t := 16) (cA := cA 20) (Nat.le_of_ble_eq_true rfl) rfl rfl rfl (Nat.le_of_ble_eq_true rfl) d b k
theorem stC_20 {l : Launch} {D : va_G} {ad : Nat → Nat} {cA : Nat → ClassId} {mc : MC} {Q : Option Value → Mem → Prop} {pc : Nat} {lv : List (Nat × Value)} {st : List Value} {M : Mem} {i v : Int} (d : decode mc.2.1 pc = .ok (.lastore, 1)) (b : 0 ≤ i ∧ i < 12) (g : rl v) (k : AW (xC l D ad cA) mc Q (pc + 1) lv st (up M 20 i v)) : AW (xC l D ad cA) mc Q pc lv (vl v :: vi i :: .ref (ad 20) :: st) M := a_last (X := (xC l D ad cA)) (q := 20) (n := 12) (t := 16) (cA := cA 20) (Nat.le_of_ble_eq_true rfl) (fun _ => rfl) rfl rfl (Nat.le_of_ble_eq_true rfl) d b g k
theorem ldC_21 {l : Launch} {D : va_G} {ad : Nat → Nat} {cA : Nat → ClassId} {mc : MC} {Q : Option Value → Mem → Prop} {pc : Nat} {lv : List (Nat × Value)} {st : List Value} {M : Mem} {i : Int} (d : decode mc.2.1 pc = .ok (.laload, 1)) (b : 0 ≤ i ∧ i < 12) (k : rl (M 21 i) → AW (xC l D ad cA) mc Q (pc + 1) lv (vl (M 21 i) :: st) M) : AW (xC l D ad cA) mc Q pc lv (vi i :: .ref (ad 21) :: st) M := a_lald (X := (xC l D ad cA)) (q := 21) (n := 12) (t := 17) (cA := cA 21) (Nat.le_of_ble_eq_true rfl) rfl rfl rfl (Nat.le_of_ble_eq_true rfl) d b k
theorem stC_21 {l : Launch} {D : va_G} {ad : Nat → Nat} {cA : Nat → ClassId} {mc : MC} {Q : Option Value → Mem → Prop} {pc : Nat} {lv : List (Nat × Value)} {st : List Value} {M : Mem} {i v : Int} (d : decode mc.2.1 pc = .ok (.lastore, 1)) (b : 0 ≤ i ∧ i < 12) (g : rl v) (k : AW (xC l D ad cA) mc Q (pc + 1) lv st (up M 21 i v)) : AW (xC l D ad cA) mc Q pc lv (vl v :: vi i :: .ref (ad 21) :: st) M := a_last (X := (xC l D ad cA)) (q := 21) (n := 12) (t := 17) (cA := cA 21) (Nat.le_of_ble_eq_true rfl) (fun _ => rfl) rfl rfl (Nat.le_of_ble_eq_true rfl) d b g k
theorem ldC_22 {l : Launch} {D : va_G} {ad : Nat → Nat} {cA : Nat → ClassId} {mc : MC} {Q : Option Value → Mem → Prop} {pc : Nat} {lv : List (Nat × Value)} {st : List Value} {M : Mem} {i : Int} (d : decode mc.2.1 pc = .ok (.laload, 1)) (b : 0 ≤ i ∧ i < 4440) (k : rl (M 22 i) → AW (xC l D ad cA) mc Q (pc + 1) lv (vl (M 22 i) :: st) M) : AW (xC l D ad cA) mc Q pc lv (vi i :: .ref (ad 22) :: st) M := a_lald (X := (xC l D ad cA)) (q := 22) (n := 4440) (t := 18) (cA := cA 22) (Nat.le_of_ble_eq_true rfl) rfl rfl rfl (Nat.le_of_ble_eq_true rfl) d b k
theorem stC_22 {l : Launch} {D : va_G} {ad : Nat → Nat} {cA : Nat → ClassId} {mc : MC} {Q : Option Value → Mem → Prop} {pc : Nat} {lv : List (Nat × Value)} {st : List Value} {M : Mem} {i v : Int} (d : decode mc.2.1 pc = .ok (.lastore, 1)) (b : 0 ≤ i ∧ i < 4440) (g : rl v) (k : AW (xC l D ad cA) mc Q (pc + 1) lv st (up M 22 i v)) : AW (xC l D ad cA) mc Q pc lv (vl v :: vi i :: .ref (ad 22) :: st) M := a_last (X := (xC l D ad cA)) (q := 22) (n := 4440) (t := 18) (cA := cA 22) (Nat.le_of_ble_eq_true rfl) (fun _ => rfl) rfl rfl (Nat.le_of_ble_eq_true rfl) d b g k
theorem ldC_23 {l : Launch} {D : va_G} {ad : Nat → Nat} {cA : Nat → ClassId} {mc : MC} {Q : Option Value → Mem → Prop} {pc : Nat} {lv : List (Nat × Value)} {st : List Value} {M : Mem} {i : Int} (d : decode mc.2.1 pc = .ok (.iaload, 1)) (b : 0 ≤ i ∧ i < 164) (k : rg (M 23 i) → AW (xC l D ad cA) mc Q (pc + 1) lv (vi (M 23 i) :: st) M) : AW (xC l D ad cA) mc Q pc lv (vi i :: .ref (ad 23) :: st) M := a_iald (X := (xC l D ad cA)) (q := 23) (n := 164) (t := 19) (cA := cA 23) (Nat.le_of_ble_eq_true rfl) rfl rfl rfl (Nat.le_of_ble_eq_true rfl) d b k
theorem stC_23 {l : Launch} {D : va_G} {ad : Nat → Nat} {cA : Nat → ClassId} {mc : MC} {Q : Option Value → Mem → Prop} {pc : Nat} {lv : List (Nat × Value)} {st : List Value} {M : Mem} {i v : Int} (d : decode mc.2.1 pc = .ok (.iastore, 1)) (b : 0 ≤ i ∧ i < 164) (g : rg v) (k : AW (xC l D ad cA) mc Q (pc + 1) lv st (up M 23 i v)) : AW (xC l D ad cA) mc Q pc lv (vi v :: vi i :: .ref (ad 23) :: st) M := a_iast (X := (xC l D ad cA)) (q := 23) (n := 164) (t := 19) (cA := cA 23) (Nat.le_of_ble_eq_true rfl) (fun _ => rfl) rfl rfl (Nat.le_of_ble_eq_true rfl) d b g k
theorem ldC_24 {l : Launch} {D : va_G} {ad : Nat → Nat} {cA : Nat → ClassId} {mc : MC} {Q : Option Value → Mem → Prop} {pc : Nat} {lv : List (Nat × Value)} {st : List Value} {M : Mem} {i : Int} (d : decode mc.2.1 pc = .ok (.iaload, 1)) (b : 0 ≤ i ∧ i < 164) (k : rg (M 24 i) → AW (xC l D ad cA) mc Q (pc + 1) lv (vi (M 24 i) :: st) M) : AW (xC l D ad cA) mc Q pc lv (vi i :: .ref (ad 24) :: st) M := a_iald (X := (xC l D ad cA)) (q := 24) (n := 164) (t := 20) (cA := cA 24) (Nat.le_of_ble_eq_true rfl) rfl rfl rfl (Nat.le_of_ble_eq_true rfl) d b k
theorem stC_24 {l : Launch} {D : va_G} {ad : Nat → Nat} {cA : Nat → ClassId} {mc : MC} {Q : Option Value → Mem → Prop} {pc : Nat} {lv : List (Nat × Value)} {st : List Value} {M : Mem} {i v : Int} (d : decode mc.2.1 pc = .ok (.iastore, 1)) (b : 0 ≤ i ∧ i < 164) (g : rg v) (k : AW (xC l D ad cA) mc Q (pc + 1) lv st (up M 24 i v)) : AW (xC l D ad cA) mc Q pc lv (vi v :: vi i :: .ref (ad 24) :: st) M := a_iast (X := (xC l D ad cA)) (q := 24) (n := 164) (t := 20) (cA := cA 24) (Nat.le_of_ble_eq_true rfl) (fun _ => rfl) rfl rfl (Nat.le_of_ble_eq_true rfl) d b g k
theorem ldC_25 {l : Launch} {D : va_G} {ad : Nat → Nat} {cA : Nat → ClassId} {mc : MC} {Q : Option Value → Mem → Prop} {pc : Nat} {lv : List (Nat × Value)} {st : List Value} {M : Mem} {i : Int} (d : decode mc.2.1 pc = .ok (.iaload, 1)) (b : 0 ≤ i ∧ i < 164) (k : rg (M 25 i) → AW (xC l D ad cA) mc Q (pc + 1) lv (vi (M 25 i) :: st) M) : AW (xC l D ad cA) mc Q pc lv (vi i :: .ref (ad 25) :: st) M := a_iald (X := (xC l D ad cA)) (q := 25) (n := 164) (t := 21) (cA := cA 25) (Nat.le_of_ble_eq_true rfl) rfl rfl rfl (Nat.le_of_ble_eq_true rfl) d b k
theorem stC_25 {l : Launch} {D : va_G} {ad : Nat → Nat} {cA : Nat → ClassId} {mc : MC} {Q : Option Value → Mem → Prop} {pc : Nat} {lv : List (Nat × Value)} {st : List Value} {M : Mem} {i v : Int} (d : decode mc.2.1 pc = .ok (.iastore, 1)) (b : 0 ≤ i ∧ i < 164) (g : rg v) (k : AW (xC l D ad cA) mc Q (pc + 1) lv st (up M 25 i v)) : AW (xC l D ad cA) mc Q pc lv (vi v :: vi i :: .ref (ad 25) :: st) M := a_iast (X := (xC l D ad cA)) (q := 25) (n := 164) (t := 21) (cA := cA 25) (Nat.le_of_ble_eq_true rfl) (fun _ => rfl) rfl rfl (Nat.le_of_ble_eq_true rfl) d b g k
theorem ldC_26 {l : Launch} {D : va_G} {ad : Nat → Nat} {cA : Nat → ClassId} {mc : MC} {Q : Option Value → Mem → Prop} {pc : Nat} {lv : List (Nat × Value)} {st : List Value} {M : Mem} {i : Int} (d : decode mc.2.1 pc = .ok (.iaload, 1)) (b : 0 ≤ i ∧ i < 5) (k : rg (M 26 i) → AW (xC l D ad cA) mc Q (pc + 1) lv (vi (M 26 i) :: st) M) : AW (xC l D ad cA) mc Q pc lv (vi i :: .ref (ad 26) :: st) M := a_iald (X := (xC l D ad cA)) (q := 26) (n := 5) (t := 22) (cA := cA 26) (Nat.le_of_ble_eq_true rfl) rfl rfl rfl (Nat.le_of_ble_eq_true rfl) d b k
theorem stC_26 {l : Launch} {D : va_G} {ad : Nat → Nat} {cA : Nat → ClassId} {mc : MC} {Q : Option Value → Mem → Prop} {pc : Nat} {lv : List (Nat × Value)} {st : List Value} {M : Mem} {i v : Int} (d : decode mc.2.1 pc = .ok (.iastore, 1)) (b : 0 ≤ i ∧ i < 5) (g : rg v) (k : AW (xC l D ad cA) mc Q (pc + 1) lv st (up M 26 i v)) : AW (xC l D ad cA) mc Q pc lv (vi v :: vi i :: .ref (ad 26) :: st) M := a_iast (X := (xC l D ad cA)) (q := 26) (n := 5) (t := 22) (cA := cA 26) (Nat.le_of_ble_eq_true rfl) (fun _ => rfl) rfl rfl (Nat.le_of_ble_eq_true rfl) d b g k

/-- the world M: what each of its cells is -/
def EM (ad : Nat → Nat) (cA : Nat → ClassId) : Nat → (Int → Int) → va_E := fun c f => match c with
  | 0 => .inr (4, [vi (f 0), .ref (ad 1), .ref (ad 2), .ref (ad 3), vi (f 4), vi (f 5), .ref (ad 4), .ref (ad 5), .ref (ad 6), vi (f 9), .ref (ad 7), .ref (ad 8), .ref (ad 9), .ref (ad 10), .ref (ad 11), .ref (ad 12), .ref (ad 13), .ref (ad 14), .ref (ad 15), vi (f 19), vi (f 20), vi (f 21), vi (f 22), vi (f 23), vi (f 24), .ref (ad 16), .ref (ad 17), vi (f 27), .ref (ad 18), .ref (ad 19), .ref (ad 20), vi (f 31), .ref (ad 21), vi (f 33)])
  | 1 => .inl (cA 1, 12, .inl (ai f))
  | 2 => .inl (cA 2, 12, .inl (ai f))
  | 3 => .inl (cA 3, 12, .inl (ai f))
  | 4 => .inl (cA 4, 740, .inl (ai f))
  | 5 => .inl (cA 5, 1480, .inl (ai f))
  | 6 => .inl (cA 6, 740, .inl (ai f))
  | 7 => .inl (cA 7, 64, .inl (ai f))
  | 8 => .inl (cA 8, 12, .inl (ai f))
  | 9 => .inl (cA 9, 12, .inr (.inl (al f)))
  | 10 => .inl (cA 10, 24, .inr (.inl (al f)))
  | 11 => .inl (cA 11, 12, .inr (.inl (al f)))
  | 12 => .inl (cA 12, 12, .inl (ai f))
  | 13 => .inl (cA 13, 740, .inr (.inl (al f)))
  | 14 => .inl (cA 14, 1480, .inr (.inl (al f)))
  | 15 => .inl (cA 15, 740, .inr (.inl (al f)))
  | 16 => .inl (cA 16, 547600, .inl (ai f))
  | 17 => .inl (cA 17, 64, .inl (ai f))
  | 18 => .inl (cA 18, 256, .inl (ai f))
  | 19 => .inl (cA 19, 256, .inl (ai f))
  | 20 => .inl (cA 20, 256, .inl (ai f))
  | _ => .inl (cA 21, 5, .inl (ai f))
def tyM (cA : Nat → ClassId) : List (ClassId × FieldType) := [(cA 1, .int), (cA 2, .int), (cA 3, .boolean), (cA 4, .int), (cA 5, .int), (cA 6, .int), (cA 7, .int), (cA 8, .int), (cA 9, .long), (cA 10, .long), (cA 11, .long), (cA 12, .int), (cA 13, .long), (cA 14, .long), (cA 15, .long), (cA 16, .int), (cA 17, .int), (cA 18, .int), (cA 19, .int), (cA 20, .int), (cA 21, .int)]
def lgM : Nat → Bool := fun c => match c with
  | 9 => true
  | 10 => true
  | 11 => true
  | 13 => true
  | 14 => true
  | 15 => true
  | _ => false
def xM (l : Launch) (D : va_G) (ad : Nat → Nat) (cA : Nat → ClassId) : WX := (l, D, ad, 22, EM ad cA, tyM cA, lgM)
theorem ldM_1 {l : Launch} {D : va_G} {ad : Nat → Nat} {cA : Nat → ClassId} {mc : MC} {Q : Option Value → Mem → Prop} {pc : Nat} {lv : List (Nat × Value)} {st : List Value} {M : Mem} {i : Int} (d : decode mc.2.1 pc = .ok (.iaload, 1)) (b : 0 ≤ i ∧ i < 12) (k : rg (M 1 i) → AW (xM l D ad cA) mc Q (pc + 1) lv (vi (M 1 i) :: st) M) : AW (xM l D ad cA) mc Q pc lv (vi i :: .ref (ad 1) :: st) M := a_iald (X := (xM l D ad cA)) (q := 1) (n := 12) (t := 0) (cA := cA 1) (Nat.le_of_ble_eq_true rfl) rfl rfl rfl (Nat.le_of_ble_eq_true rfl) d b k
theorem stM_1 {l : Launch} {D : va_G} {ad : Nat → Nat} {cA : Nat → ClassId} {mc : MC} {Q : Option Value → Mem → Prop} {pc : Nat} {lv : List (Nat × Value)} {st : List Value} {M : Mem} {i v : Int} (d : decode mc.2.1 pc = .ok (.iastore, 1)) (b : 0 ≤ i ∧ i < 12) (g : rg v) (k : AW (xM l D ad cA) mc Q (pc + 1) lv st (up M 1 i v)) : AW (xM l D ad cA) mc Q pc lv (vi v :: vi i :: .ref (ad 1) :: st) M := a_iast (X := (xM l D ad cA)) (q := 1) (n := 12) (t := 0) (cA := cA 1) (Nat.le_of_ble_eq_true rfl) (fun _ => rfl) rfl rfl (Nat.le_of_ble_eq_true rfl) d b g k
theorem ldM_2 {l : Launch} {D : va_G} {ad : Nat → Nat} {cA : Nat → ClassId} {mc : MC} {Q : Option Value → Mem → Prop} {pc : Nat} {lv : List (Nat × Value)} {st : List Value} {M : Mem} {i : Int} (d : decode mc.2.1 pc = .ok (.iaload, 1)) (b : 0 ≤ i ∧ i < 12) (k : rg (M 2 i) → AW (xM l D ad cA) mc Q (pc + 1) lv (vi (M 2 i) :: st) M) : AW (xM l D ad cA) mc Q pc lv (vi i :: .ref (ad 2) :: st) M := a_iald (X := (xM l D ad cA)) (q := 2) (n := 12) (t := 1) (cA := cA 2) (Nat.le_of_ble_eq_true rfl) rfl rfl rfl (Nat.le_of_ble_eq_true rfl) d b k
theorem stM_2 {l : Launch} {D : va_G} {ad : Nat → Nat} {cA : Nat → ClassId} {mc : MC} {Q : Option Value → Mem → Prop} {pc : Nat} {lv : List (Nat × Value)} {st : List Value} {M : Mem} {i v : Int} (d : decode mc.2.1 pc = .ok (.iastore, 1)) (b : 0 ≤ i ∧ i < 12) (g : rg v) (k : AW (xM l D ad cA) mc Q (pc + 1) lv st (up M 2 i v)) : AW (xM l D ad cA) mc Q pc lv (vi v :: vi i :: .ref (ad 2) :: st) M := a_iast (X := (xM l D ad cA)) (q := 2) (n := 12) (t := 1) (cA := cA 2) (Nat.le_of_ble_eq_true rfl) (fun _ => rfl) rfl rfl (Nat.le_of_ble_eq_true rfl) d b g k
theorem ldM_3 {l : Launch} {D : va_G} {ad : Nat → Nat} {cA : Nat → ClassId} {mc : MC} {Q : Option Value → Mem → Prop} {pc : Nat} {lv : List (Nat × Value)} {st : List Value} {M : Mem} {i : Int} (d : decode mc.2.1 pc = .ok (.baload, 1)) (b : 0 ≤ i ∧ i < 12) (k : rg (M 3 i) → AW (xM l D ad cA) mc Q (pc + 1) lv (vi (M 3 i) :: st) M) : AW (xM l D ad cA) mc Q pc lv (vi i :: .ref (ad 3) :: st) M := a_zald (X := (xM l D ad cA)) (q := 3) (n := 12) (t := 2) (cA := cA 3) (Nat.le_of_ble_eq_true rfl) rfl rfl rfl (Nat.le_of_ble_eq_true rfl) d b k
theorem stM_3 {l : Launch} {D : va_G} {ad : Nat → Nat} {cA : Nat → ClassId} {mc : MC} {Q : Option Value → Mem → Prop} {pc : Nat} {lv : List (Nat × Value)} {st : List Value} {M : Mem} {i v : Int} (d : decode mc.2.1 pc = .ok (.bastore, 1)) (b : 0 ≤ i ∧ i < 12) (g : b01 v) (k : AW (xM l D ad cA) mc Q (pc + 1) lv st (up M 3 i v)) : AW (xM l D ad cA) mc Q pc lv (vi v :: vi i :: .ref (ad 3) :: st) M := a_zast (X := (xM l D ad cA)) (q := 3) (n := 12) (t := 2) (cA := cA 3) (Nat.le_of_ble_eq_true rfl) (fun _ => rfl) rfl rfl (Nat.le_of_ble_eq_true rfl) d b g k
theorem ldM_4 {l : Launch} {D : va_G} {ad : Nat → Nat} {cA : Nat → ClassId} {mc : MC} {Q : Option Value → Mem → Prop} {pc : Nat} {lv : List (Nat × Value)} {st : List Value} {M : Mem} {i : Int} (d : decode mc.2.1 pc = .ok (.iaload, 1)) (b : 0 ≤ i ∧ i < 740) (k : rg (M 4 i) → AW (xM l D ad cA) mc Q (pc + 1) lv (vi (M 4 i) :: st) M) : AW (xM l D ad cA) mc Q pc lv (vi i :: .ref (ad 4) :: st) M := a_iald (X := (xM l D ad cA)) (q := 4) (n := 740) (t := 3) (cA := cA 4) (Nat.le_of_ble_eq_true rfl) rfl rfl rfl (Nat.le_of_ble_eq_true rfl) d b k
theorem stM_4 {l : Launch} {D : va_G} {ad : Nat → Nat} {cA : Nat → ClassId} {mc : MC} {Q : Option Value → Mem → Prop} {pc : Nat} {lv : List (Nat × Value)} {st : List Value} {M : Mem} {i v : Int} (d : decode mc.2.1 pc = .ok (.iastore, 1)) (b : 0 ≤ i ∧ i < 740) (g : rg v) (k : AW (xM l D ad cA) mc Q (pc + 1) lv st (up M 4 i v)) : AW (xM l D ad cA) mc Q pc lv (vi v :: vi i :: .ref (ad 4) :: st) M := a_iast (X := (xM l D ad cA)) (q := 4) (n := 740) (t := 3) (cA := cA 4) (Nat.le_of_ble_eq_true rfl) (fun _ => rfl) rfl rfl (Nat.le_of_ble_eq_true rfl) d b g k
theorem ldM_5 {l : Launch} {D : va_G} {ad : Nat → Nat} {cA : Nat → ClassId} {mc : MC} {Q : Option Value → Mem → Prop} {pc : Nat} {lv : List (Nat × Value)} {st : List Value} {M : Mem} {i : Int} (d : decode mc.2.1 pc = .ok (.iaload, 1)) (b : 0 ≤ i ∧ i < 1480) (k : rg (M 5 i) → AW (xM l D ad cA) mc Q (pc + 1) lv (vi (M 5 i) :: st) M) : AW (xM l D ad cA) mc Q pc lv (vi i :: .ref (ad 5) :: st) M := a_iald (X := (xM l D ad cA)) (q := 5) (n := 1480) (t := 4) (cA := cA 5) (Nat.le_of_ble_eq_true rfl) rfl rfl rfl (Nat.le_of_ble_eq_true rfl) d b k
theorem stM_5 {l : Launch} {D : va_G} {ad : Nat → Nat} {cA : Nat → ClassId} {mc : MC} {Q : Option Value → Mem → Prop} {pc : Nat} {lv : List (Nat × Value)} {st : List Value} {M : Mem} {i v : Int} (d : decode mc.2.1 pc = .ok (.iastore, 1)) (b : 0 ≤ i ∧ i < 1480) (g : rg v) (k : AW (xM l D ad cA) mc Q (pc + 1) lv st (up M 5 i v)) : AW (xM l D ad cA) mc Q pc lv (vi v :: vi i :: .ref (ad 5) :: st) M := a_iast (X := (xM l D ad cA)) (q := 5) (n := 1480) (t := 4) (cA := cA 5) (Nat.le_of_ble_eq_true rfl) (fun _ => rfl) rfl rfl (Nat.le_of_ble_eq_true rfl) d b g k
theorem ldM_6 {l : Launch} {D : va_G} {ad : Nat → Nat} {cA : Nat → ClassId} {mc : MC} {Q : Option Value → Mem → Prop} {pc : Nat} {lv : List (Nat × Value)} {st : List Value} {M : Mem} {i : Int} (d : decode mc.2.1 pc = .ok (.iaload, 1)) (b : 0 ≤ i ∧ i < 740) (k : rg (M 6 i) → AW (xM l D ad cA) mc Q (pc + 1) lv (vi (M 6 i) :: st) M) : AW (xM l D ad cA) mc Q pc lv (vi i :: .ref (ad 6) :: st) M := a_iald (X := (xM l D ad cA)) (q := 6) (n := 740) (t := 5) (cA := cA 6) (Nat.le_of_ble_eq_true rfl) rfl rfl rfl (Nat.le_of_ble_eq_true rfl) d b k
theorem stM_6 {l : Launch} {D : va_G} {ad : Nat → Nat} {cA : Nat → ClassId} {mc : MC} {Q : Option Value → Mem → Prop} {pc : Nat} {lv : List (Nat × Value)} {st : List Value} {M : Mem} {i v : Int} (d : decode mc.2.1 pc = .ok (.iastore, 1)) (b : 0 ≤ i ∧ i < 740) (g : rg v) (k : AW (xM l D ad cA) mc Q (pc + 1) lv st (up M 6 i v)) : AW (xM l D ad cA) mc Q pc lv (vi v :: vi i :: .ref (ad 6) :: st) M := a_iast (X := (xM l D ad cA)) (q := 6) (n := 740) (t := 5) (cA := cA 6) (Nat.le_of_ble_eq_true rfl) (fun _ => rfl) rfl rfl (Nat.le_of_ble_eq_true rfl) d b g k
theorem ldM_7 {l : Launch} {D : va_G} {ad : Nat → Nat} {cA : Nat → ClassId} {mc : MC} {Q : Option Value → Mem → Prop} {pc : Nat} {lv : List (Nat × Value)} {st : List Value} {M : Mem} {i : Int} (d : decode mc.2.1 pc = .ok (.iaload, 1)) (b : 0 ≤ i ∧ i < 64) (k : rg (M 7 i) → AW (xM l D ad cA) mc Q (pc + 1) lv (vi (M 7 i) :: st) M) : AW (xM l D ad cA) mc Q pc lv (vi i :: .ref (ad 7) :: st) M := a_iald (X := (xM l D ad cA)) (q := 7) (n := 64) (t := 6) (cA := cA 7) (Nat.le_of_ble_eq_true rfl) rfl rfl rfl (Nat.le_of_ble_eq_true rfl) d b k
theorem stM_7 {l : Launch} {D : va_G} {ad : Nat → Nat} {cA : Nat → ClassId} {mc : MC} {Q : Option Value → Mem → Prop} {pc : Nat} {lv : List (Nat × Value)} {st : List Value} {M : Mem} {i v : Int} (d : decode mc.2.1 pc = .ok (.iastore, 1)) (b : 0 ≤ i ∧ i < 64) (g : rg v) (k : AW (xM l D ad cA) mc Q (pc + 1) lv st (up M 7 i v)) : AW (xM l D ad cA) mc Q pc lv (vi v :: vi i :: .ref (ad 7) :: st) M := a_iast (X := (xM l D ad cA)) (q := 7) (n := 64) (t := 6) (cA := cA 7) (Nat.le_of_ble_eq_true rfl) (fun _ => rfl) rfl rfl (Nat.le_of_ble_eq_true rfl) d b g k
theorem ldM_8 {l : Launch} {D : va_G} {ad : Nat → Nat} {cA : Nat → ClassId} {mc : MC} {Q : Option Value → Mem → Prop} {pc : Nat} {lv : List (Nat × Value)} {st : List Value} {M : Mem} {i : Int} (d : decode mc.2.1 pc = .ok (.iaload, 1)) (b : 0 ≤ i ∧ i < 12) (k : rg (M 8 i) → AW (xM l D ad cA) mc Q (pc + 1) lv (vi (M 8 i) :: st) M) : AW (xM l D ad cA) mc Q pc lv (vi i :: .ref (ad 8) :: st) M := a_iald (X := (xM l D ad cA)) (q := 8) (n := 12) (t := 7) (cA := cA 8) (Nat.le_of_ble_eq_true rfl) rfl rfl rfl (Nat.le_of_ble_eq_true rfl) d b k
theorem stM_8 {l : Launch} {D : va_G} {ad : Nat → Nat} {cA : Nat → ClassId} {mc : MC} {Q : Option Value → Mem → Prop} {pc : Nat} {lv : List (Nat × Value)} {st : List Value} {M : Mem} {i v : Int} (d : decode mc.2.1 pc = .ok (.iastore, 1)) (b : 0 ≤ i ∧ i < 12) (g : rg v) (k : AW (xM l D ad cA) mc Q (pc + 1) lv st (up M 8 i v)) : AW (xM l D ad cA) mc Q pc lv (vi v :: vi i :: .ref (ad 8) :: st) M := a_iast (X := (xM l D ad cA)) (q := 8) (n := 12) (t := 7) (cA := cA 8) (Nat.le_of_ble_eq_true rfl) (fun _ => rfl) rfl rfl (Nat.le_of_ble_eq_true rfl) d b g k
theorem ldM_9 {l : Launch} {D : va_G} {ad : Nat → Nat} {cA : Nat → ClassId} {mc : MC} {Q : Option Value → Mem → Prop} {pc : Nat} {lv : List (Nat × Value)} {st : List Value} {M : Mem} {i : Int} (d : decode mc.2.1 pc = .ok (.laload, 1)) (b : 0 ≤ i ∧ i < 12) (k : rl (M 9 i) → AW (xM l D ad cA) mc Q (pc + 1) lv (vl (M 9 i) :: st) M) : AW (xM l D ad cA) mc Q pc lv (vi i :: .ref (ad 9) :: st) M := a_lald (X := (xM l D ad cA)) (q := 9) (n := 12) (t := 8) (cA := cA 9) (Nat.le_of_ble_eq_true rfl) rfl rfl rfl (Nat.le_of_ble_eq_true rfl) d b k
theorem stM_9 {l : Launch} {D : va_G} {ad : Nat → Nat} {cA : Nat → ClassId} {mc : MC} {Q : Option Value → Mem → Prop} {pc : Nat} {lv : List (Nat × Value)} {st : List Value} {M : Mem} {i v : Int} (d : decode mc.2.1 pc = .ok (.lastore, 1)) (b : 0 ≤ i ∧ i < 12) (g : rl v) (k : AW (xM l D ad cA) mc Q (pc + 1) lv st (up M 9 i v)) : AW (xM l D ad cA) mc Q pc lv (vl v :: vi i :: .ref (ad 9) :: st) M := a_last (X := (xM l D ad cA)) (q := 9) (n := 12) (t := 8) (cA := cA 9) (Nat.le_of_ble_eq_true rfl) (fun _ => rfl) rfl rfl (Nat.le_of_ble_eq_true rfl) d b g k
theorem ldM_10 {l : Launch} {D : va_G} {ad : Nat → Nat} {cA : Nat → ClassId} {mc : MC} {Q : Option Value → Mem → Prop} {pc : Nat} {lv : List (Nat × Value)} {st : List Value} {M : Mem} {i : Int} (d : decode mc.2.1 pc = .ok (.laload, 1)) (b : 0 ≤ i ∧ i < 24) (k : rl (M 10 i) → AW (xM l D ad cA) mc Q (pc + 1) lv (vl (M 10 i) :: st) M) : AW (xM l D ad cA) mc Q pc lv (vi i :: .ref (ad 10) :: st) M := a_lald (X := (xM l D ad cA)) (q := 10) (n := 24) (t := 9) (cA := cA 10) (Nat.le_of_ble_eq_true rfl) rfl rfl rfl (Nat.le_of_ble_eq_true rfl) d b k
theorem stM_10 {l : Launch} {D : va_G} {ad : Nat → Nat} {cA : Nat → ClassId} {mc : MC} {Q : Option Value → Mem → Prop} {pc : Nat} {lv : List (Nat × Value)} {st : List Value} {M : Mem} {i v : Int} (d : decode mc.2.1 pc = .ok (.lastore, 1)) (b : 0 ≤ i ∧ i < 24) (g : rl v) (k : AW (xM l D ad cA) mc Q (pc + 1) lv st (up M 10 i v)) : AW (xM l D ad cA) mc Q pc lv (vl v :: vi i :: .ref (ad 10) :: st) M := a_last (X := (xM l D ad cA)) (q := 10) (n := 24) (t := 9) (cA := cA 10) (Nat.le_of_ble_eq_true rfl) (fun _ => rfl) rfl rfl (Nat.le_of_ble_eq_true rfl) d b g k
theorem ldM_11 {l : Launch} {D : va_G} {ad : Nat → Nat} {cA : Nat → ClassId} {mc : MC} {Q : Option Value → Mem → Prop} {pc : Nat} {lv : List (Nat × Value)} {st : List Value} {M : Mem} {i : Int} (d : decode mc.2.1 pc = .ok (.laload, 1)) (b : 0 ≤ i ∧ i < 12) (k : rl (M 11 i) → AW (xM l D ad cA) mc Q (pc + 1) lv (vl (M 11 i) :: st) M) : AW (xM l D ad cA) mc Q pc lv (vi i :: .ref (ad 11) :: st) M := a_lald (X := (xM l D ad cA)) (q := 11) (n := 12) (t := 10) (cA := cA 11) (Nat.le_of_ble_eq_true rfl) rfl rfl rfl (Nat.le_of_ble_eq_true rfl) d b k
theorem stM_11 {l : Launch} {D : va_G} {ad : Nat → Nat} {cA : Nat → ClassId} {mc : MC} {Q : Option Value → Mem → Prop} {pc : Nat} {lv : List (Nat × Value)} {st : List Value} {M : Mem} {i v : Int} (d : decode mc.2.1 pc = .ok (.lastore, 1)) (b : 0 ≤ i ∧ i < 12) (g : rl v) (k : AW (xM l D ad cA) mc Q (pc + 1) lv st (up M 11 i v)) : AW (xM l D ad cA) mc Q pc lv (vl v :: vi i :: .ref (ad 11) :: st) M := a_last (X := (xM l D ad cA)) (q := 11) (n := 12) (t := 10) (cA := cA 11) (Nat.le_of_ble_eq_true rfl) (fun _ => rfl) rfl rfl (Nat.le_of_ble_eq_true rfl) d b g k
theorem ldM_12 {l : Launch} {D : va_G} {ad : Nat → Nat} {cA : Nat → ClassId} {mc : MC} {Q : Option Value → Mem → Prop} {pc : Nat} {lv : List (Nat × Value)} {st : List Value} {M : Mem} {i : Int} (d : decode mc.2.1 pc = .ok (.iaload, 1)) (b : 0 ≤ i ∧ i < 12) (k : rg (M 12 i) → AW (xM l D ad cA) mc Q (pc + 1) lv (vi (M 12 i) :: st) M) : AW (xM l D ad cA) mc Q pc lv (vi i :: .ref (ad 12) :: st) M := a_iald (X := (xM l D ad cA)) (q := 12) (n := 12) (t := 11) (cA := cA 12) (Nat.le_of_ble_eq_true rfl) rfl rfl rfl (Nat.le_of_ble_eq_true rfl) d b k
theorem stM_12 {l : Launch} {D : va_G} {ad : Nat → Nat} {cA : Nat → ClassId} {mc : MC} {Q : Option Value → Mem → Prop} {pc : Nat} {lv : List (Nat × Value)} {st : List Value} {M : Mem} {i v : Int} (d : decode mc.2.1 pc = .ok (.iastore, 1)) (b : 0 ≤ i ∧ i < 12) (g : rg v) (k : AW (xM l D ad cA) mc Q (pc + 1) lv st (up M 12 i v)) : AW (xM l D ad cA) mc Q pc lv (vi v :: vi i :: .ref (ad 12) :: st) M := a_iast (X := (xM l D ad cA)) (q := 12) (n := 12) (t := 11) (cA := cA 12) (Nat.le_of_ble_eq_true rfl) (fun _ => rfl) rfl rfl (Nat.le_of_ble_eq_true rfl) d b g k
theorem ldM_13 {l : Launch} {D : va_G} {ad : Nat → Nat} {cA : Nat → ClassId} {mc : MC} {Q : Option Value → Mem → Prop} {pc : Nat} {lv : List (Nat × Value)} {st : List Value} {M : Mem} {i : Int} (d : decode mc.2.1 pc = .ok (.laload, 1)) (b : 0 ≤ i ∧ i < 740) (k : rl (M 13 i) → AW (xM l D ad cA) mc Q (pc + 1) lv (vl (M 13 i) :: st) M) : AW (xM l D ad cA) mc Q pc lv (vi i :: .ref (ad 13) :: st) M := a_lald (X := (xM l D ad cA)) (q := 13) (n := 740) (t := 12) (cA := cA 13) (Nat.le_of_ble_eq_true rfl) rfl rfl rfl (Nat.le_of_ble_eq_true rfl) d b k
theorem stM_13 {l : Launch} {D : va_G} {ad : Nat → Nat} {cA : Nat → ClassId} {mc : MC} {Q : Option Value → Mem → Prop} {pc : Nat} {lv : List (Nat × Value)} {st : List Value} {M : Mem} {i v : Int} (d : decode mc.2.1 pc = .ok (.lastore, 1)) (b : 0 ≤ i ∧ i < 740) (g : rl v) (k : AW (xM l D ad cA) mc Q (pc + 1) lv st (up M 13 i v)) : AW (xM l D ad cA) mc Q pc lv (vl v :: vi i :: .ref (ad 13) :: st) M := a_last (X := (xM l D ad cA)) (q := 13) (n := 740) (t := 12) (cA := cA 13) (Nat.le_of_ble_eq_true rfl) (fun _ => rfl) rfl rfl (Nat.le_of_ble_eq_true rfl) d b g k
theorem ldM_14 {l : Launch} {D : va_G} {ad : Nat → Nat} {cA : Nat → ClassId} {mc : MC} {Q : Option Value → Mem → Prop} {pc : Nat} {lv : List (Nat × Value)} {st : List Value} {M : Mem} {i : Int} (d : decode mc.2.1 pc = .ok (.laload, 1)) (b : 0 ≤ i ∧ i < 1480) (k : rl (M 14 i) → AW (xM l D ad cA) mc Q (pc + 1) lv (vl (M 14 i) :: st) M) : AW (xM l D ad cA) mc Q pc lv (vi i :: .ref (ad 14) :: st) M := a_lald (X := (xM l D ad cA)) (q := 14) (n := 1480) (t := 13) (cA := cA 14) (Nat.le_of_ble_eq_true rfl) rfl rfl rfl (Nat.le_of_ble_eq_true rfl) d b k
theorem stM_14 {l : Launch} {D : va_G} {ad : Nat → Nat} {cA : Nat → ClassId} {mc : MC} {Q : Option Value → Mem → Prop} {pc : Nat} {lv : List (Nat × Value)} {st : List Value} {M : Mem} {i v : Int} (d : decode mc.2.1 pc = .ok (.lastore, 1)) (b : 0 ≤ i ∧ i < 1480) (g : rl v) (k : AW (xM l D ad cA) mc Q (pc + 1) lv st (up M 14 i v)) : AW (xM l D ad cA) mc Q pc lv (vl v :: vi i :: .ref (ad 14) :: st) M := a_last (X := (xM l D ad cA)) (q := 14) (n := 1480) (t := 13) (cA := cA 14) (Nat.le_of_ble_eq_true rfl) (fun _ => rfl) rfl rfl (Nat.le_of_ble_eq_true rfl) d b g k
theorem ldM_15 {l : Launch} {D : va_G} {ad : Nat → Nat} {cA : Nat → ClassId} {mc : MC} {Q : Option Value → Mem → Prop} {pc : Nat} {lv : List (Nat × Value)} {st : List Value} {M : Mem} {i : Int} (d : decode mc.2.1 pc = .ok (.laload, 1)) (b : 0 ≤ i ∧ i < 740) (k : rl (M 15 i) → AW (xM l D ad cA) mc Q (pc + 1) lv (vl (M 15 i) :: st) M) : AW (xM l D ad cA) mc Q pc lv (vi i :: .ref (ad 15) :: st) M := a_lald (X := (xM l D ad cA)) (q := 15) (n := 740) (t := 14) (cA := cA 15) (Nat.le_of_ble_eq_true rfl) rfl rfl rfl (Nat.le_of_ble_eq_true rfl) d b k
theorem stM_15 {l : Launch} {D : va_G} {ad : Nat → Nat} {cA : Nat → ClassId} {mc : MC} {Q : Option Value → Mem → Prop} {pc : Nat} {lv : List (Nat × Value)} {st : List Value} {M : Mem} {i v : Int} (d : decode mc.2.1 pc = .ok (.lastore, 1)) (b : 0 ≤ i ∧ i < 740) (g : rl v) (k : AW (xM l D ad cA) mc Q (pc + 1) lv st (up M 15 i v)) : AW (xM l D ad cA) mc Q pc lv (vl v :: vi i :: .ref (ad 15) :: st) M := a_last (X := (xM l D ad cA)) (q := 15) (n := 740) (t := 14) (cA := cA 15) (Nat.le_of_ble_eq_true rfl) (fun _ => rfl) rfl rfl (Nat.le_of_ble_eq_true rfl) d b g k
theorem ldM_16 {l : Launch} {D : va_G} {ad : Nat → Nat} {cA : Nat → ClassId} {mc : MC} {Q : Option Value → Mem → Prop} {pc : Nat} {lv : List (Nat × Value)} {st : List Value} {M : Mem} {i : Int} (d : decode mc.2.1 pc = .ok (.iaload, 1)) (b : 0 ≤ i ∧ i < 547600) (k : rg (M 16 i) → AW (xM l D ad cA) mc Q (pc + 1) lv (vi (M 16 i) :: st) M) : AW (xM l D ad cA) mc Q pc lv (vi i :: .ref (ad 16) :: st) M := a_iald (X := (xM l D ad cA)) (q := 16) (n := 547600) (t := 15) (cA := cA 16) (Nat.le_of_ble_eq_true rfl) rfl rfl rfl (Nat.le_of_ble_eq_true rfl) d b k
theorem stM_16 {l : Launch} {D : va_G} {ad : Nat → Nat} {cA : Nat → ClassId} {mc : MC} {Q : Option Value → Mem → Prop} {pc : Nat} {lv : List (Nat × Value)} {st : List Value} {M : Mem} {i v : Int} (d : decode mc.2.1 pc = .ok (.iastore, 1)) (b : 0 ≤ i ∧ i < 547600) (g : rg v) (k : AW (xM l D ad cA) mc Q (pc + 1) lv st (up M 16 i v)) : AW (xM l D ad cA) mc Q pc lv (vi v :: vi i :: .ref (ad 16) :: st) M := a_iast (X := (xM l D ad cA)) (q := 16) (n := 547600) (t := 15) (cA := cA 16) (Nat.le_of_ble_eq_true rfl) (fun _ => rfl) rfl rfl (Nat.le_of_ble_eq_true rfl) d b g k
theorem ldM_17 {l : Launch} {D : va_G} {ad : Nat → Nat} {cA : Nat → ClassId} {mc : MC} {Q : Option Value → Mem → Prop} {pc : Nat} {lv : List (Nat × Value)} {st : List Value} {M : Mem} {i : Int} (d : decode mc.2.1 pc = .ok (.iaload, 1)) (b : 0 ≤ i ∧ i < 64) (k : rg (M 17 i) → AW (xM l D ad cA) mc Q (pc + 1) lv (vi (M 17 i) :: st) M) : AW (xM l D ad cA) mc Q pc lv (vi i :: .ref (ad 17) :: st) M := a_iald (X := (xM l D ad cA)) (q := 17) (n := 64) (t := 16) (cA := cA 17) (Nat.le_of_ble_eq_true rfl) rfl rfl rfl (Nat.le_of_ble_eq_true rfl) d b k
theorem stM_17 {l : Launch} {D : va_G} {ad : Nat → Nat} {cA : Nat → ClassId} {mc : MC} {Q : Option Value → Mem → Prop} {pc : Nat} {lv : List (Nat × Value)} {st : List Value} {M : Mem} {i v : Int} (d : decode mc.2.1 pc = .ok (.iastore, 1)) (b : 0 ≤ i ∧ i < 64) (g : rg v) (k : AW (xM l D ad cA) mc Q (pc + 1) lv st (up M 17 i v)) : AW (xM l D ad cA) mc Q pc lv (vi v :: vi i :: .ref (ad 17) :: st) M := a_iast (X := (xM l D ad cA)) (q := 17) (n := 64) (t := 16) (cA := cA 17) (Nat.le_of_ble_eq_true rfl) (fun _ => rfl) rfl rfl (Nat.le_of_ble_eq_true rfl) d b g k
theorem ldM_18 {l : Launch} {D : va_G} {ad : Nat → Nat} {cA : Nat → ClassId} {mc : MC} {Q : Option Value → Mem → Prop} {pc : Nat} {lv : List (Nat × Value)} {st : List Value} {M : Mem} {i : Int} (d : decode mc.2.1 pc = .ok (.iaload, 1)) (b : 0 ≤ i ∧ i < 256) (k : rg (M 18 i) → AW (xM l D ad cA) mc Q (pc + 1) lv (vi (M 18 i) :: st) M) : AW (xM l D ad cA) mc Q pc lv (vi i :: .ref (ad 18) :: st) M := a_iald (X := (xM l D ad cA)) (q := 18) (n := 256) (t := 17) (cA := cA 18) (Nat.le_of_ble_eq_true rfl) rfl rfl rfl (Nat.le_of_ble_eq_true rfl) d b k
theorem stM_18 {l : Launch} {D : va_G} {ad : Nat → Nat} {cA : Nat → ClassId} {mc : MC} {Q : Option Value → Mem → Prop} {pc : Nat} {lv : List (Nat × Value)} {st : List Value} {M : Mem} {i v : Int} (d : decode mc.2.1 pc = .ok (.iastore, 1)) (b : 0 ≤ i ∧ i < 256) (g : rg v) (k : AW (xM l D ad cA) mc Q (pc + 1) lv st (up M 18 i v)) : AW (xM l D ad cA) mc Q pc lv (vi v :: vi i :: .ref (ad 18) :: st) M := a_iast (X := (xM l D ad cA)) (q := 18) (n := 256) (t := 17) (cA := cA 18) (Nat.le_of_ble_eq_true rfl) (fun _ => rfl) rfl rfl (Nat.le_of_ble_eq_true rfl) d b g k
theorem ldM_19 {l : Launch} {D : va_G} {ad : Nat → Nat} {cA : Nat → ClassId} {mc : MC} {Q : Option Value → Mem → Prop} {pc : Nat} {lv : List (Nat × Value)} {st : List Value} {M : Mem} {i : Int} (d : decode mc.2.1 pc = .ok (.iaload, 1)) (b : 0 ≤ i ∧ i < 256) (k : rg (M 19 i) → AW (xM l D ad cA) mc Q (pc + 1) lv (vi (M 19 i) :: st) M) : AW (xM l D ad cA) mc Q pc lv (vi i :: .ref (ad 19) :: st) M := a_iald (X := (xM l D ad cA)) (q := 19) (n := 256) (t := 18) (cA := cA 19) (Nat.le_of_ble_eq_true rfl) rfl rfl rfl (Nat.le_of_ble_eq_true rfl) d b k
theorem stM_19 {l : Launch} {D : va_G} {ad : Nat → Nat} {cA : Nat → ClassId} {mc : MC} {Q : Option Value → Mem → Prop} {pc : Nat} {lv : List (Nat × Value)} {st : List Value} {M : Mem} {i v : Int} (d : decode mc.2.1 pc = .ok (.iastore, 1)) (b : 0 ≤ i ∧ i < 256) (g : rg v) (k : AW (xM l D ad cA) mc Q (pc + 1) lv st (up M 19 i v)) : AW (xM l D ad cA) mc Q pc lv (vi v :: vi i :: .ref (ad 19) :: st) M := a_iast (X := (xM l D ad cA)) (q := 19) (n := 256) (t := 18) (cA := cA 19) (Nat.le_of_ble_eq_true rfl) (fun _ => rfl) rfl rfl (Nat.le_of_ble_eq_true rfl) d b g k
theorem ldM_20 {l : Launch} {D : va_G} {ad : Nat → Nat} {cA : Nat → ClassId} {mc : MC} {Q : Option Value → Mem → Prop} {pc : Nat} {lv : List (Nat × Value)} {st : List Value} {M : Mem} {i : Int} (d : decode mc.2.1 pc = .ok (.iaload, 1)) (b : 0 ≤ i ∧ i < 256) (k : rg (M 20 i) → AW (xM l D ad cA) mc Q (pc + 1) lv (vi (M 20 i) :: st) M) : AW (xM l D ad cA) mc Q pc lv (vi i :: .ref (ad 20) :: st) M := a_iald (X := (xM l D ad cA)) (q := 20) (n := 256) (t := 19) (cA := cA 20) (Nat.le_of_ble_eq_true rfl) rfl rfl rfl (Nat.le_of_ble_eq_true rfl) d b k
theorem stM_20 {l : Launch} {D : va_G} {ad : Nat → Nat} {cA : Nat → ClassId} {mc : MC} {Q : Option Value → Mem → Prop} {pc : Nat} {lv : List (Nat × Value)} {st : List Value} {M : Mem} {i v : Int} (d : decode mc.2.1 pc = .ok (.iastore, 1)) (b : 0 ≤ i ∧ i < 256) (g : rg v) (k : AW (xM l D ad cA) mc Q (pc + 1) lv st (up M 20 i v)) : AW (xM l D ad cA) mc Q pc lv (vi v :: vi i :: .ref (ad 20) :: st) M := a_iast (X := (xM l D ad cA)) (q := 20) (n := 256) (t := 19) (cA := cA 20) (Nat.le_of_ble_eq_true rfl) (fun _ => rfl) rfl rfl (Nat.le_of_ble_eq_true rfl) d b g k
theorem ldM_21 {l : Launch} {D : va_G} {ad : Nat → Nat} {cA : Nat → ClassId} {mc : MC} {Q : Option Value → Mem → Prop} {pc : Nat} {lv : List (Nat × Value)} {st : List Value} {M : Mem} {i : Int} (d : decode mc.2.1 pc = .ok (.iaload, 1)) (b : 0 ≤ i ∧ i < 5) (k : rg (M 21 i) → AW (xM l D ad cA) mc Q (pc + 1) lv (vi (M 21 i) :: st) M) : AW (xM l D ad cA) mc Q pc lv (vi i :: .ref (ad 21) :: st) M := a_iald (X := (xM l D ad cA)) (q := 21) (n := 5) (t := 20) (cA := cA 21) (Nat.le_of_ble_eq_true rfl) rfl rfl rfl (Nat.le_of_ble_eq_true rfl) d b k
theorem stM_21 {l : Launch} {D : va_G} {ad : Nat → Nat} {cA : Nat → ClassId} {mc : MC} {Q : Option Value → Mem → Prop} {pc : Nat} {lv : List (Nat × Value)} {st : List Value} {M : Mem} {i v : Int} (d : decode mc.2.1 pc = .ok (.iastore, 1)) (b : 0 ≤ i ∧ i < 5) (g : rg v) (k : AW (xM l D ad cA) mc Q (pc + 1) lv st (up M 21 i v)) : AW (xM l D ad cA) mc Q pc lv (vi v :: vi i :: .ref (ad 21) :: st) M := a_iast (X := (xM l D ad cA)) (q := 21) (n := 5) (t := 20) (cA := cA 21) (Nat.le_of_ble_eq_true rfl) (fun _ => rfl) rfl rfl (Nat.le_of_ble_eq_true rfl) d b g k

theorem lenC_22 {l : Launch} {D : va_G} {ad : Nat → Nat} {cA : Nat → ClassId} {mc : MC} {Q : Option Value → Mem → Prop} {pc : Nat} {lv : List (Nat × Value)} {st : List Value} {M : Mem} (d : decode mc.2.1 pc = .ok (.arraylength, 1)) (k : AW (xC l D ad cA) mc Q (pc + 1) lv (vi 4440 :: st) M) : AW (xC l D ad cA) mc Q pc lv (.ref (ad 22) :: st) M := a_alen (X := (xC l D ad cA)) (q := 22) (n := 4440) (t := 18) (cA := cA 22) (ty := .long) (Nat.le_of_ble_eq_true rfl) rfl rfl rfl d k
theorem ldC_rows {l : Launch} {D : va_G} {ad : Nat → Nat} {cA : Nat → ClassId} {mc : MC} {Q : Option Value → Mem → Prop} {pc : Nat} {lv : List (Nat × Value)} {st : List Value} {M : Mem} {i : Int} (d : decode mc.2.1 pc = .ok (.aaload, 1)) (b : 0 ≤ i ∧ i < 4) (k : AW (xC l D ad cA) mc Q (pc + 1) lv (.ref (ad (18 + (i).toNat)) :: st) M) : AW (xC l D ad cA) mc Q pc lv (vi i :: .ref (ad 17) :: st) M := a_aald (X := (xC l D ad cA)) (q := 17) (n := 4) (r := 18) (t := 13) (cA := cA 17) (ty := .long) (Nat.le_of_ble_eq_true rfl) rfl rfl (Nat.le_of_ble_eq_true rfl) d b k
theorem ldC_row {l : Launch} {D : va_G} {ad : Nat → Nat} {cA : Nat → ClassId} {mc : MC} {Q : Option Value → Mem → Prop} {pc : Nat} {lv : List (Nat × Value)} {st : List Value} {M : Mem} {j i : Int} (bk : 0 ≤ j ∧ j < 4) (d : decode mc.2.1 pc = .ok (.laload, 1)) (b : 0 ≤ i ∧ i < 12) (k : rl (M (18 + (j).toNat) i) → AW (xC l D ad cA) mc Q (pc + 1) lv (vl (M (18 + (j).toNat) i) :: st) M) : AW (xC l D ad cA) mc Q pc lv (vi i :: .ref (ad (18 + (j).toNat)) :: st) M := by
  have h4 : j.toNat = 0 ∨ j.toNat = 1 ∨ j.toNat = 2 ∨ j.toNat = 3 := by omega
  rcases h4 with h4 | h4 | h4 | h4 <;> rw [h4] at k ⊢
  · exact ldC_18 d b k
  · exact ldC_19 d b k
  · exact ldC_20 d b k
  · exact ldC_21 d b k
theorem stC_row {l : Launch} {D : va_G} {ad : Nat → Nat} {cA : Nat → ClassId} {mc : MC} {Q : Option Value → Mem → Prop} {pc : Nat} {lv : List (Nat × Value)} {st : List Value} {M : Mem} {j i v : Int} (bk : 0 ≤ j ∧ j < 4) (d : decode mc.2.1 pc = .ok (.lastore, 1)) (b : 0 ≤ i ∧ i < 12) (g : rl v) (k : AW (xC l D ad cA) mc Q (pc + 1) lv st (up M (18 + (j).toNat) i v)) : AW (xC l D ad cA) mc Q pc lv (vl v :: vi i :: .ref (ad (18 + (j).toNat)) :: st) M := by
  have h4 : j.toNat = 0 ∨ j.toNat = 1 ∨ j.toNat = 2 ∨ j.toNat = 3 := by omega
  rcases h4 with h4 | h4 | h4 | h4 <;> rw [h4] at k ⊢
  · exact stC_18 d b g k
  · exact stC_19 d b g k
  · exact stC_20 d b g k
  · exact stC_21 d b g k
abbrev mX1_has : MC := (RX1, cX1_has, 2, (some .boolean), rmL 0)
abbrev mX1_definitionOf : MC := (RX1, cX1_definitionOf, 2, (some .int), rmL 1)
abbrev mX1_isOpaque : MC := (RX1, cX1_isOpaque, 2, (some .boolean), rmL 1)
abbrev mX1_isFolded : MC := (RX1, cX1_isFolded, 2, (some .boolean), rmL 2)
abbrev mX2_wasMade : MC := (RX2, cX2_wasMade, 2, (some .boolean), rmL 0)
abbrev mX2_namesIn : MC := (RX2, cX2_namesIn, 2, (some .int), rmL 1)
abbrev mJ9_max_7cf53 : MC := (RJ9, cJ9_max_7cf53, 2, (some .int), rmL 0)
abbrev mX1_greatestHeightIn : MC := (RX1, cX1_greatestHeightIn, 5, (some .int), rmL 2)
abbrev mX2_isHeld : MC := (RX2, cX2_isHeld, 2, (some .boolean), rmL 0)
abbrev mX2_frontOf : MC := (RX2, cX2_frontOf, 2, (some .int), rmL 1)
abbrev mX2_partOf : MC := (RX2, cX2_partOf, 3, (some .int), rmL 1)
abbrev mX1_frontOfWhole : MC := (RX1, cX1_frontOfWhole, 6, (some .int), rmL 2)
abbrev mX1_product : MC := (RX1, cX1_product, 4, (some .long), rmL 0)
abbrev mJ9_min_f86c9 : MC := (RJ9, cJ9_min_f86c9, 4, (some .long), rmL 0)
abbrev mX1_sum : MC := (RX1, cX1_sum, 4, (some .long), rmL 1)
abbrev mX1_countInWhole (fu : Nat) : MC := (RX1, cX1_countInWhole, 10, (some .long), rmL (2 + fu))
abbrev mX1_settleFolded : MC := (RX1, cX1_settleFolded, 4, none, rmL 9)
abbrev mX1_settlePlain : MC := (RX1, cX1_settlePlain, 3, none, rmL 1)
abbrev mX1_settleFrom : MC := (RX1, cX1_settleFrom, 3, none, rmL 10)
abbrev mX1_come : MC := (RX1, cX1_come, 3, (some .int), rmL 11)
abbrev mX3_name : MC := (RX3, cX3_name, 2, (some .int), rmL 12)
abbrev mX2_find : MC := (RX2, cX2_find, 5, (some .int), rmL 0)
abbrev mX2_hold : MC := (RX2, cX2_hold, 5, (some .int), rmL 0)
abbrev mX2_depthOf : MC := (RX2, cX2_depthOf, 2, (some .int), rmL 1)
abbrev mX2_depthAbove : MC := (RX2, cX2_depthAbove, 3, (some .int), rmL 2)
abbrev mX2_sizeOf : MC := (RX2, cX2_sizeOf, 2, (some .int), rmL 1)
abbrev mX2_timesOfParameter : MC := (RX2, cX2_timesOfParameter, 3, (some .int), rmL 1)
abbrev mX2_measure : MC := (RX2, cX2_measure, 5, none, rmL 3)
abbrev mX2_numberOf : MC := (RX2, cX2_numberOf, 5, (some .int), rmL 4)
abbrev mX3_parameter : MC := (RX3, cX3_parameter, 2, (some .int), rmL 5)
abbrev mX1_arityOf : MC := (RX1, cX1_arityOf, 2, (some .int), rmL 1)
abbrev mX3_term : MC := (RX3, cX3_term, 5, (some .int), rmL 5)
abbrev mX1_redefine : MC := (RX1, cX1_redefine, 4, (some .int), rmL 11)
abbrev mX1_mayStandFor : MC := (RX1, cX1_mayStandFor, 5, (some .boolean), rmL 2)
abbrev mX3_define : MC := (RX3, cX3_define, 3, (some .int), rmL 12)
abbrev mX1_cover : MC := (RX1, cX1_cover, 3, (some .boolean), rmL 11)
abbrev mX3_opaque : MC := (RX3, cX3_opaque, 3, (some .int), rmL 12)
abbrev mX1_heightOf : MC := (RX1, cX1_heightOf, 2, (some .int), rmL 1)
abbrev mX3_ofName : MC := (RX3, cX3_ofName, 3, (some .int), rmL 2)
abbrev mX2_isClosed : MC := (RX2, cX2_isClosed, 2, (some .boolean), rmL 2)
abbrev mX3_ofTerm : MC := (RX3, cX3_ofTerm, 4, (some .int), rmL 3)
abbrev mX1_sizeUnfolded : MC := (RX1, cX1_sizeUnfolded, 7, (some .long), rmL 3)
abbrev mX1_sizeOfWhole : MC := (RX1, cX1_sizeOfWhole, 4, (some .long), rmL 9)
abbrev mX1_unfoldingsOutermost : MC := (RX1, cX1_unfoldingsOutermost, 2, (some .long), rmL 9)
abbrev mX3_size : MC := (RX3, cX3_size, 3, (some .long), rmL 10)
abbrev mX3_front : MC := (RX3, cX3_front, 2, (some .int), rmL 3)
abbrev mX2_dropNotMade : MC := (RX2, cX2_dropNotMade, 1, none, rmL 0)
abbrev mJ7_fill_d0a16 : MC := (RJ7, cJ7_fill_d0a16, 5, none, rmL 0)
abbrev mX0_start : MC := (RX0, cX0_start, 1, none, rmL 1)
abbrev mX0_wordOf : MC := (RX0, cX0_wordOf, 2, (some .int), rmL 0)
abbrev mX0_shiftOf : MC := (RX0, cX0_shiftOf, 1, (some .int), rmL 0)
abbrev mX0_judgment : MC := (RX0, cX0_judgment, 4, (some .int), rmL 1)
abbrev mX0_meet : MC := (RX0, cX0_meet, 4, (some .int), rmL 2)
abbrev mX0_hasLast : MC := (RX0, cX0_hasLast, 1, (some .boolean), rmL 0)
abbrev mX0_lastX : MC := (RX0, cX0_lastX, 1, (some .int), rmL 1)
abbrev mX0_lastY : MC := (RX0, cX0_lastY, 1, (some .int), rmL 1)
abbrev mX0_setLastWaitsFor : MC := (RX0, cX0_setLastWaitsFor, 2, none, rmL 1)
abbrev mX0_meetParts : MC := (RX0, cX0_meetParts, 2, (some .int), rmL 3)
abbrev mX2_filled (fu : Nat) : MC := (RX2, cX2_filled, 9, (some .int), rmL (1 + fu))
abbrev mX2_unfolded : MC := (RX2, cX2_unfolded, 4, (some .int), rmL 8)
abbrev mX0_unfolded : MC := (RX0, cX0_unfolded, 3, (some .int), rmL 9)
abbrev mX0_unfold : MC := (RX0, cX0_unfold, 6, (some .int), rmL 10)
abbrev mX0_judge : MC := (RX0, cX0_judge, 4, none, rmL 1)
abbrev mX0_close : MC := (RX0, cX0_close, 2, (some .int), rmL 2)
abbrev mX0_begin : MC := (RX0, cX0_begin, 5, (some .int), rmL 11)
abbrev mX0_lastWaitsFor : MC := (RX0, cX0_lastWaitsFor, 1, (some .int), rmL 1)
abbrev mX0_goOn : MC := (RX0, cX0_goOn, 4, (some .int), rmL 11)
abbrev mX0_keep : MC := (RX0, cX0_keep, 2, none, rmL 0)
abbrev mX0_run : MC := (RX0, cX0_run, 5, (some .int), rmL 12)
abbrev mX3_check : MC := (RX3, cX3_check, 3, (some .int), rmL 13)
abbrev mX0_latest : MC := (RX0, cX0_latest, 2, (some .int), rmL 0)
abbrev mX3_checked : MC := (RX3, cX3_checked, 2, (some .int), rmL 1)
abbrev mX1_howMany : MC := (RX1, cX1_howMany, 1, (some .int), rmL 0)
abbrev mX2_howMany : MC := (RX2, cX2_howMany, 1, (some .int), rmL 0)
abbrev mX1_howManyDefined : MC := (RX1, cX1_howManyDefined, 3, (some .int), rmL 0)
abbrev mX1_howManyFolded : MC := (RX1, cX1_howManyFolded, 3, (some .int), rmL 3)
abbrev mX2_howManyClosed : MC := (RX2, cX2_howManyClosed, 3, (some .int), rmL 3)
abbrev mX3_many : MC := (RX3, cX3_many, 2, (some .int), rmL 4)
abbrev mX4_within : MC := (RX4, cX4_within, 3, (some .boolean), rmL 0)
abbrev mX4_isName : MC := (RX4, cX4_isName, 2, (some .boolean), rmL 1)
abbrev mX4_isFolded : MC := (RX4, cX4_isFolded, 2, (some .boolean), rmL 0)
abbrev mX4_isTerm : MC := (RX4, cX4_isTerm, 2, (some .boolean), rmL 1)
abbrev mX4_part : MC := (RX4, cX4_part, 3, (some .int), rmL 0)
abbrev mX4_partsOf : MC := (RX4, cX4_partsOf, 2, (some .int), rmL 0)
abbrev mX4_find : MC := (RX4, cX4_find, 5, (some .int), rmL 1)
abbrev mX4_depthBy : MC := (RX4, cX4_depthBy, 4, (some .int), rmL 0)
abbrev mX4_comes : MC := (RX4, cX4_comes, 5, (some .int), rmL 2)
abbrev mX4_makes : MC := (RX4, cX4_makes, 5, (some .int), rmL 3)
abbrev mX4_name : MC := (RX4, cX4_name, 2, (some .int), rmL 1)
abbrev mX4_parameter : MC := (RX4, cX4_parameter, 2, (some .int), rmL 4)
abbrev mX4_term : MC := (RX4, cX4_term, 4, (some .int), rmL 4)
abbrev mX4_goesThrough : MC := (RX4, cX4_goesThrough, 4, none, rmL 1)
abbrev mX4_mayDefine : MC := (RX4, cX4_mayDefine, 5, (some .boolean), rmL 2)
abbrev mX4_isClosed : MC := (RX4, cX4_isClosed, 3, (some .boolean), rmL 2)
abbrev mX4_define : MC := (RX4, cX4_define, 4, (some .int), rmL 3)
abbrev mX4_opaque : MC := (RX4, cX4_opaque, 3, (some .int), rmL 2)
abbrev mX4_atMost : MC := (RX4, cX4_atMost, 2, (some .long), rmL 0)
abbrev mX4_times : MC := (RX4, cX4_times, 4, (some .long), rmL 1)
abbrev mX4_weighs : MC := (RX4, cX4_weighs, 15, none, rmL 2)
abbrev mX4_headNow : MC := (RX4, cX4_headNow, 3, (some .int), rmL 1)
abbrev mX4_findName : MC := (RX4, cX4_findName, 6, none, rmL 3)
abbrev mX4_findNames : MC := (RX4, cX4_findNames, 2, none, rmL 4)
abbrev mX4_ofName : MC := (RX4, cX4_ofName, 3, (some .int), rmL 5)
abbrev mX4_ofTerm : MC := (RX4, cX4_ofTerm, 3, (some .int), rmL 3)
abbrev mX4_plainSize : MC := (RX4, cX4_plainSize, 2, (some .int), rmL 2)
abbrev mX4_unfoldedSize : MC := (RX4, cX4_unfoldedSize, 8, (some .long), rmL 3)
abbrev mX4_weighsAll : MC := (RX4, cX4_weighsAll, 3, none, rmL 5)
abbrev mX4_size : MC := (RX4, cX4_size, 3, (some .long), rmL 6)
abbrev mX4_front : MC := (RX4, cX4_front, 2, (some .int), rmL 5)
abbrev mX4_firstPart : MC := (RX4, cX4_firstPart, 4, (some .int), rmL 1)
abbrev mX4_unfolds : MC := (RX4, cX4_unfolds, 9, (some .int), rmL 3)
abbrev mX4_mayUnfold : MC := (RX4, cX4_mayUnfold, 2, (some .boolean), rmL 0)
abbrev mX4_goesTo : MC := (RX4, cX4_goesTo, 3, none, rmL 0)
abbrev mX4_ends : MC := (RX4, cX4_ends, 2, none, rmL 0)
abbrev mX4_leaves : MC := (RX4, cX4_leaves, 2, none, rmL 0)
abbrev mX4_unfoldsSome : MC := (RX4, cX4_unfoldsSome, 6, none, rmL 4)
abbrev mX4_judgesNames : MC := (RX4, cX4_judgesNames, 5, none, rmL 5)
abbrev mX4_goesToPart : MC := (RX4, cX4_goesToPart, 3, none, rmL 1)
abbrev mX4_begins : MC := (RX4, cX4_begins, 4, none, rmL 6)
abbrev mX4_goesOn : MC := (RX4, cX4_goesOn, 3, none, rmL 5)
abbrev mX4_judges : MC := (RX4, cX4_judges, 4, (some .boolean), rmL 7)
abbrev mX4_check : MC := (RX4, cX4_check, 4, (some .int), rmL 8)
abbrev mX4_checked : MC := (RX4, cX4_checked, 2, (some .int), rmL 1)
abbrev mX4_manyNames : MC := (RX4, cX4_manyNames, 4, (some .int), rmL 1)
abbrev mX4_manyClosed : MC := (RX4, cX4_manyClosed, 3, (some .int), rmL 3)
abbrev mX4_many : MC := (RX4, cX4_many, 2, (some .int), rmL 4)
end
section
theorem gfX1_37 {l : Launch} {D : va_G} {ad : Nat → Nat} {cA : Nat → ClassId} {cc : ByteArray} {nL : Nat} {rt : Option FieldType} {R : Room} {Q : Option Value → Mem → Prop} {pc : Nat} {lv : List (Nat × Value)} {st : List Value} {M : Mem} (d : decode cc pc = .ok (.getfield 37, 3)) (k : rg (M 2 7) → AW (xC l D ad cA) (RX1, cc, nL, rt, R) Q (pc + 3) lv (vi (M 2 7) :: st) M) : AW (xC l D ad cA) (RX1, cc, nL, rt, R) Q pc lv (.ref (ad 2) :: st) M :=
  a_get (X := (xC l D ad cA)) (q := 2) (ci := 1) (k := 7) (N := 8) (C := RX1) (T := TX1) (Nat.le_of_ble_eq_true rfl) rfl rfl inGX1 (Nat.le_of_ble_eq_true rfl) (gtb_in (w := .fieldLink RX1 37 (TX1 7).1 (TX1 7).2.1 (TX1 7).2.2.1) (by decide +kernel) rfl) rfl d (AW.rng (fun hR => k (hR.i rfl _)))
theorem kX1_45 {l : Launch} {D : va_G} {ad : Nat → Nat} {cA : Nat → ClassId} {cc : ByteArray} {nL : Nat} {rt : Option FieldType} {dl : Nat} {Q : Option Value → Mem → Prop} {pc : Nat} {lv : List (Nat × Value)} {rest : List Value} {M : Mem} {p0 : Int} {Q1 : Int → Mem → Prop} (hd : 0 + 1 ≤ dl) (hrm : (rest.map fun v => v.category).sum ≤ 8) (d : decode cc pc = .ok (.invokevirtual 45, 3)) (hM : AM (xC l D ad cA) yX1_has mX1_has [.ref (ad 2), vi p0] M (qI Q1)) (kk : ∀ r M1, rg r → Q1 r M1 → AW (xC l D ad cA) (RX1, cc, nL, rt, rmL dl) Q (pc + 3) lv (vi r :: rest) M1) : AW (xC l D ad cA) (RX1, cc, nL, rt, rmL dl) Q pc lv (vi p0 :: .ref (ad 2) :: rest) M :=
  a_callV (X := (xC l D ad cA)) (mc' := mX1_has) (q := 2) (ci := 1) (N := 8) (n := 1) (As := [vi p0]) (rest := rest) (C := RX1) (T := TX1) (Nat.le_of_ble_eq_true rfl) rfl rfl (gtb_in (w := .methodLink RX1 45 yX1_has) (by decide +kernel) rfl) (gtb_in (by decide +kernel) rfl) (gtb_in (by decide +kernel) rfl) (gtb_in (by decide +kernel) rfl) (gtb_in (w := .code yX1_has cX1_has 2 (some .boolean)) (by decide +kernel) rfl) (by decide +kernel) rfl ⟨rfl, rfl⟩ (rm_ok hd (Nat.le_of_ble_eq_true rfl)) hrm rfl d hM (fun v M1 h => by obtain ⟨r, rfl, g, h⟩ := h; exact kk r M1 g h)
theorem gfX1_15 {l : Launch} {D : va_G} {ad : Nat → Nat} {cA : Nat → ClassId} {cc : ByteArray} {nL : Nat} {rt : Option FieldType} {R : Room} {Q : Option Value → Mem → Prop} {pc : Nat} {lv : List (Nat × Value)} {st : List Value} {M : Mem} (d : decode cc pc = .ok (.getfield 15, 3)) (k : AW (xC l D ad cA) (RX1, cc, nL, rt, R) Q (pc + 3) lv (.ref (ad 13) :: st) M) : AW (xC l D ad cA) (RX1, cc, nL, rt, R) Q pc lv (.ref (ad 2) :: st) M :=
  a_get (X := (xC l D ad cA)) (q := 2) (ci := 1) (k := 2) (N := 8) (C := RX1) (T := TX1) (Nat.le_of_ble_eq_true rfl) rfl rfl inGX1 (Nat.le_of_ble_eq_true rfl) (gtb_in (w := .fieldLink RX1 15 (TX1 2).1 (TX1 2).2.1 (TX1 2).2.2.1) (by decide +kernel) rfl) rfl d k
theorem gfX1_18 {l : Launch} {D : va_G} {ad : Nat → Nat} {cA : Nat → ClassId} {cc : ByteArray} {nL : Nat} {rt : Option FieldType} {R : Room} {Q : Option Value → Mem → Prop} {pc : Nat} {lv : List (Nat × Value)} {st : List Value} {M : Mem} (d : decode cc pc = .ok (.getfield 18, 3)) (k : AW (xC l D ad cA) (RX1, cc, nL, rt, R) Q (pc + 3) lv (.ref (ad 14) :: st) M) : AW (xC l D ad cA) (RX1, cc, nL, rt, R) Q pc lv (.ref (ad 2) :: st) M :=
  a_get (X := (xC l D ad cA)) (q := 2) (ci := 1) (k := 3) (N := 8) (C := RX1) (T := TX1) (Nat.le_of_ble_eq_true rfl) rfl rfl inGX1 (Nat.le_of_ble_eq_true rfl) (gtb_in (w := .fieldLink RX1 18 (TX1 3).1 (TX1 3).2.1 (TX1 3).2.2.1) (by decide +kernel) rfl) rfl d k
theorem kX1_48 {l : Launch} {D : va_G} {ad : Nat → Nat} {cA : Nat → ClassId} {cc : ByteArray} {nL : Nat} {rt : Option FieldType} {dl : Nat} {Q : Option Value → Mem → Prop} {pc : Nat} {lv : List (Nat × Value)} {rest : List Value} {M : Mem} {p0 : Int} {Q1 : Int → Mem → Prop} (hd : 1 + 1 ≤ dl) (hrm : (rest.map fun v => v.category).sum ≤ 8) (d : decode cc pc = .ok (.invokevirtual 48, 3)) (hM : AM (xC l D ad cA) yX1_definitionOf mX1_definitionOf [.ref (ad 2), vi p0] M (qI Q1)) (kk : ∀ r M1, rg r → Q1 r M1 → AW (xC l D ad cA) (RX1, cc, nL, rt, rmL dl) Q (pc + 3) lv (vi r :: rest) M1) : AW (xC l D ad cA) (RX1, cc, nL, rt, rmL dl) Q pc lv (vi p0 :: .ref (ad 2) :: rest) M :=
  a_callV (X := (xC l D ad cA)) (mc' := mX1_definitionOf) (q := 2) (ci := 1) (N := 8) (n := 1) (As := [vi p0]) (rest := rest) (C := RX1) (T := TX1) (Nat.le_of_ble_eq_true rfl) rfl rfl (gtb_in (w := .methodLink RX1 48 yX1_definitionOf) (by decide +kernel) rfl) (gtb_in (by decide +kernel) rfl) (gtb_in (by decide +kernel) rfl) (gtb_in (by decide +kernel) rfl) (gtb_in (w := .code yX1_definitionOf cX1_definitionOf 2 (some .int)) (by decide +kernel) rfl) (by decide +kernel) rfl ⟨rfl, rfl⟩ (rm_ok hd (Nat.le_of_ble_eq_true rfl)) hrm rfl d hM (fun v M1 h => by obtain ⟨r, rfl, g, h⟩ := h; exact kk r M1 g h)
theorem kX1_52 {l : Launch} {D : va_G} {ad : Nat → Nat} {cA : Nat → ClassId} {cc : ByteArray} {nL : Nat} {rt : Option FieldType} {dl : Nat} {Q : Option Value → Mem → Prop} {pc : Nat} {lv : List (Nat × Value)} {rest : List Value} {M : Mem} {p0 : Int} {Q1 : Int → Mem → Prop} (hd : 1 + 1 ≤ dl) (hrm : (rest.map fun v => v.category).sum ≤ 8) (d : decode cc pc = .ok (.invokevirtual 52, 3)) (hM : AM (xC l D ad cA) yX1_isOpaque mX1_isOpaque [.ref (ad 2), vi p0] M (qI Q1)) (kk : ∀ r M1, rg r → Q1 r M1 → AW (xC l D ad cA) (RX1, cc, nL, rt, rmL dl) Q (pc + 3) lv (vi r :: rest) M1) : AW (xC l D ad cA) (RX1, cc, nL, rt, rmL dl) Q pc lv (vi p0 :: .ref (ad 2) :: rest) M :=
  a_callV (X := (xC l D ad cA)) (mc' := mX1_isOpaque) (q := 2) (ci := 1) (N := 8) (n := 1) (As := [vi p0]) (rest := rest) (C := RX1) (T := TX1) (Nat.le_of_ble_eq_true rfl) rfl rfl (gtb_in (w := .methodLink RX1 52 yX1_isOpaque) (by decide +kernel) rfl) (gtb_in (by decide +kernel) rfl) (gtb_in (by decide +kernel) rfl) (gtb_in (by decide +kernel) rfl) (gtb_in (w := .code yX1_isOpaque cX1_isOpaque 2 (some .boolean)) (by decide +kernel) rfl) (by decide +kernel) rfl ⟨rfl, rfl⟩ (rm_ok hd (Nat.le_of_ble_eq_true rfl)) hrm rfl d hM (fun v M1 h => by obtain ⟨r, rfl, g, h⟩ := h; exact kk r M1 g h)
theorem gfX2_36 {l : Launch} {D : va_G} {ad : Nat → Nat} {cA : Nat → ClassId} {cc : ByteArray} {nL : Nat} {rt : Option FieldType} {R : Room} {Q : Option Value → Mem → Prop} {pc : Nat} {lv : List (Nat × Value)} {st : List Value} {M : Mem} (d : decode cc pc = .ok (.getfield 36, 3)) (k : rg (M 1 8) → AW (xC l D ad cA) (RX2, cc, nL, rt, R) Q (pc + 3) lv (vi (M 1 8) :: st) M) : AW (xC l D ad cA) (RX2, cc, nL, rt, R) Q pc lv (.ref (ad 1) :: st) M :=
  a_get (X := (xC l D ad cA)) (q := 1) (ci := 2) (k := 8) (N := 10) (C := RX2) (T := TX2) (Nat.le_of_ble_eq_true rfl) rfl rfl inGX2 (Nat.le_of_ble_eq_true rfl) (gtb_in (w := .fieldLink RX2 36 (TX2 8).1 (TX2 8).2.1 (TX2 8).2.2.1) (by decide +kernel) rfl) rfl d (AW.rng (fun hR => k (hR.i rfl _)))
theorem kX2_50 {l : Launch} {D : va_G} {ad : Nat → Nat} {cA : Nat → ClassId} {cc : ByteArray} {nL : Nat} {rt : Option FieldType} {dl : Nat} {Q : Option Value → Mem → Prop} {pc : Nat} {lv : List (Nat × Value)} {rest : List Value} {M : Mem} {p0 : Int} {Q1 : Int → Mem → Prop} (hd : 0 + 1 ≤ dl) (hrm : (rest.map fun v => v.category).sum ≤ 8) (d : decode cc pc = .ok (.invokevirtual 50, 3)) (hM : AM (xC l D ad cA) yX2_wasMade mX2_wasMade [.ref (ad 1), vi p0] M (qI Q1)) (kk : ∀ r M1, rg r → Q1 r M1 → AW (xC l D ad cA) (RX2, cc, nL, rt, rmL dl) Q (pc + 3) lv (vi r :: rest) M1) : AW (xC l D ad cA) (RX2, cc, nL, rt, rmL dl) Q pc lv (vi p0 :: .ref (ad 1) :: rest) M :=
  a_callV (X := (xC l D ad cA)) (mc' := mX2_wasMade) (q := 1) (ci := 2) (N := 10) (n := 1) (As := [vi p0]) (rest := rest) (C := RX2) (T := TX2) (Nat.le_of_ble_eq_true rfl) rfl rfl (gtb_in (w := .methodLink RX2 50 yX2_wasMade) (by decide +kernel) rfl) (gtb_in (by decide +kernel) rfl) (gtb_in (by decide +kernel) rfl) (gtb_in (by decide +kernel) rfl) (gtb_in (w := .code yX2_wasMade cX2_wasMade 2 (some .boolean)) (by decide +kernel) rfl) (by decide +kernel) rfl ⟨rfl, rfl⟩ (rm_ok hd (Nat.le_of_ble_eq_true rfl)) hrm rfl d hM (fun v M1 h => by obtain ⟨r, rfl, g, h⟩ := h; exact kk r M1 g h)
theorem gfX2_27 {l : Launch} {D : va_G} {ad : Nat → Nat} {cA : Nat → ClassId} {cc : ByteArray} {nL : Nat} {rt : Option FieldType} {R : Room} {Q : Option Value → Mem → Prop} {pc : Nat} {lv : List (Nat × Value)} {st : List Value} {M : Mem} (d : decode cc pc = .ok (.getfield 27, 3)) (k : AW (xC l D ad cA) (RX2, cc, nL, rt, R) Q (pc + 3) lv (.ref (ad 9) :: st) M) : AW (xC l D ad cA) (RX2, cc, nL, rt, R) Q pc lv (.ref (ad 1) :: st) M :=
  a_get (X := (xC l D ad cA)) (q := 1) (ci := 2) (k := 5) (N := 10) (C := RX2) (T := TX2) (Nat.le_of_ble_eq_true rfl) rfl rfl inGX2 (Nat.le_of_ble_eq_true rfl) (gtb_in (w := .fieldLink RX2 27 (TX2 5).1 (TX2 5).2.1 (TX2 5).2.2.1) (by decide +kernel) rfl) rfl d k
theorem gfX1_33 {l : Launch} {D : va_G} {ad : Nat → Nat} {cA : Nat → ClassId} {cc : ByteArray} {nL : Nat} {rt : Option FieldType} {R : Room} {Q : Option Value → Mem → Prop} {pc : Nat} {lv : List (Nat × Value)} {st : List Value} {M : Mem} (d : decode cc pc = .ok (.getfield 33, 3)) (k : AW (xC l D ad cA) (RX1, cc, nL, rt, R) Q (pc + 3) lv (.ref (ad 1) :: st) M) : AW (xC l D ad cA) (RX1, cc, nL, rt, R) Q pc lv (.ref (ad 2) :: st) M :=
  a_get (X := (xC l D ad cA)) (q := 2) (ci := 1) (k := 0) (N := 8) (C := RX1) (T := TX1) (Nat.le_of_ble_eq_true rfl) rfl rfl inGX1 (Nat.le_of_ble_eq_true rfl) (gtb_in (w := .fieldLink RX1 33 (TX1 0).1 (TX1 0).2.1 (TX1 0).2.2.1) (by decide +kernel) rfl) rfl d k
theorem kX1_59 {l : Launch} {D : va_G} {ad : Nat → Nat} {cA : Nat → ClassId} {cc : ByteArray} {nL : Nat} {rt : Option FieldType} {dl : Nat} {Q : Option Value → Mem → Prop} {pc : Nat} {lv : List (Nat × Value)} {rest : List Value} {M : Mem} {p0 : Int} {Q1 : Int → Mem → Prop} (hd : 1 + 1 ≤ dl) (hrm : (rest.map fun v => v.category).sum ≤ 8) (d : decode cc pc = .ok (.invokevirtual 59, 3)) (hM : AM (xC l D ad cA) yX2_namesIn mX2_namesIn [.ref (ad 1), vi p0] M (qI Q1)) (kk : ∀ r M1, rg r → Q1 r M1 → AW (xC l D ad cA) (RX1, cc, nL, rt, rmL dl) Q (pc + 3) lv (vi r :: rest) M1) : AW (xC l D ad cA) (RX1, cc, nL, rt, rmL dl) Q pc lv (vi p0 :: .ref (ad 1) :: rest) M :=
  a_callV (X := (xC l D ad cA)) (mc' := mX2_namesIn) (q := 1) (ci := 2) (N := 10) (n := 1) (As := [vi p0]) (rest := rest) (C := RX2) (T := TX2) (Nat.le_of_ble_eq_true rfl) rfl rfl (gtb_in (w := .methodLink RX1 59 yX2_namesIn) (by decide +kernel) rfl) (gtb_in (by decide +kernel) rfl) (gtb_in (by decide +kernel) rfl) (gtb_in (by decide +kernel) rfl) (gtb_in (w := .code yX2_namesIn cX2_namesIn 2 (some .int)) (by decide +kernel) rfl) (by decide +kernel) rfl ⟨rfl, rfl⟩ (rm_ok hd (Nat.le_of_ble_eq_true rfl)) hrm rfl d hM (fun v M1 h => by obtain ⟨r, rfl, g, h⟩ := h; exact kk r M1 g h)
theorem gfX1_22 {l : Launch} {D : va_G} {ad : Nat → Nat} {cA : Nat → ClassId} {cc : ByteArray} {nL : Nat} {rt : Option FieldType} {R : Room} {Q : Option Value → Mem → Prop} {pc : Nat} {lv : List (Nat × Value)} {st : List Value} {M : Mem} (d : decode cc pc = .ok (.getfield 22, 3)) (k : AW (xC l D ad cA) (RX1, cc, nL, rt, R) Q (pc + 3) lv (.ref (ad 15) :: st) M) : AW (xC l D ad cA) (RX1, cc, nL, rt, R) Q pc lv (.ref (ad 2) :: st) M :=
  a_get (X := (xC l D ad cA)) (q := 2) (ci := 1) (k := 4) (N := 8) (C := RX1) (T := TX1) (Nat.le_of_ble_eq_true rfl) rfl rfl inGX1 (Nat.le_of_ble_eq_true rfl) (gtb_in (w := .fieldLink RX1 22 (TX1 4).1 (TX1 4).2.1 (TX1 4).2.2.1) (by decide +kernel) rfl) rfl d k
theorem kX1_91 {l : Launch} {D : va_G} {ad : Nat → Nat} {cA : Nat → ClassId} {cc : ByteArray} {nL : Nat} {rt : Option FieldType} {dl : Nat} {Q : Option Value → Mem → Prop} {pc : Nat} {lv : List (Nat × Value)} {rest : List Value} {M : Mem} {p0 p1 : Int} {Q1 : Int → Mem → Prop} (hd : 0 + 1 ≤ dl) (hrm : (rest.map fun v => v.category).sum ≤ 8) (d : decode cc pc = .ok (.invokestatic 91, 3)) (hM : AM (xC l D ad cA) yJ9_max_7cf53 mJ9_max_7cf53 [vi p0, vi p1] M (qI Q1)) (kk : ∀ r M1, rg r → Q1 r M1 → AW (xC l D ad cA) (RX1, cc, nL, rt, rmL dl) Q (pc + 3) lv (vi r :: rest) M1) : AW (xC l D ad cA) (RX1, cc, nL, rt, rmL dl) Q pc lv (vi p1 :: vi p0 :: rest) M :=
  a_callS (X := (xC l D ad cA)) (mc' := mJ9_max_7cf53) (n := 2) (As := [vi p0, vi p1]) (rest := rest) (gtb_in (w := .methodLink RX1 91 yJ9_max_7cf53) (by decide +kernel) rfl) (gtb_in (by decide +kernel) rfl) (gtb_in (by decide +kernel) rfl) (gtb_in (w := .code yJ9_max_7cf53 cJ9_max_7cf53 2 (some .int)) (by decide +kernel) rfl) (by decide +kernel) rfl ⟨rfl, rfl⟩ (rm_ok hd (Nat.le_of_ble_eq_true rfl)) hrm rfl d hM (fun v M1 h => by obtain ⟨r, rfl, g, h⟩ := h; exact kk r M1 g h)
theorem gfX2_40 {l : Launch} {D : va_G} {ad : Nat → Nat} {cA : Nat → ClassId} {cc : ByteArray} {nL : Nat} {rt : Option FieldType} {R : Room} {Q : Option Value → Mem → Prop} {pc : Nat} {lv : List (Nat × Value)} {st : List Value} {M : Mem} (d : decode cc pc = .ok (.getfield 40, 3)) (k : rg (M 1 9) → AW (xC l D ad cA) (RX2, cc, nL, rt, R) Q (pc + 3) lv (vi (M 1 9) :: st) M) : AW (xC l D ad cA) (RX2, cc, nL, rt, R) Q pc lv (.ref (ad 1) :: st) M :=
  a_get (X := (xC l D ad cA)) (q := 1) (ci := 2) (k := 9) (N := 10) (C := RX2) (T := TX2) (Nat.le_of_ble_eq_true rfl) rfl rfl inGX2 (Nat.le_of_ble_eq_true rfl) (gtb_in (w := .fieldLink RX2 40 (TX2 9).1 (TX2 9).2.1 (TX2 9).2.2.1) (by decide +kernel) rfl) rfl d (AW.rng (fun hR => k (hR.i rfl _)))
theorem kX2_47 {l : Launch} {D : va_G} {ad : Nat → Nat} {cA : Nat → ClassId} {cc : ByteArray} {nL : Nat} {rt : Option FieldType} {dl : Nat} {Q : Option Value → Mem → Prop} {pc : Nat} {lv : List (Nat × Value)} {rest : List Value} {M : Mem} {p0 : Int} {Q1 : Int → Mem → Prop} (hd : 0 + 1 ≤ dl) (hrm : (rest.map fun v => v.category).sum ≤ 8) (d : decode cc pc = .ok (.invokevirtual 47, 3)) (hM : AM (xC l D ad cA) yX2_isHeld mX2_isHeld [.ref (ad 1), vi p0] M (qI Q1)) (kk : ∀ r M1, rg r → Q1 r M1 → AW (xC l D ad cA) (RX2, cc, nL, rt, rmL dl) Q (pc + 3) lv (vi r :: rest) M1) : AW (xC l D ad cA) (RX2, cc, nL, rt, rmL dl) Q pc lv (vi p0 :: .ref (ad 1) :: rest) M :=
  a_callV (X := (xC l D ad cA)) (mc' := mX2_isHeld) (q := 1) (ci := 2) (N := 10) (n := 1) (As := [vi p0]) (rest := rest) (C := RX2) (T := TX2) (Nat.le_of_ble_eq_true rfl) rfl rfl (gtb_in (w := .methodLink RX2 47 yX2_isHeld) (by decide +kernel) rfl) (gtb_in (by decide +kernel) rfl) (gtb_in (by decide +kernel) rfl) (gtb_in (by decide +kernel) rfl) (gtb_in (w := .code yX2_isHeld cX2_isHeld 2 (some .boolean)) (by decide +kernel) rfl) (by decide +kernel) rfl ⟨rfl, rfl⟩ (rm_ok hd (Nat.le_of_ble_eq_true rfl)) hrm rfl d hM (fun v M1 h => by obtain ⟨r, rfl, g, h⟩ := h; exact kk r M1 g h)
theorem gfX2_9 {l : Launch} {D : va_G} {ad : Nat → Nat} {cA : Nat → ClassId} {cc : ByteArray} {nL : Nat} {rt : Option FieldType} {R : Room} {Q : Option Value → Mem → Prop} {pc : Nat} {lv : List (Nat × Value)} {st : List Value} {M : Mem} (d : decode cc pc = .ok (.getfield 9, 3)) (k : AW (xC l D ad cA) (RX2, cc, nL, rt, R) Q (pc + 3) lv (.ref (ad 4) :: st) M) : AW (xC l D ad cA) (RX2, cc, nL, rt, R) Q pc lv (.ref (ad 1) :: st) M :=
  a_get (X := (xC l D ad cA)) (q := 1) (ci := 2) (k := 0) (N := 10) (C := RX2) (T := TX2) (Nat.le_of_ble_eq_true rfl) rfl rfl inGX2 (Nat.le_of_ble_eq_true rfl) (gtb_in (w := .fieldLink RX2 9 (TX2 0).1 (TX2 0).2.1 (TX2 0).2.2.1) (by decide +kernel) rfl) rfl d k
theorem gfX2_18 {l : Launch} {D : va_G} {ad : Nat → Nat} {cA : Nat → ClassId} {cc : ByteArray} {nL : Nat} {rt : Option FieldType} {R : Room} {Q : Option Value → Mem → Prop} {pc : Nat} {lv : List (Nat × Value)} {st : List Value} {M : Mem} (d : decode cc pc = .ok (.getfield 18, 3)) (k : AW (xC l D ad cA) (RX2, cc, nL, rt, R) Q (pc + 3) lv (.ref (ad 6) :: st) M) : AW (xC l D ad cA) (RX2, cc, nL, rt, R) Q pc lv (.ref (ad 1) :: st) M :=
  a_get (X := (xC l D ad cA)) (q := 1) (ci := 2) (k := 2) (N := 10) (C := RX2) (T := TX2) (Nat.le_of_ble_eq_true rfl) rfl rfl inGX2 (Nat.le_of_ble_eq_true rfl) (gtb_in (w := .fieldLink RX2 18 (TX2 2).1 (TX2 2).2.1 (TX2 2).2.2.1) (by decide +kernel) rfl) rfl d k
theorem gfX2_15 {l : Launch} {D : va_G} {ad : Nat → Nat} {cA : Nat → ClassId} {cc : ByteArray} {nL : Nat} {rt : Option FieldType} {R : Room} {Q : Option Value → Mem → Prop} {pc : Nat} {lv : List (Nat × Value)} {st : List Value} {M : Mem} (d : decode cc pc = .ok (.getfield 15, 3)) (k : AW (xC l D ad cA) (RX2, cc, nL, rt, R) Q (pc + 3) lv (.ref (ad 5) :: st) M) : AW (xC l D ad cA) (RX2, cc, nL, rt, R) Q pc lv (.ref (ad 1) :: st) M :=
  a_get (X := (xC l D ad cA)) (q := 1) (ci := 2) (k := 1) (N := 10) (C := RX2) (T := TX2) (Nat.le_of_ble_eq_true rfl) rfl rfl inGX2 (Nat.le_of_ble_eq_true rfl) (gtb_in (w := .fieldLink RX2 15 (TX2 1).1 (TX2 1).2.1 (TX2 1).2.2.1) (by decide +kernel) rfl) rfl d k
theorem kX1_96 {l : Launch} {D : va_G} {ad : Nat → Nat} {cA : Nat → ClassId} {cc : ByteArray} {nL : Nat} {rt : Option FieldType} {dl : Nat} {Q : Option Value → Mem → Prop} {pc : Nat} {lv : List (Nat × Value)} {rest : List Value} {M : Mem} {p0 : Int} {Q1 : Int → Mem → Prop} (hd : 1 + 1 ≤ dl) (hrm : (rest.map fun v => v.category).sum ≤ 8) (d : decode cc pc = .ok (.invokevirtual 96, 3)) (hM : AM (xC l D ad cA) yX2_frontOf mX2_frontOf [.ref (ad 1), vi p0] M (qI Q1)) (kk : ∀ r M1, rg r → Q1 r M1 → AW (xC l D ad cA) (RX1, cc, nL, rt, rmL dl) Q (pc + 3) lv (vi r :: rest) M1) : AW (xC l D ad cA) (RX1, cc, nL, rt, rmL dl) Q pc lv (vi p0 :: .ref (ad 1) :: rest) M :=
  a_callV (X := (xC l D ad cA)) (mc' := mX2_frontOf) (q := 1) (ci := 2) (N := 10) (n := 1) (As := [vi p0]) (rest := rest) (C := RX2) (T := TX2) (Nat.le_of_ble_eq_true rfl) rfl rfl (gtb_in (w := .methodLink RX1 96 yX2_frontOf) (by decide +kernel) rfl) (gtb_in (by decide +kernel) rfl) (gtb_in (by decide +kernel) rfl) (gtb_in (by decide +kernel) rfl) (gtb_in (w := .code yX2_frontOf cX2_frontOf 2 (some .int)) (by decide +kernel) rfl) (by decide +kernel) rfl ⟨rfl, rfl⟩ (rm_ok hd (Nat.le_of_ble_eq_true rfl)) hrm rfl d hM (fun v M1 h => by obtain ⟨r, rfl, g, h⟩ := h; exact kk r M1 g h)
theorem gfX1_25 {l : Launch} {D : va_G} {ad : Nat → Nat} {cA : Nat → ClassId} {cc : ByteArray} {nL : Nat} {rt : Option FieldType} {R : Room} {Q : Option Value → Mem → Prop} {pc : Nat} {lv : List (Nat × Value)} {st : List Value} {M : Mem} (d : decode cc pc = .ok (.getfield 25, 3)) (k : AW (xC l D ad cA) (RX1, cc, nL, rt, R) Q (pc + 3) lv (.ref (ad 16) :: st) M) : AW (xC l D ad cA) (RX1, cc, nL, rt, R) Q pc lv (.ref (ad 2) :: st) M :=
  a_get (X := (xC l D ad cA)) (q := 2) (ci := 1) (k := 5) (N := 8) (C := RX1) (T := TX1) (Nat.le_of_ble_eq_true rfl) rfl rfl inGX1 (Nat.le_of_ble_eq_true rfl) (gtb_in (w := .fieldLink RX1 25 (TX1 5).1 (TX1 5).2.1 (TX1 5).2.2.1) (by decide +kernel) rfl) rfl d k
theorem kX1_99 {l : Launch} {D : va_G} {ad : Nat → Nat} {cA : Nat → ClassId} {cc : ByteArray} {nL : Nat} {rt : Option FieldType} {dl : Nat} {Q : Option Value → Mem → Prop} {pc : Nat} {lv : List (Nat × Value)} {rest : List Value} {M : Mem} {p0 p1 : Int} {Q1 : Int → Mem → Prop} (hd : 1 + 1 ≤ dl) (hrm : (rest.map fun v => v.category).sum ≤ 8) (d : decode cc pc = .ok (.invokevirtual 99, 3)) (hM : AM (xC l D ad cA) yX2_partOf mX2_partOf [.ref (ad 1), vi p0, vi p1] M (qI Q1)) (kk : ∀ r M1, rg r → Q1 r M1 → AW (xC l D ad cA) (RX1, cc, nL, rt, rmL dl) Q (pc + 3) lv (vi r :: rest) M1) : AW (xC l D ad cA) (RX1, cc, nL, rt, rmL dl) Q pc lv (vi p1 :: vi p0 :: .ref (ad 1) :: rest) M :=
  a_callV (X := (xC l D ad cA)) (mc' := mX2_partOf) (q := 1) (ci := 2) (N := 10) (n := 2) (As := [vi p0, vi p1]) (rest := rest) (C := RX2) (T := TX2) (Nat.le_of_ble_eq_true rfl) rfl rfl (gtb_in (w := .methodLink RX1 99 yX2_partOf) (by decide +kernel) rfl) (gtb_in (by decide +kernel) rfl) (gtb_in (by decide +kernel) rfl) (gtb_in (by decide +kernel) rfl) (gtb_in (w := .code yX2_partOf cX2_partOf 3 (some .int)) (by decide +kernel) rfl) (by decide +kernel) rfl ⟨rfl, rfl⟩ (rm_ok hd (Nat.le_of_ble_eq_true rfl)) hrm rfl d hM (fun v M1 h => by obtain ⟨r, rfl, g, h⟩ := h; exact kk r M1 g h)
theorem kX1_110 {l : Launch} {D : va_G} {ad : Nat → Nat} {cA : Nat → ClassId} {cc : ByteArray} {nL : Nat} {rt : Option FieldType} {dl : Nat} {Q : Option Value → Mem → Prop} {pc : Nat} {lv : List (Nat × Value)} {rest : List Value} {M : Mem} {p0 p1 : Int} {Q1 : Int → Mem → Prop} (hd : 0 + 1 ≤ dl) (hrm : (rest.map fun v => v.category).sum ≤ 8) (d : decode cc pc = .ok (.invokestatic 110, 3)) (hM : AM (xC l D ad cA) yJ9_min_f86c9 mJ9_min_f86c9 [vl p0, vl p1] M (qL Q1)) (kk : ∀ r M1, rl r → Q1 r M1 → AW (xC l D ad cA) (RX1, cc, nL, rt, rmL dl) Q (pc + 3) lv (vl r :: rest) M1) : AW (xC l D ad cA) (RX1, cc, nL, rt, rmL dl) Q pc lv (vl p1 :: vl p0 :: rest) M :=
  a_callS (X := (xC l D ad cA)) (mc' := mJ9_min_f86c9) (n := 2) (As := [vl p0, vl p1]) (rest := rest) (gtb_in (w := .methodLink RX1 110 yJ9_min_f86c9) (by decide +kernel) rfl) (gtb_in (by decide +kernel) rfl) (gtb_in (by decide +kernel) rfl) (gtb_in (w := .code yJ9_min_f86c9 cJ9_min_f86c9 4 (some .long)) (by decide +kernel) rfl) (by decide +kernel) rfl ⟨rfl, rfl⟩ (rm_ok hd (Nat.le_of_ble_eq_true rfl)) hrm rfl d hM (fun v M1 h => by obtain ⟨r, rfl, g, h⟩ := h; exact kk r M1 g h)
theorem gfX1_30 {l : Launch} {D : va_G} {ad : Nat → Nat} {cA : Nat → ClassId} {cc : ByteArray} {nL : Nat} {rt : Option FieldType} {R : Room} {Q : Option Value → Mem → Prop} {pc : Nat} {lv : List (Nat × Value)} {st : List Value} {M : Mem} (d : decode cc pc = .ok (.getfield 30, 3)) (k : AW (xC l D ad cA) (RX1, cc, nL, rt, R) Q (pc + 3) lv (.ref (ad 17) :: st) M) : AW (xC l D ad cA) (RX1, cc, nL, rt, R) Q pc lv (.ref (ad 2) :: st) M :=
  a_get (X := (xC l D ad cA)) (q := 2) (ci := 1) (k := 6) (N := 8) (C := RX1) (T := TX1) (Nat.le_of_ble_eq_true rfl) rfl rfl inGX1 (Nat.le_of_ble_eq_true rfl) (gtb_in (w := .fieldLink RX1 30 (TX1 6).1 (TX1 6).2.1 (TX1 6).2.2.1) (by decide +kernel) rfl) rfl d k
theorem gfX1_9 {l : Launch} {D : va_G} {ad : Nat → Nat} {cA : Nat → ClassId} {cc : ByteArray} {nL : Nat} {rt : Option FieldType} {R : Room} {Q : Option Value → Mem → Prop} {pc : Nat} {lv : List (Nat × Value)} {st : List Value} {M : Mem} (d : decode cc pc = .ok (.getfield 9, 3)) (k : AW (xC l D ad cA) (RX1, cc, nL, rt, R) Q (pc + 3) lv (.ref (ad 12) :: st) M) : AW (xC l D ad cA) (RX1, cc, nL, rt, R) Q pc lv (.ref (ad 2) :: st) M :=
  a_get (X := (xC l D ad cA)) (q := 2) (ci := 1) (k := 1) (N := 8) (C := RX1) (T := TX1) (Nat.le_of_ble_eq_true rfl) rfl rfl inGX1 (Nat.le_of_ble_eq_true rfl) (gtb_in (w := .fieldLink RX1 9 (TX1 1).1 (TX1 1).2.1 (TX1 1).2.2.1) (by decide +kernel) rfl) rfl d k
theorem kX1_83 {l : Launch} {D : va_G} {ad : Nat → Nat} {cA : Nat → ClassId} {cc : ByteArray} {nL : Nat} {rt : Option FieldType} {dl fu : Nat} {Q : Option Value → Mem → Prop} {pc : Nat} {lv : List (Nat × Value)} {rest : List Value} {M : Mem} {p0 p1 p2 : Int} {Q1 : Int → Mem → Prop} (hd : (2 + fu) + 1 ≤ dl) (hrm : (rest.map fun v => v.category).sum ≤ 8) (d : decode cc pc = .ok (.invokevirtual 83, 3)) (hM : AM (xC l D ad cA) yX1_countInWhole (mX1_countInWhole fu) [.ref (ad 2), vi p0, vi p1, vi p2] M (qL Q1)) (kk : ∀ r M1, rl r → Q1 r M1 → AW (xC l D ad cA) (RX1, cc, nL, rt, rmL dl) Q (pc + 3) lv (vl r :: rest) M1) : AW (xC l D ad cA) (RX1, cc, nL, rt, rmL dl) Q pc lv (vi p2 :: vi p1 :: vi p0 :: .ref (ad 2) :: rest) M :=
  a_callV (X := (xC l D ad cA)) (mc' := (mX1_countInWhole fu)) (q := 2) (ci := 1) (N := 8) (n := 3) (As := [vi p0, vi p1, vi p2]) (rest := rest) (C := RX1) (T := TX1) (Nat.le_of_ble_eq_true rfl) rfl rfl (gtb_in (w := .methodLink RX1 83 yX1_countInWhole) (by decide +kernel) rfl) (gtb_in (by decide +kernel) rfl) (gtb_in (by decide +kernel) rfl) (gtb_in (by decide +kernel) rfl) (gtb_in (w := .code yX1_countInWhole cX1_countInWhole 10 (some .long)) (by decide +kernel) rfl) (by decide +kernel) rfl ⟨rfl, rfl⟩ (rm_ok hd (Nat.le_of_ble_eq_true rfl)) hrm rfl d hM (fun v M1 h => by obtain ⟨r, rfl, g, h⟩ := h; exact kk r M1 g h)
theorem kX1_102 {l : Launch} {D : va_G} {ad : Nat → Nat} {cA : Nat → ClassId} {cc : ByteArray} {nL : Nat} {rt : Option FieldType} {dl : Nat} {Q : Option Value → Mem → Prop} {pc : Nat} {lv : List (Nat × Value)} {rest : List Value} {M : Mem} {p0 p1 : Int} {Q1 : Int → Mem → Prop} (hd : 0 + 1 ≤ dl) (hrm : (rest.map fun v => v.category).sum ≤ 8) (d : decode cc pc = .ok (.invokestatic 102, 3)) (hM : AM (xC l D ad cA) yX1_product mX1_product [vl p0, vl p1] M (qL Q1)) (kk : ∀ r M1, rl r → Q1 r M1 → AW (xC l D ad cA) (RX1, cc, nL, rt, rmL dl) Q (pc + 3) lv (vl r :: rest) M1) : AW (xC l D ad cA) (RX1, cc, nL, rt, rmL dl) Q pc lv (vl p1 :: vl p0 :: rest) M :=
  a_callS (X := (xC l D ad cA)) (mc' := mX1_product) (n := 2) (As := [vl p0, vl p1]) (rest := rest) (gtb_in (w := .methodLink RX1 102 yX1_product) (by decide +kernel) rfl) (gtb_in (by decide +kernel) rfl) (gtb_in (by decide +kernel) rfl) (gtb_in (w := .code yX1_product cX1_product 4 (some .long)) (by decide +kernel) rfl) (by decide +kernel) rfl ⟨rfl, rfl⟩ (rm_ok hd (Nat.le_of_ble_eq_true rfl)) hrm rfl d hM (fun v M1 h => by obtain ⟨r, rfl, g, h⟩ := h; exact kk r M1 g h)
theorem kX1_87 {l : Launch} {D : va_G} {ad : Nat → Nat} {cA : Nat → ClassId} {cc : ByteArray} {nL : Nat} {rt : Option FieldType} {dl : Nat} {Q : Option Value → Mem → Prop} {pc : Nat} {lv : List (Nat × Value)} {rest : List Value} {M : Mem} {p0 p1 : Int} {Q1 : Int → Mem → Prop} (hd : 1 + 1 ≤ dl) (hrm : (rest.map fun v => v.category).sum ≤ 8) (d : decode cc pc = .ok (.invokestatic 87, 3)) (hM : AM (xC l D ad cA) yX1_sum mX1_sum [vl p0, vl p1] M (qL Q1)) (kk : ∀ r M1, rl r → Q1 r M1 → AW (xC l D ad cA) (RX1, cc, nL, rt, rmL dl) Q (pc + 3) lv (vl r :: rest) M1) : AW (xC l D ad cA) (RX1, cc, nL, rt, rmL dl) Q pc lv (vl p1 :: vl p0 :: rest) M :=
  a_callS (X := (xC l D ad cA)) (mc' := mX1_sum) (n := 2) (As := [vl p0, vl p1]) (rest := rest) (gtb_in (w := .methodLink RX1 87 yX1_sum) (by decide +kernel) rfl) (gtb_in (by decide +kernel) rfl) (gtb_in (by decide +kernel) rfl) (gtb_in (w := .code yX1_sum cX1_sum 4 (some .long)) (by decide +kernel) rfl) (by decide +kernel) rfl ⟨rfl, rfl⟩ (rm_ok hd (Nat.le_of_ble_eq_true rfl)) hrm rfl d hM (fun v M1 h => by obtain ⟨r, rfl, g, h⟩ := h; exact kk r M1 g h)
theorem kX1_77 {l : Launch} {D : va_G} {ad : Nat → Nat} {cA : Nat → ClassId} {cc : ByteArray} {nL : Nat} {rt : Option FieldType} {dl : Nat} {Q : Option Value → Mem → Prop} {pc : Nat} {lv : List (Nat × Value)} {rest : List Value} {M : Mem} {p0 : Int} {Q1 : Int → Mem → Prop} (hd : 2 + 1 ≤ dl) (hrm : (rest.map fun v => v.category).sum ≤ 8) (d : decode cc pc = .ok (.invokevirtual 77, 3)) (hM : AM (xC l D ad cA) yX1_greatestHeightIn mX1_greatestHeightIn [.ref (ad 2), vi p0] M (qI Q1)) (kk : ∀ r M1, rg r → Q1 r M1 → AW (xC l D ad cA) (RX1, cc, nL, rt, rmL dl) Q (pc + 3) lv (vi r :: rest) M1) : AW (xC l D ad cA) (RX1, cc, nL, rt, rmL dl) Q pc lv (vi p0 :: .ref (ad 2) :: rest) M :=
  a_callV (X := (xC l D ad cA)) (mc' := mX1_greatestHeightIn) (q := 2) (ci := 1) (N := 8) (n := 1) (As := [vi p0]) (rest := rest) (C := RX1) (T := TX1) (Nat.le_of_ble_eq_true rfl) rfl rfl (gtb_in (w := .methodLink RX1 77 yX1_greatestHeightIn) (by decide +kernel) rfl) (gtb_in (by decide +kernel) rfl) (gtb_in (by decide +kernel) rfl) (gtb_in (by decide +kernel) rfl) (gtb_in (w := .code yX1_greatestHeightIn cX1_greatestHeightIn 5 (some .int)) (by decide +kernel) rfl) (by decide +kernel) rfl ⟨rfl, rfl⟩ (rm_ok hd (Nat.le_of_ble_eq_true rfl)) hrm rfl d hM (fun v M1 h => by obtain ⟨r, rfl, g, h⟩ := h; exact kk r M1 g h)
theorem kX1_80 {l : Launch} {D : va_G} {ad : Nat → Nat} {cA : Nat → ClassId} {cc : ByteArray} {nL : Nat} {rt : Option FieldType} {dl : Nat} {Q : Option Value → Mem → Prop} {pc : Nat} {lv : List (Nat × Value)} {rest : List Value} {M : Mem} {p0 : Int} {Q1 : Int → Mem → Prop} (hd : 2 + 1 ≤ dl) (hrm : (rest.map fun v => v.category).sum ≤ 8) (d : decode cc pc = .ok (.invokevirtual 80, 3)) (hM : AM (xC l D ad cA) yX1_frontOfWhole mX1_frontOfWhole [.ref (ad 2), vi p0] M (qI Q1)) (kk : ∀ r M1, rg r → Q1 r M1 → AW (xC l D ad cA) (RX1, cc, nL, rt, rmL dl) Q (pc + 3) lv (vi r :: rest) M1) : AW (xC l D ad cA) (RX1, cc, nL, rt, rmL dl) Q pc lv (vi p0 :: .ref (ad 2) :: rest) M :=
  a_callV (X := (xC l D ad cA)) (mc' := mX1_frontOfWhole) (q := 2) (ci := 1) (N := 8) (n := 1) (As := [vi p0]) (rest := rest) (C := RX1) (T := TX1) (Nat.le_of_ble_eq_true rfl) rfl rfl (gtb_in (w := .methodLink RX1 80 yX1_frontOfWhole) (by decide +kernel) rfl) (gtb_in (by decide +kernel) rfl) (gtb_in (by decide +kernel) rfl) (gtb_in (by decide +kernel) rfl) (gtb_in (w := .code yX1_frontOfWhole cX1_frontOfWhole 6 (some .int)) (by decide +kernel) rfl) (by decide +kernel) rfl ⟨rfl, rfl⟩ (rm_ok hd (Nat.le_of_ble_eq_true rfl)) hrm rfl d hM (fun v M1 h => by obtain ⟨r, rfl, g, h⟩ := h; exact kk r M1 g h)
theorem kX1_41 {l : Launch} {D : va_G} {ad : Nat → Nat} {cA : Nat → ClassId} {cc : ByteArray} {nL : Nat} {rt : Option FieldType} {dl : Nat} {Q : Option Value → Mem → Prop} {pc : Nat} {lv : List (Nat × Value)} {rest : List Value} {M : Mem} {p0 : Int} {Q1 : Int → Mem → Prop} (hd : 2 + 1 ≤ dl) (hrm : (rest.map fun v => v.category).sum ≤ 8) (d : decode cc pc = .ok (.invokevirtual 41, 3)) (hM : AM (xC l D ad cA) yX1_isFolded mX1_isFolded [.ref (ad 2), vi p0] M (qI Q1)) (kk : ∀ r M1, rg r → Q1 r M1 → AW (xC l D ad cA) (RX1, cc, nL, rt, rmL dl) Q (pc + 3) lv (vi r :: rest) M1) : AW (xC l D ad cA) (RX1, cc, nL, rt, rmL dl) Q pc lv (vi p0 :: .ref (ad 2) :: rest) M :=
  a_callV (X := (xC l D ad cA)) (mc' := mX1_isFolded) (q := 2) (ci := 1) (N := 8) (n := 1) (As := [vi p0]) (rest := rest) (C := RX1) (T := TX1) (Nat.le_of_ble_eq_true rfl) rfl rfl (gtb_in (w := .methodLink RX1 41 yX1_isFolded) (by decide +kernel) rfl) (gtb_in (by decide +kernel) rfl) (gtb_in (by decide +kernel) rfl) (gtb_in (by decide +kernel) rfl) (gtb_in (w := .code yX1_isFolded cX1_isFolded 2 (some .boolean)) (by decide +kernel) rfl) (by decide +kernel) rfl ⟨rfl, rfl⟩ (rm_ok hd (Nat.le_of_ble_eq_true rfl)) hrm rfl d hM (fun v M1 h => by obtain ⟨r, rfl, g, h⟩ := h; exact kk r M1 g h)
theorem kX1_74 {l : Launch} {D : va_G} {ad : Nat → Nat} {cA : Nat → ClassId} {cc : ByteArray} {nL : Nat} {rt : Option FieldType} {dl : Nat} {Q : Option Value → Mem → Prop} {pc : Nat} {lv : List (Nat × Value)} {rest : List Value} {M : Mem} {p0 : Int} {Q1 : Mem → Prop} (hd : 1 + 1 ≤ dl) (hrm : (rest.map fun v => v.category).sum ≤ 8) (d : decode cc pc = .ok (.invokevirtual 74, 3)) (hM : AM (xC l D ad cA) yX1_settlePlain mX1_settlePlain [.ref (ad 2), vi p0] M (qV Q1)) (kk : ∀ M1, Q1 M1 → AW (xC l D ad cA) (RX1, cc, nL, rt, rmL dl) Q (pc + 3) lv rest M1) : AW (xC l D ad cA) (RX1, cc, nL, rt, rmL dl) Q pc lv (vi p0 :: .ref (ad 2) :: rest) M :=
  a_callV (X := (xC l D ad cA)) (mc' := mX1_settlePlain) (q := 2) (ci := 1) (N := 8) (n := 1) (As := [vi p0]) (rest := rest) (C := RX1) (T := TX1) (Nat.le_of_ble_eq_true rfl) rfl rfl (gtb_in (w := .methodLink RX1 74 yX1_settlePlain) (by decide +kernel) rfl) (gtb_in (by decide +kernel) rfl) (gtb_in (by decide +kernel) rfl) (gtb_in (by decide +kernel) rfl) (gtb_in (w := .code yX1_settlePlain cX1_settlePlain 3 none) (by decide +kernel) rfl) (by decide +kernel) rfl ⟨rfl, rfl⟩ (rm_ok hd (Nat.le_of_ble_eq_true rfl)) hrm rfl d hM (fun v M1 h => by obtain ⟨rfl, h⟩ := h; exact kk M1 h)
theorem kX1_71 {l : Launch} {D : va_G} {ad : Nat → Nat} {cA : Nat → ClassId} {cc : ByteArray} {nL : Nat} {rt : Option FieldType} {dl : Nat} {Q : Option Value → Mem → Prop} {pc : Nat} {lv : List (Nat × Value)} {rest : List Value} {M : Mem} {p0 : Int} {Q1 : Mem → Prop} (hd : 9 + 1 ≤ dl) (hrm : (rest.map fun v => v.category).sum ≤ 8) (d : decode cc pc = .ok (.invokevirtual 71, 3)) (hM : AM (xC l D ad cA) yX1_settleFolded mX1_settleFolded [.ref (ad 2), vi p0] M (qV Q1)) (kk : ∀ M1, Q1 M1 → AW (xC l D ad cA) (RX1, cc, nL, rt, rmL dl) Q (pc + 3) lv rest M1) : AW (xC l D ad cA) (RX1, cc, nL, rt, rmL dl) Q pc lv (vi p0 :: .ref (ad 2) :: rest) M :=
  a_callV (X := (xC l D ad cA)) (mc' := mX1_settleFolded) (q := 2) (ci := 1) (N := 8) (n := 1) (As := [vi p0]) (rest := rest) (C := RX1) (T := TX1) (Nat.le_of_ble_eq_true rfl) rfl rfl (gtb_in (w := .methodLink RX1 71 yX1_settleFolded) (by decide +kernel) rfl) (gtb_in (by decide +kernel) rfl) (gtb_in (by decide +kernel) rfl) (gtb_in (by decide +kernel) rfl) (gtb_in (w := .code yX1_settleFolded cX1_settleFolded 4 none) (by decide +kernel) rfl) (by decide +kernel) rfl ⟨rfl, rfl⟩ (rm_ok hd (Nat.le_of_ble_eq_true rfl)) hrm rfl d hM (fun v M1 h => by obtain ⟨rfl, h⟩ := h; exact kk M1 h)
theorem pfX1_37 {l : Launch} {D : va_G} {ad : Nat → Nat} {cA : Nat → ClassId} {cc : ByteArray} {nL : Nat} {rt : Option FieldType} {R : Room} {Q : Option Value → Mem → Prop} {pc : Nat} {lv : List (Nat × Value)} {st : List Value} {M : Mem} {v : Int} (d : decode cc pc = .ok (.putfield 37, 3)) (g : rg v) (k : AW (xC l D ad cA) (RX1, cc, nL, rt, R) Q (pc + 3) lv st (up M 2 7 v)) : AW (xC l D ad cA) (RX1, cc, nL, rt, R) Q pc lv (vi v :: .ref (ad 2) :: st) M :=
  a_put (X := (xC l D ad cA)) (q := 2) (ci := 1) (k := 7) (N := 8) (C := RX1) (T := TX1) (ty := .int) (ty0 := tyX1) (Nat.le_of_ble_eq_true rfl) rfl rfl rfl inGX1 tyX1_ok nmX1 (Nat.le_of_ble_eq_true rfl) (gtb_in (w := .fieldLink RX1 37 (TX1 7).1 (TX1 7).2.1 (TX1 7).2.2.1) (by decide +kernel) rfl) rfl (by decide +kernel) rfl rfl (Nat.le_of_ble_eq_true rfl) rfl d g k
theorem kX1_55 {l : Launch} {D : va_G} {ad : Nat → Nat} {cA : Nat → ClassId} {cc : ByteArray} {nL : Nat} {rt : Option FieldType} {dl : Nat} {Q : Option Value → Mem → Prop} {pc : Nat} {lv : List (Nat × Value)} {rest : List Value} {M : Mem} {p0 : Int} {Q1 : Mem → Prop} (hd : 10 + 1 ≤ dl) (hrm : (rest.map fun v => v.category).sum ≤ 8) (d : decode cc pc = .ok (.invokevirtual 55, 3)) (hM : AM (xC l D ad cA) yX1_settleFrom mX1_settleFrom [.ref (ad 2), vi p0] M (qV Q1)) (kk : ∀ M1, Q1 M1 → AW (xC l D ad cA) (RX1, cc, nL, rt, rmL dl) Q (pc + 3) lv rest M1) : AW (xC l D ad cA) (RX1, cc, nL, rt, rmL dl) Q pc lv (vi p0 :: .ref (ad 2) :: rest) M :=
  a_callV (X := (xC l D ad cA)) (mc' := mX1_settleFrom) (q := 2) (ci := 1) (N := 8) (n := 1) (As := [vi p0]) (rest := rest) (C := RX1) (T := TX1) (Nat.le_of_ble_eq_true rfl) rfl rfl (gtb_in (w := .methodLink RX1 55 yX1_settleFrom) (by decide +kernel) rfl) (gtb_in (by decide +kernel) rfl) (gtb_in (by decide +kernel) rfl) (gtb_in (by decide +kernel) rfl) (gtb_in (w := .code yX1_settleFrom cX1_settleFrom 3 none) (by decide +kernel) rfl) (by decide +kernel) rfl ⟨rfl, rfl⟩ (rm_ok hd (Nat.le_of_ble_eq_true rfl)) hrm rfl d hM (fun v M1 h => by obtain ⟨rfl, h⟩ := h; exact kk M1 h)
theorem gfX3_23 {l : Launch} {D : va_G} {ad : Nat → Nat} {cA : Nat → ClassId} {cc : ByteArray} {nL : Nat} {rt : Option FieldType} {R : Room} {Q : Option Value → Mem → Prop} {pc : Nat} {lv : List (Nat × Value)} {st : List Value} {M : Mem} (d : decode cc pc = .ok (.getfield 23, 3)) (k : AW (xC l D ad cA) (RX3, cc, nL, rt, R) Q (pc + 3) lv (.ref (ad 2) :: st) M) : AW (xC l D ad cA) (RX3, cc, nL, rt, R) Q pc lv (.ref (ad 0) :: st) M :=
  a_get (X := (xC l D ad cA)) (q := 0) (ci := 3) (k := 1) (N := 3) (C := RX3) (T := TX3) (Nat.le_of_ble_eq_true rfl) rfl rfl inGX3 (Nat.le_of_ble_eq_true rfl) (gtb_in (w := .fieldLink RX3 23 (TX3 1).1 (TX3 1).2.1 (TX3 1).2.2.1) (by decide +kernel) rfl) rfl d k
theorem kX3_36 {l : Launch} {D : va_G} {ad : Nat → Nat} {cA : Nat → ClassId} {cc : ByteArray} {nL : Nat} {rt : Option FieldType} {dl : Nat} {Q : Option Value → Mem → Prop} {pc : Nat} {lv : List (Nat × Value)} {rest : List Value} {M : Mem} {p0 : Int} {Q1 : Int → Mem → Prop} (hd : 11 + 1 ≤ dl) (hrm : (rest.map fun v => v.category).sum ≤ 8) (d : decode cc pc = .ok (.invokevirtual 36, 3)) (hM : AM (xC l D ad cA) yX1_come mX1_come [.ref (ad 2), vi p0] M (qI Q1)) (kk : ∀ r M1, rg r → Q1 r M1 → AW (xC l D ad cA) (RX3, cc, nL, rt, rmL dl) Q (pc + 3) lv (vi r :: rest) M1) : AW (xC l D ad cA) (RX3, cc, nL, rt, rmL dl) Q pc lv (vi p0 :: .ref (ad 2) :: rest) M :=
  a_callV (X := (xC l D ad cA)) (mc' := mX1_come) (q := 2) (ci := 1) (N := 8) (n := 1) (As := [vi p0]) (rest := rest) (C := RX1) (T := TX1) (Nat.le_of_ble_eq_true rfl) rfl rfl (gtb_in (w := .methodLink RX3 36 yX1_come) (by decide +kernel) rfl) (gtb_in (by decide +kernel) rfl) (gtb_in (by decide +kernel) rfl) (gtb_in (by decide +kernel) rfl) (gtb_in (w := .code yX1_come cX1_come 3 (some .int)) (by decide +kernel) rfl) (by decide +kernel) rfl ⟨rfl, rfl⟩ (rm_ok hd (Nat.le_of_ble_eq_true rfl)) hrm rfl d hM (fun v M1 h => by obtain ⟨r, rfl, g, h⟩ := h; exact kk r M1 g h)
theorem pfX2_40 {l : Launch} {D : va_G} {ad : Nat → Nat} {cA : Nat → ClassId} {cc : ByteArray} {nL : Nat} {rt : Option FieldType} {R : Room} {Q : Option Value → Mem → Prop} {pc : Nat} {lv : List (Nat × Value)} {st : List Value} {M : Mem} {v : Int} (d : decode cc pc = .ok (.putfield 40, 3)) (g : rg v) (k : AW (xC l D ad cA) (RX2, cc, nL, rt, R) Q (pc + 3) lv st (up M 1 9 v)) : AW (xC l D ad cA) (RX2, cc, nL, rt, R) Q pc lv (vi v :: .ref (ad 1) :: st) M :=
  a_put (X := (xC l D ad cA)) (q := 1) (ci := 2) (k := 9) (N := 10) (C := RX2) (T := TX2) (ty := .int) (ty0 := tyX2) (Nat.le_of_ble_eq_true rfl) rfl rfl rfl inGX2 tyX2_ok nmX2 (Nat.le_of_ble_eq_true rfl) (gtb_in (w := .fieldLink RX2 40 (TX2 9).1 (TX2 9).2.1 (TX2 9).2.2.1) (by decide +kernel) rfl) rfl (by decide +kernel) rfl rfl (Nat.le_of_ble_eq_true rfl) rfl d g k
theorem gfX2_21 {l : Launch} {D : va_G} {ad : Nat → Nat} {cA : Nat → ClassId} {cc : ByteArray} {nL : Nat} {rt : Option FieldType} {R : Room} {Q : Option Value → Mem → Prop} {pc : Nat} {lv : List (Nat × Value)} {st : List Value} {M : Mem} (d : decode cc pc = .ok (.getfield 21, 3)) (k : AW (xC l D ad cA) (RX2, cc, nL, rt, R) Q (pc + 3) lv (.ref (ad 7) :: st) M) : AW (xC l D ad cA) (RX2, cc, nL, rt, R) Q pc lv (.ref (ad 1) :: st) M :=
  a_get (X := (xC l D ad cA)) (q := 1) (ci := 2) (k := 3) (N := 10) (C := RX2) (T := TX2) (Nat.le_of_ble_eq_true rfl) rfl rfl inGX2 (Nat.le_of_ble_eq_true rfl) (gtb_in (w := .fieldLink RX2 21 (TX2 3).1 (TX2 3).2.1 (TX2 3).2.2.1) (by decide +kernel) rfl) rfl d k
theorem kX2_53 {l : Launch} {D : va_G} {ad : Nat → Nat} {cA : Nat → ClassId} {cc : ByteArray} {nL : Nat} {rt : Option FieldType} {dl : Nat} {Q : Option Value → Mem → Prop} {pc : Nat} {lv : List (Nat × Value)} {rest : List Value} {M : Mem} {p0 : Int} {Q1 : Int → Mem → Prop} (hd : 1 + 1 ≤ dl) (hrm : (rest.map fun v => v.category).sum ≤ 8) (d : decode cc pc = .ok (.invokevirtual 53, 3)) (hM : AM (xC l D ad cA) yX2_depthOf mX2_depthOf [.ref (ad 1), vi p0] M (qI Q1)) (kk : ∀ r M1, rg r → Q1 r M1 → AW (xC l D ad cA) (RX2, cc, nL, rt, rmL dl) Q (pc + 3) lv (vi r :: rest) M1) : AW (xC l D ad cA) (RX2, cc, nL, rt, rmL dl) Q pc lv (vi p0 :: .ref (ad 1) :: rest) M :=
  a_callV (X := (xC l D ad cA)) (mc' := mX2_depthOf) (q := 1) (ci := 2) (N := 10) (n := 1) (As := [vi p0]) (rest := rest) (C := RX2) (T := TX2) (Nat.le_of_ble_eq_true rfl) rfl rfl (gtb_in (w := .methodLink RX2 53 yX2_depthOf) (by decide +kernel) rfl) (gtb_in (by decide +kernel) rfl) (gtb_in (by decide +kernel) rfl) (gtb_in (by decide +kernel) rfl) (gtb_in (w := .code yX2_depthOf cX2_depthOf 2 (some .int)) (by decide +kernel) rfl) (by decide +kernel) rfl ⟨rfl, rfl⟩ (rm_ok hd (Nat.le_of_ble_eq_true rfl)) hrm rfl d hM (fun v M1 h => by obtain ⟨r, rfl, g, h⟩ := h; exact kk r M1 g h)
theorem kX2_57 {l : Launch} {D : va_G} {ad : Nat → Nat} {cA : Nat → ClassId} {cc : ByteArray} {nL : Nat} {rt : Option FieldType} {dl : Nat} {Q : Option Value → Mem → Prop} {pc : Nat} {lv : List (Nat × Value)} {rest : List Value} {M : Mem} {p0 p1 : Int} {Q1 : Int → Mem → Prop} (hd : 0 + 1 ≤ dl) (hrm : (rest.map fun v => v.category).sum ≤ 8) (d : decode cc pc = .ok (.invokestatic 57, 3)) (hM : AM (xC l D ad cA) yJ9_max_7cf53 mJ9_max_7cf53 [vi p0, vi p1] M (qI Q1)) (kk : ∀ r M1, rg r → Q1 r M1 → AW (xC l D ad cA) (RX2, cc, nL, rt, rmL dl) Q (pc + 3) lv (vi r :: rest) M1) : AW (xC l D ad cA) (RX2, cc, nL, rt, rmL dl) Q pc lv (vi p1 :: vi p0 :: rest) M :=
  a_callS (X := (xC l D ad cA)) (mc' := mJ9_max_7cf53) (n := 2) (As := [vi p0, vi p1]) (rest := rest) (gtb_in (w := .methodLink RX2 57 yJ9_max_7cf53) (by decide +kernel) rfl) (gtb_in (by decide +kernel) rfl) (gtb_in (by decide +kernel) rfl) (gtb_in (w := .code yJ9_max_7cf53 cJ9_max_7cf53 2 (some .int)) (by decide +kernel) rfl) (by decide +kernel) rfl ⟨rfl, rfl⟩ (rm_ok hd (Nat.le_of_ble_eq_true rfl)) hrm rfl d hM (fun v M1 h => by obtain ⟨r, rfl, g, h⟩ := h; exact kk r M1 g h)
theorem gfX2_24 {l : Launch} {D : va_G} {ad : Nat → Nat} {cA : Nat → ClassId} {cc : ByteArray} {nL : Nat} {rt : Option FieldType} {R : Room} {Q : Option Value → Mem → Prop} {pc : Nat} {lv : List (Nat × Value)} {st : List Value} {M : Mem} (d : decode cc pc = .ok (.getfield 24, 3)) (k : AW (xC l D ad cA) (RX2, cc, nL, rt, R) Q (pc + 3) lv (.ref (ad 8) :: st) M) : AW (xC l D ad cA) (RX2, cc, nL, rt, R) Q pc lv (.ref (ad 1) :: st) M :=
  a_get (X := (xC l D ad cA)) (q := 1) (ci := 2) (k := 4) (N := 10) (C := RX2) (T := TX2) (Nat.le_of_ble_eq_true rfl) rfl rfl inGX2 (Nat.le_of_ble_eq_true rfl) (gtb_in (w := .fieldLink RX2 24 (TX2 4).1 (TX2 4).2.1 (TX2 4).2.2.1) (by decide +kernel) rfl) rfl d k
theorem gfX2_33 {l : Launch} {D : va_G} {ad : Nat → Nat} {cA : Nat → ClassId} {cc : ByteArray} {nL : Nat} {rt : Option FieldType} {R : Room} {Q : Option Value → Mem → Prop} {pc : Nat} {lv : List (Nat × Value)} {st : List Value} {M : Mem} (d : decode cc pc = .ok (.getfield 33, 3)) (k : AW (xC l D ad cA) (RX2, cc, nL, rt, R) Q (pc + 3) lv (.ref (ad 11) :: st) M) : AW (xC l D ad cA) (RX2, cc, nL, rt, R) Q pc lv (.ref (ad 1) :: st) M :=
  a_get (X := (xC l D ad cA)) (q := 1) (ci := 2) (k := 7) (N := 10) (C := RX2) (T := TX2) (Nat.le_of_ble_eq_true rfl) rfl rfl inGX2 (Nat.le_of_ble_eq_true rfl) (gtb_in (w := .fieldLink RX2 33 (TX2 7).1 (TX2 7).2.1 (TX2 7).2.2.1) (by decide +kernel) rfl) rfl d k
theorem gfX2_30 {l : Launch} {D : va_G} {ad : Nat → Nat} {cA : Nat → ClassId} {cc : ByteArray} {nL : Nat} {rt : Option FieldType} {R : Room} {Q : Option Value → Mem → Prop} {pc : Nat} {lv : List (Nat × Value)} {st : List Value} {M : Mem} (d : decode cc pc = .ok (.getfield 30, 3)) (k : AW (xC l D ad cA) (RX2, cc, nL, rt, R) Q (pc + 3) lv (.ref (ad 10) :: st) M) : AW (xC l D ad cA) (RX2, cc, nL, rt, R) Q pc lv (.ref (ad 1) :: st) M :=
  a_get (X := (xC l D ad cA)) (q := 1) (ci := 2) (k := 6) (N := 10) (C := RX2) (T := TX2) (Nat.le_of_ble_eq_true rfl) rfl rfl inGX2 (Nat.le_of_ble_eq_true rfl) (gtb_in (w := .fieldLink RX2 30 (TX2 6).1 (TX2 6).2.1 (TX2 6).2.2.1) (by decide +kernel) rfl) rfl d k
theorem kX2_81 {l : Launch} {D : va_G} {ad : Nat → Nat} {cA : Nat → ClassId} {cc : ByteArray} {nL : Nat} {rt : Option FieldType} {dl : Nat} {Q : Option Value → Mem → Prop} {pc : Nat} {lv : List (Nat × Value)} {rest : List Value} {M : Mem} {p0 p1 : Int} {Q1 : Int → Mem → Prop} (hd : 2 + 1 ≤ dl) (hrm : (rest.map fun v => v.category).sum ≤ 8) (d : decode cc pc = .ok (.invokevirtual 81, 3)) (hM : AM (xC l D ad cA) yX2_depthAbove mX2_depthAbove [.ref (ad 1), vi p0, vi p1] M (qI Q1)) (kk : ∀ r M1, rg r → Q1 r M1 → AW (xC l D ad cA) (RX2, cc, nL, rt, rmL dl) Q (pc + 3) lv (vi r :: rest) M1) : AW (xC l D ad cA) (RX2, cc, nL, rt, rmL dl) Q pc lv (vi p1 :: vi p0 :: .ref (ad 1) :: rest) M :=
  a_callV (X := (xC l D ad cA)) (mc' := mX2_depthAbove) (q := 1) (ci := 2) (N := 10) (n := 2) (As := [vi p0, vi p1]) (rest := rest) (C := RX2) (T := TX2) (Nat.le_of_ble_eq_true rfl) rfl rfl (gtb_in (w := .methodLink RX2 81 yX2_depthAbove) (by decide +kernel) rfl) (gtb_in (by decide +kernel) rfl) (gtb_in (by decide +kernel) rfl) (gtb_in (by decide +kernel) rfl) (gtb_in (w := .code yX2_depthAbove cX2_depthAbove 3 (some .int)) (by decide +kernel) rfl) (by decide +kernel) rfl ⟨rfl, rfl⟩ (rm_ok hd (Nat.le_of_ble_eq_true rfl)) hrm rfl d hM (fun v M1 h => by obtain ⟨r, rfl, g, h⟩ := h; exact kk r M1 g h)
theorem kX2_84 {l : Launch} {D : va_G} {ad : Nat → Nat} {cA : Nat → ClassId} {cc : ByteArray} {nL : Nat} {rt : Option FieldType} {dl : Nat} {Q : Option Value → Mem → Prop} {pc : Nat} {lv : List (Nat × Value)} {rest : List Value} {M : Mem} {p0 : Int} {Q1 : Int → Mem → Prop} (hd : 1 + 1 ≤ dl) (hrm : (rest.map fun v => v.category).sum ≤ 8) (d : decode cc pc = .ok (.invokevirtual 84, 3)) (hM : AM (xC l D ad cA) yX2_sizeOf mX2_sizeOf [.ref (ad 1), vi p0] M (qI Q1)) (kk : ∀ r M1, rg r → Q1 r M1 → AW (xC l D ad cA) (RX2, cc, nL, rt, rmL dl) Q (pc + 3) lv (vi r :: rest) M1) : AW (xC l D ad cA) (RX2, cc, nL, rt, rmL dl) Q pc lv (vi p0 :: .ref (ad 1) :: rest) M :=
  a_callV (X := (xC l D ad cA)) (mc' := mX2_sizeOf) (q := 1) (ci := 2) (N := 10) (n := 1) (As := [vi p0]) (rest := rest) (C := RX2) (T := TX2) (Nat.le_of_ble_eq_true rfl) rfl rfl (gtb_in (w := .methodLink RX2 84 yX2_sizeOf) (by decide +kernel) rfl) (gtb_in (by decide +kernel) rfl) (gtb_in (by decide +kernel) rfl) (gtb_in (by decide +kernel) rfl) (gtb_in (w := .code yX2_sizeOf cX2_sizeOf 2 (some .int)) (by decide +kernel) rfl) (by decide +kernel) rfl ⟨rfl, rfl⟩ (rm_ok hd (Nat.le_of_ble_eq_true rfl)) hrm rfl d hM (fun v M1 h => by obtain ⟨r, rfl, g, h⟩ := h; exact kk r M1 g h)
theorem kX2_87 {l : Launch} {D : va_G} {ad : Nat → Nat} {cA : Nat → ClassId} {cc : ByteArray} {nL : Nat} {rt : Option FieldType} {dl : Nat} {Q : Option Value → Mem → Prop} {pc : Nat} {lv : List (Nat × Value)} {rest : List Value} {M : Mem} {p0 : Int} {Q1 : Int → Mem → Prop} (hd : 1 + 1 ≤ dl) (hrm : (rest.map fun v => v.category).sum ≤ 8) (d : decode cc pc = .ok (.invokevirtual 87, 3)) (hM : AM (xC l D ad cA) yX2_namesIn mX2_namesIn [.ref (ad 1), vi p0] M (qI Q1)) (kk : ∀ r M1, rg r → Q1 r M1 → AW (xC l D ad cA) (RX2, cc, nL, rt, rmL dl) Q (pc + 3) lv (vi r :: rest) M1) : AW (xC l D ad cA) (RX2, cc, nL, rt, rmL dl) Q pc lv (vi p0 :: .ref (ad 1) :: rest) M :=
  a_callV (X := (xC l D ad cA)) (mc' := mX2_namesIn) (q := 1) (ci := 2) (N := 10) (n := 1) (As := [vi p0]) (rest := rest) (C := RX2) (T := TX2) (Nat.le_of_ble_eq_true rfl) rfl rfl (gtb_in (w := .methodLink RX2 87 yX2_namesIn) (by decide +kernel) rfl) (gtb_in (by decide +kernel) rfl) (gtb_in (by decide +kernel) rfl) (gtb_in (by decide +kernel) rfl) (gtb_in (w := .code yX2_namesIn cX2_namesIn 2 (some .int)) (by decide +kernel) rfl) (by decide +kernel) rfl ⟨rfl, rfl⟩ (rm_ok hd (Nat.le_of_ble_eq_true rfl)) hrm rfl d hM (fun v M1 h => by obtain ⟨r, rfl, g, h⟩ := h; exact kk r M1 g h)
theorem kX2_63 {l : Launch} {D : va_G} {ad : Nat → Nat} {cA : Nat → ClassId} {cc : ByteArray} {nL : Nat} {rt : Option FieldType} {dl : Nat} {Q : Option Value → Mem → Prop} {pc : Nat} {lv : List (Nat × Value)} {rest : List Value} {M : Mem} {p0 p1 : Int} {Q1 : Int → Mem → Prop} (hd : 1 + 1 ≤ dl) (hrm : (rest.map fun v => v.category).sum ≤ 8) (d : decode cc pc = .ok (.invokevirtual 63, 3)) (hM : AM (xC l D ad cA) yX2_timesOfParameter mX2_timesOfParameter [.ref (ad 1), vi p0, vi p1] M (qI Q1)) (kk : ∀ r M1, rg r → Q1 r M1 → AW (xC l D ad cA) (RX2, cc, nL, rt, rmL dl) Q (pc + 3) lv (vi r :: rest) M1) : AW (xC l D ad cA) (RX2, cc, nL, rt, rmL dl) Q pc lv (vi p1 :: vi p0 :: .ref (ad 1) :: rest) M :=
  a_callV (X := (xC l D ad cA)) (mc' := mX2_timesOfParameter) (q := 1) (ci := 2) (N := 10) (n := 2) (As := [vi p0, vi p1]) (rest := rest) (C := RX2) (T := TX2) (Nat.le_of_ble_eq_true rfl) rfl rfl (gtb_in (w := .methodLink RX2 63 yX2_timesOfParameter) (by decide +kernel) rfl) (gtb_in (by decide +kernel) rfl) (gtb_in (by decide +kernel) rfl) (gtb_in (by decide +kernel) rfl) (gtb_in (w := .code yX2_timesOfParameter cX2_timesOfParameter 3 (some .int)) (by decide +kernel) rfl) (by decide +kernel) rfl ⟨rfl, rfl⟩ (rm_ok hd (Nat.le_of_ble_eq_true rfl)) hrm rfl d hM (fun v M1 h => by obtain ⟨r, rfl, g, h⟩ := h; exact kk r M1 g h)
theorem kX2_66 {l : Launch} {D : va_G} {ad : Nat → Nat} {cA : Nat → ClassId} {cc : ByteArray} {nL : Nat} {rt : Option FieldType} {dl : Nat} {Q : Option Value → Mem → Prop} {pc : Nat} {lv : List (Nat × Value)} {rest : List Value} {M : Mem} {p0 p1 p2 : Int} {Q1 : Int → Mem → Prop} (hd : 0 + 1 ≤ dl) (hrm : (rest.map fun v => v.category).sum ≤ 8) (d : decode cc pc = .ok (.invokevirtual 66, 3)) (hM : AM (xC l D ad cA) yX2_find mX2_find [.ref (ad 1), vi p0, vi p1, vi p2] M (qI Q1)) (kk : ∀ r M1, rg r → Q1 r M1 → AW (xC l D ad cA) (RX2, cc, nL, rt, rmL dl) Q (pc + 3) lv (vi r :: rest) M1) : AW (xC l D ad cA) (RX2, cc, nL, rt, rmL dl) Q pc lv (vi p2 :: vi p1 :: vi p0 :: .ref (ad 1) :: rest) M :=
  a_callV (X := (xC l D ad cA)) (mc' := mX2_find) (q := 1) (ci := 2) (N := 10) (n := 3) (As := [vi p0, vi p1, vi p2]) (rest := rest) (C := RX2) (T := TX2) (Nat.le_of_ble_eq_true rfl) rfl rfl (gtb_in (w := .methodLink RX2 66 yX2_find) (by decide +kernel) rfl) (gtb_in (by decide +kernel) rfl) (gtb_in (by decide +kernel) rfl) (gtb_in (by decide +kernel) rfl) (gtb_in (w := .code yX2_find cX2_find 5 (some .int)) (by decide +kernel) rfl) (by decide +kernel) rfl ⟨rfl, rfl⟩ (rm_ok hd (Nat.le_of_ble_eq_true rfl)) hrm rfl d hM (fun v M1 h => by obtain ⟨r, rfl, g, h⟩ := h; exact kk r M1 g h)
theorem kX2_70 {l : Launch} {D : va_G} {ad : Nat → Nat} {cA : Nat → ClassId} {cc : ByteArray} {nL : Nat} {rt : Option FieldType} {dl : Nat} {Q : Option Value → Mem → Prop} {pc : Nat} {lv : List (Nat × Value)} {rest : List Value} {M : Mem} {p0 p1 p2 : Int} {Q1 : Int → Mem → Prop} (hd : 0 + 1 ≤ dl) (hrm : (rest.map fun v => v.category).sum ≤ 8) (d : decode cc pc = .ok (.invokevirtual 70, 3)) (hM : AM (xC l D ad cA) yX2_hold mX2_hold [.ref (ad 1), vi p0, vi p1, vi p2] M (qI Q1)) (kk : ∀ r M1, rg r → Q1 r M1 → AW (xC l D ad cA) (RX2, cc, nL, rt, rmL dl) Q (pc + 3) lv (vi r :: rest) M1) : AW (xC l D ad cA) (RX2, cc, nL, rt, rmL dl) Q pc lv (vi p2 :: vi p1 :: vi p0 :: .ref (ad 1) :: rest) M :=
  a_callV (X := (xC l D ad cA)) (mc' := mX2_hold) (q := 1) (ci := 2) (N := 10) (n := 3) (As := [vi p0, vi p1, vi p2]) (rest := rest) (C := RX2) (T := TX2) (Nat.le_of_ble_eq_true rfl) rfl rfl (gtb_in (w := .methodLink RX2 70 yX2_hold) (by decide +kernel) rfl) (gtb_in (by decide +kernel) rfl) (gtb_in (by decide +kernel) rfl) (gtb_in (by decide +kernel) rfl) (gtb_in (w := .code yX2_hold cX2_hold 5 (some .int)) (by decide +kernel) rfl) (by decide +kernel) rfl ⟨rfl, rfl⟩ (rm_ok hd (Nat.le_of_ble_eq_true rfl)) hrm rfl d hM (fun v M1 h => by obtain ⟨r, rfl, g, h⟩ := h; exact kk r M1 g h)
theorem pfX2_36 {l : Launch} {D : va_G} {ad : Nat → Nat} {cA : Nat → ClassId} {cc : ByteArray} {nL : Nat} {rt : Option FieldType} {R : Room} {Q : Option Value → Mem → Prop} {pc : Nat} {lv : List (Nat × Value)} {st : List Value} {M : Mem} {v : Int} (d : decode cc pc = .ok (.putfield 36, 3)) (g : rg v) (k : AW (xC l D ad cA) (RX2, cc, nL, rt, R) Q (pc + 3) lv st (up M 1 8 v)) : AW (xC l D ad cA) (RX2, cc, nL, rt, R) Q pc lv (vi v :: .ref (ad 1) :: st) M :=
  a_put (X := (xC l D ad cA)) (q := 1) (ci := 2) (k := 8) (N := 10) (C := RX2) (T := TX2) (ty := .int) (ty0 := tyX2) (Nat.le_of_ble_eq_true rfl) rfl rfl rfl inGX2 tyX2_ok nmX2 (Nat.le_of_ble_eq_true rfl) (gtb_in (w := .fieldLink RX2 36 (TX2 8).1 (TX2 8).2.1 (TX2 8).2.2.1) (by decide +kernel) rfl) rfl (by decide +kernel) rfl rfl (Nat.le_of_ble_eq_true rfl) rfl d g k
theorem kX2_73 {l : Launch} {D : va_G} {ad : Nat → Nat} {cA : Nat → ClassId} {cc : ByteArray} {nL : Nat} {rt : Option FieldType} {dl : Nat} {Q : Option Value → Mem → Prop} {pc : Nat} {lv : List (Nat × Value)} {rest : List Value} {M : Mem} {p0 : Int} {Q1 : Mem → Prop} (hd : 3 + 1 ≤ dl) (hrm : (rest.map fun v => v.category).sum ≤ 8) (d : decode cc pc = .ok (.invokevirtual 73, 3)) (hM : AM (xC l D ad cA) yX2_measure mX2_measure [.ref (ad 1), vi p0] M (qV Q1)) (kk : ∀ M1, Q1 M1 → AW (xC l D ad cA) (RX2, cc, nL, rt, rmL dl) Q (pc + 3) lv rest M1) : AW (xC l D ad cA) (RX2, cc, nL, rt, rmL dl) Q pc lv (vi p0 :: .ref (ad 1) :: rest) M :=
  a_callV (X := (xC l D ad cA)) (mc' := mX2_measure) (q := 1) (ci := 2) (N := 10) (n := 1) (As := [vi p0]) (rest := rest) (C := RX2) (T := TX2) (Nat.le_of_ble_eq_true rfl) rfl rfl (gtb_in (w := .methodLink RX2 73 yX2_measure) (by decide +kernel) rfl) (gtb_in (by decide +kernel) rfl) (gtb_in (by decide +kernel) rfl) (gtb_in (by decide +kernel) rfl) (gtb_in (w := .code yX2_measure cX2_measure 5 none) (by decide +kernel) rfl) (by decide +kernel) rfl ⟨rfl, rfl⟩ (rm_ok hd (Nat.le_of_ble_eq_true rfl)) hrm rfl d hM (fun v M1 h => by obtain ⟨rfl, h⟩ := h; exact kk M1 h)
theorem gfX3_14 {l : Launch} {D : va_G} {ad : Nat → Nat} {cA : Nat → ClassId} {cc : ByteArray} {nL : Nat} {rt : Option FieldType} {R : Room} {Q : Option Value → Mem → Prop} {pc : Nat} {lv : List (Nat × Value)} {st : List Value} {M : Mem} (d : decode cc pc = .ok (.getfield 14, 3)) (k : AW (xC l D ad cA) (RX3, cc, nL, rt, R) Q (pc + 3) lv (.ref (ad 1) :: st) M) : AW (xC l D ad cA) (RX3, cc, nL, rt, R) Q pc lv (.ref (ad 0) :: st) M :=
  a_get (X := (xC l D ad cA)) (q := 0) (ci := 3) (k := 0) (N := 3) (C := RX3) (T := TX3) (Nat.le_of_ble_eq_true rfl) rfl rfl inGX3 (Nat.le_of_ble_eq_true rfl) (gtb_in (w := .fieldLink RX3 14 (TX3 0).1 (TX3 0).2.1 (TX3 0).2.2.1) (by decide +kernel) rfl) rfl d k
theorem kX3_40 {l : Launch} {D : va_G} {ad : Nat → Nat} {cA : Nat → ClassId} {cc : ByteArray} {nL : Nat} {rt : Option FieldType} {dl : Nat} {Q : Option Value → Mem → Prop} {pc : Nat} {lv : List (Nat × Value)} {rest : List Value} {M : Mem} {p0 p1 p2 : Int} {Q1 : Int → Mem → Prop} (hd : 4 + 1 ≤ dl) (hrm : (rest.map fun v => v.category).sum ≤ 8) (d : decode cc pc = .ok (.invokevirtual 40, 3)) (hM : AM (xC l D ad cA) yX2_numberOf mX2_numberOf [.ref (ad 1), vi p0, vi p1, vi p2] M (qI Q1)) (kk : ∀ r M1, rg r → Q1 r M1 → AW (xC l D ad cA) (RX3, cc, nL, rt, rmL dl) Q (pc + 3) lv (vi r :: rest) M1) : AW (xC l D ad cA) (RX3, cc, nL, rt, rmL dl) Q pc lv (vi p2 :: vi p1 :: vi p0 :: .ref (ad 1) :: rest) M :=
  a_callV (X := (xC l D ad cA)) (mc' := mX2_numberOf) (q := 1) (ci := 2) (N := 10) (n := 3) (As := [vi p0, vi p1, vi p2]) (rest := rest) (C := RX2) (T := TX2) (Nat.le_of_ble_eq_true rfl) rfl rfl (gtb_in (w := .methodLink RX3 40 yX2_numberOf) (by decide +kernel) rfl) (gtb_in (by decide +kernel) rfl) (gtb_in (by decide +kernel) rfl) (gtb_in (by decide +kernel) rfl) (gtb_in (w := .code yX2_numberOf cX2_numberOf 5 (some .int)) (by decide +kernel) rfl) (by decide +kernel) rfl ⟨rfl, rfl⟩ (rm_ok hd (Nat.le_of_ble_eq_true rfl)) hrm rfl d hM (fun v M1 h => by obtain ⟨r, rfl, g, h⟩ := h; exact kk r M1 g h)
theorem kX3_44 {l : Launch} {D : va_G} {ad : Nat → Nat} {cA : Nat → ClassId} {cc : ByteArray} {nL : Nat} {rt : Option FieldType} {dl : Nat} {Q : Option Value → Mem → Prop} {pc : Nat} {lv : List (Nat × Value)} {rest : List Value} {M : Mem} {p0 : Int} {Q1 : Int → Mem → Prop} (hd : 0 + 1 ≤ dl) (hrm : (rest.map fun v => v.category).sum ≤ 8) (d : decode cc pc = .ok (.invokevirtual 44, 3)) (hM : AM (xC l D ad cA) yX1_has mX1_has [.ref (ad 2), vi p0] M (qI Q1)) (kk : ∀ r M1, rg r → Q1 r M1 → AW (xC l D ad cA) (RX3, cc, nL, rt, rmL dl) Q (pc + 3) lv (vi r :: rest) M1) : AW (xC l D ad cA) (RX3, cc, nL, rt, rmL dl) Q pc lv (vi p0 :: .ref (ad 2) :: rest) M :=
  a_callV (X := (xC l D ad cA)) (mc' := mX1_has) (q := 2) (ci := 1) (N := 8) (n := 1) (As := [vi p0]) (rest := rest) (C := RX1) (T := TX1) (Nat.le_of_ble_eq_true rfl) rfl rfl (gtb_in (w := .methodLink RX3 44 yX1_has) (by decide +kernel) rfl) (gtb_in (by decide +kernel) rfl) (gtb_in (by decide +kernel) rfl) (gtb_in (by decide +kernel) rfl) (gtb_in (w := .code yX1_has cX1_has 2 (some .boolean)) (by decide +kernel) rfl) (by decide +kernel) rfl ⟨rfl, rfl⟩ (rm_ok hd (Nat.le_of_ble_eq_true rfl)) hrm rfl d hM (fun v M1 h => by obtain ⟨r, rfl, g, h⟩ := h; exact kk r M1 g h)
theorem kX3_48 {l : Launch} {D : va_G} {ad : Nat → Nat} {cA : Nat → ClassId} {cc : ByteArray} {nL : Nat} {rt : Option FieldType} {dl : Nat} {Q : Option Value → Mem → Prop} {pc : Nat} {lv : List (Nat × Value)} {rest : List Value} {M : Mem} {p0 : Int} {Q1 : Int → Mem → Prop} (hd : 1 + 1 ≤ dl) (hrm : (rest.map fun v => v.category).sum ≤ 8) (d : decode cc pc = .ok (.invokevirtual 48, 3)) (hM : AM (xC l D ad cA) yX1_arityOf mX1_arityOf [.ref (ad 2), vi p0] M (qI Q1)) (kk : ∀ r M1, rg r → Q1 r M1 → AW (xC l D ad cA) (RX3, cc, nL, rt, rmL dl) Q (pc + 3) lv (vi r :: rest) M1) : AW (xC l D ad cA) (RX3, cc, nL, rt, rmL dl) Q pc lv (vi p0 :: .ref (ad 2) :: rest) M :=
  a_callV (X := (xC l D ad cA)) (mc' := mX1_arityOf) (q := 2) (ci := 1) (N := 8) (n := 1) (As := [vi p0]) (rest := rest) (C := RX1) (T := TX1) (Nat.le_of_ble_eq_true rfl) rfl rfl (gtb_in (w := .methodLink RX3 48 yX1_arityOf) (by decide +kernel) rfl) (gtb_in (by decide +kernel) rfl) (gtb_in (by decide +kernel) rfl) (gtb_in (by decide +kernel) rfl) (gtb_in (w := .code yX1_arityOf cX1_arityOf 2 (some .int)) (by decide +kernel) rfl) (by decide +kernel) rfl ⟨rfl, rfl⟩ (rm_ok hd (Nat.le_of_ble_eq_true rfl)) hrm rfl d hM (fun v M1 h => by obtain ⟨r, rfl, g, h⟩ := h; exact kk r M1 g h)
theorem kX3_51 {l : Launch} {D : va_G} {ad : Nat → Nat} {cA : Nat → ClassId} {cc : ByteArray} {nL : Nat} {rt : Option FieldType} {dl : Nat} {Q : Option Value → Mem → Prop} {pc : Nat} {lv : List (Nat × Value)} {rest : List Value} {M : Mem} {p0 : Int} {Q1 : Int → Mem → Prop} (hd : 0 + 1 ≤ dl) (hrm : (rest.map fun v => v.category).sum ≤ 8) (d : decode cc pc = .ok (.invokevirtual 51, 3)) (hM : AM (xC l D ad cA) yX2_wasMade mX2_wasMade [.ref (ad 1), vi p0] M (qI Q1)) (kk : ∀ r M1, rg r → Q1 r M1 → AW (xC l D ad cA) (RX3, cc, nL, rt, rmL dl) Q (pc + 3) lv (vi r :: rest) M1) : AW (xC l D ad cA) (RX3, cc, nL, rt, rmL dl) Q pc lv (vi p0 :: .ref (ad 1) :: rest) M :=
  a_callV (X := (xC l D ad cA)) (mc' := mX2_wasMade) (q := 1) (ci := 2) (N := 10) (n := 1) (As := [vi p0]) (rest := rest) (C := RX2) (T := TX2) (Nat.le_of_ble_eq_true rfl) rfl rfl (gtb_in (w := .methodLink RX3 51 yX2_wasMade) (by decide +kernel) rfl) (gtb_in (by decide +kernel) rfl) (gtb_in (by decide +kernel) rfl) (gtb_in (by decide +kernel) rfl) (gtb_in (w := .code yX2_wasMade cX2_wasMade 2 (some .boolean)) (by decide +kernel) rfl) (by decide +kernel) rfl ⟨rfl, rfl⟩ (rm_ok hd (Nat.le_of_ble_eq_true rfl)) hrm rfl d hM (fun v M1 h => by obtain ⟨r, rfl, g, h⟩ := h; exact kk r M1 g h)
theorem kX3_54 {l : Launch} {D : va_G} {ad : Nat → Nat} {cA : Nat → ClassId} {cc : ByteArray} {nL : Nat} {rt : Option FieldType} {dl : Nat} {Q : Option Value → Mem → Prop} {pc : Nat} {lv : List (Nat × Value)} {rest : List Value} {M : Mem} {p0 p1 : Int} {Q1 : Int → Mem → Prop} (hd : 2 + 1 ≤ dl) (hrm : (rest.map fun v => v.category).sum ≤ 8) (d : decode cc pc = .ok (.invokevirtual 54, 3)) (hM : AM (xC l D ad cA) yX2_depthAbove mX2_depthAbove [.ref (ad 1), vi p0, vi p1] M (qI Q1)) (kk : ∀ r M1, rg r → Q1 r M1 → AW (xC l D ad cA) (RX3, cc, nL, rt, rmL dl) Q (pc + 3) lv (vi r :: rest) M1) : AW (xC l D ad cA) (RX3, cc, nL, rt, rmL dl) Q pc lv (vi p1 :: vi p0 :: .ref (ad 1) :: rest) M :=
  a_callV (X := (xC l D ad cA)) (mc' := mX2_depthAbove) (q := 1) (ci := 2) (N := 10) (n := 2) (As := [vi p0, vi p1]) (rest := rest) (C := RX2) (T := TX2) (Nat.le_of_ble_eq_true rfl) rfl rfl (gtb_in (w := .methodLink RX3 54 yX2_depthAbove) (by decide +kernel) rfl) (gtb_in (by decide +kernel) rfl) (gtb_in (by decide +kernel) rfl) (gtb_in (by decide +kernel) rfl) (gtb_in (w := .code yX2_depthAbove cX2_depthAbove 3 (some .int)) (by decide +kernel) rfl) (by decide +kernel) rfl ⟨rfl, rfl⟩ (rm_ok hd (Nat.le_of_ble_eq_true rfl)) hrm rfl d hM (fun v M1 h => by obtain ⟨r, rfl, g, h⟩ := h; exact kk r M1 g h)
theorem kX1_64 {l : Launch} {D : va_G} {ad : Nat → Nat} {cA : Nat → ClassId} {cc : ByteArray} {nL : Nat} {rt : Option FieldType} {dl : Nat} {Q : Option Value → Mem → Prop} {pc : Nat} {lv : List (Nat × Value)} {rest : List Value} {M : Mem} {p0 : Int} {Q1 : Int → Mem → Prop} (hd : 1 + 1 ≤ dl) (hrm : (rest.map fun v => v.category).sum ≤ 8) (d : decode cc pc = .ok (.invokevirtual 64, 3)) (hM : AM (xC l D ad cA) yX1_arityOf mX1_arityOf [.ref (ad 2), vi p0] M (qI Q1)) (kk : ∀ r M1, rg r → Q1 r M1 → AW (xC l D ad cA) (RX1, cc, nL, rt, rmL dl) Q (pc + 3) lv (vi r :: rest) M1) : AW (xC l D ad cA) (RX1, cc, nL, rt, rmL dl) Q pc lv (vi p0 :: .ref (ad 2) :: rest) M :=
  a_callV (X := (xC l D ad cA)) (mc' := mX1_arityOf) (q := 2) (ci := 1) (N := 8) (n := 1) (As := [vi p0]) (rest := rest) (C := RX1) (T := TX1) (Nat.le_of_ble_eq_true rfl) rfl rfl (gtb_in (w := .methodLink RX1 64 yX1_arityOf) (by decide +kernel) rfl) (gtb_in (by decide +kernel) rfl) (gtb_in (by decide +kernel) rfl) (gtb_in (by decide +kernel) rfl) (gtb_in (w := .code yX1_arityOf cX1_arityOf 2 (some .int)) (by decide +kernel) rfl) (by decide +kernel) rfl ⟨rfl, rfl⟩ (rm_ok hd (Nat.le_of_ble_eq_true rfl)) hrm rfl d hM (fun v M1 h => by obtain ⟨r, rfl, g, h⟩ := h; exact kk r M1 g h)
theorem kX1_67 {l : Launch} {D : va_G} {ad : Nat → Nat} {cA : Nat → ClassId} {cc : ByteArray} {nL : Nat} {rt : Option FieldType} {dl : Nat} {Q : Option Value → Mem → Prop} {pc : Nat} {lv : List (Nat × Value)} {rest : List Value} {M : Mem} {p0 p1 : Int} {Q1 : Int → Mem → Prop} (hd : 1 + 1 ≤ dl) (hrm : (rest.map fun v => v.category).sum ≤ 8) (d : decode cc pc = .ok (.invokevirtual 67, 3)) (hM : AM (xC l D ad cA) yX2_timesOfParameter mX2_timesOfParameter [.ref (ad 1), vi p0, vi p1] M (qI Q1)) (kk : ∀ r M1, rg r → Q1 r M1 → AW (xC l D ad cA) (RX1, cc, nL, rt, rmL dl) Q (pc + 3) lv (vi r :: rest) M1) : AW (xC l D ad cA) (RX1, cc, nL, rt, rmL dl) Q pc lv (vi p1 :: vi p0 :: .ref (ad 1) :: rest) M :=
  a_callV (X := (xC l D ad cA)) (mc' := mX2_timesOfParameter) (q := 1) (ci := 2) (N := 10) (n := 2) (As := [vi p0, vi p1]) (rest := rest) (C := RX2) (T := TX2) (Nat.le_of_ble_eq_true rfl) rfl rfl (gtb_in (w := .methodLink RX1 67 yX2_timesOfParameter) (by decide +kernel) rfl) (gtb_in (by decide +kernel) rfl) (gtb_in (by decide +kernel) rfl) (gtb_in (by decide +kernel) rfl) (gtb_in (w := .code yX2_timesOfParameter cX2_timesOfParameter 3 (some .int)) (by decide +kernel) rfl) (by decide +kernel) rfl ⟨rfl, rfl⟩ (rm_ok hd (Nat.le_of_ble_eq_true rfl)) hrm rfl d hM (fun v M1 h => by obtain ⟨r, rfl, g, h⟩ := h; exact kk r M1 g h)
theorem kX3_61 {l : Launch} {D : va_G} {ad : Nat → Nat} {cA : Nat → ClassId} {cc : ByteArray} {nL : Nat} {rt : Option FieldType} {dl : Nat} {Q : Option Value → Mem → Prop} {pc : Nat} {lv : List (Nat × Value)} {rest : List Value} {M : Mem} {p0 p1 : Int} {Q1 : Int → Mem → Prop} (hd : 2 + 1 ≤ dl) (hrm : (rest.map fun v => v.category).sum ≤ 8) (d : decode cc pc = .ok (.invokevirtual 61, 3)) (hM : AM (xC l D ad cA) yX1_mayStandFor mX1_mayStandFor [.ref (ad 2), vi p0, vi p1] M (qI Q1)) (kk : ∀ r M1, rg r → Q1 r M1 → AW (xC l D ad cA) (RX3, cc, nL, rt, rmL dl) Q (pc + 3) lv (vi r :: rest) M1) : AW (xC l D ad cA) (RX3, cc, nL, rt, rmL dl) Q pc lv (vi p1 :: vi p0 :: .ref (ad 2) :: rest) M :=
  a_callV (X := (xC l D ad cA)) (mc' := mX1_mayStandFor) (q := 2) (ci := 1) (N := 8) (n := 2) (As := [vi p0, vi p1]) (rest := rest) (C := RX1) (T := TX1) (Nat.le_of_ble_eq_true rfl) rfl rfl (gtb_in (w := .methodLink RX3 61 yX1_mayStandFor) (by decide +kernel) rfl) (gtb_in (by decide +kernel) rfl) (gtb_in (by decide +kernel) rfl) (gtb_in (by decide +kernel) rfl) (gtb_in (w := .code yX1_mayStandFor cX1_mayStandFor 5 (some .boolean)) (by decide +kernel) rfl) (by decide +kernel) rfl ⟨rfl, rfl⟩ (rm_ok hd (Nat.le_of_ble_eq_true rfl)) hrm rfl d hM (fun v M1 h => by obtain ⟨r, rfl, g, h⟩ := h; exact kk r M1 g h)
theorem kX3_58 {l : Launch} {D : va_G} {ad : Nat → Nat} {cA : Nat → ClassId} {cc : ByteArray} {nL : Nat} {rt : Option FieldType} {dl : Nat} {Q : Option Value → Mem → Prop} {pc : Nat} {lv : List (Nat × Value)} {rest : List Value} {M : Mem} {p0 p1 : Int} {Q1 : Int → Mem → Prop} (hd : 11 + 1 ≤ dl) (hrm : (rest.map fun v => v.category).sum ≤ 8) (d : decode cc pc = .ok (.invokevirtual 58, 3)) (hM : AM (xC l D ad cA) yX1_redefine mX1_redefine [.ref (ad 2), vi p0, vi p1] M (qI Q1)) (kk : ∀ r M1, rg r → Q1 r M1 → AW (xC l D ad cA) (RX3, cc, nL, rt, rmL dl) Q (pc + 3) lv (vi r :: rest) M1) : AW (xC l D ad cA) (RX3, cc, nL, rt, rmL dl) Q pc lv (vi p1 :: vi p0 :: .ref (ad 2) :: rest) M :=
  a_callV (X := (xC l D ad cA)) (mc' := mX1_redefine) (q := 2) (ci := 1) (N := 8) (n := 2) (As := [vi p0, vi p1]) (rest := rest) (C := RX1) (T := TX1) (Nat.le_of_ble_eq_true rfl) rfl rfl (gtb_in (w := .methodLink RX3 58 yX1_redefine) (by decide +kernel) rfl) (gtb_in (by decide +kernel) rfl) (gtb_in (by decide +kernel) rfl) (gtb_in (by decide +kernel) rfl) (gtb_in (w := .code yX1_redefine cX1_redefine 4 (some .int)) (by decide +kernel) rfl) (by decide +kernel) rfl ⟨rfl, rfl⟩ (rm_ok hd (Nat.le_of_ble_eq_true rfl)) hrm rfl d hM (fun v M1 h => by obtain ⟨r, rfl, g, h⟩ := h; exact kk r M1 g h)
theorem kX3_65 {l : Launch} {D : va_G} {ad : Nat → Nat} {cA : Nat → ClassId} {cc : ByteArray} {nL : Nat} {rt : Option FieldType} {dl : Nat} {Q : Option Value → Mem → Prop} {pc : Nat} {lv : List (Nat × Value)} {rest : List Value} {M : Mem} {p0 p1 : Int} {Q1 : Int → Mem → Prop} (hd : 11 + 1 ≤ dl) (hrm : (rest.map fun v => v.category).sum ≤ 8) (d : decode cc pc = .ok (.invokevirtual 65, 3)) (hM : AM (xC l D ad cA) yX1_cover mX1_cover [.ref (ad 2), vi p0, vi p1] M (qI Q1)) (kk : ∀ r M1, rg r → Q1 r M1 → AW (xC l D ad cA) (RX3, cc, nL, rt, rmL dl) Q (pc + 3) lv (vi r :: rest) M1) : AW (xC l D ad cA) (RX3, cc, nL, rt, rmL dl) Q pc lv (vi p1 :: vi p0 :: .ref (ad 2) :: rest) M :=
  a_callV (X := (xC l D ad cA)) (mc' := mX1_cover) (q := 2) (ci := 1) (N := 8) (n := 2) (As := [vi p0, vi p1]) (rest := rest) (C := RX1) (T := TX1) (Nat.le_of_ble_eq_true rfl) rfl rfl (gtb_in (w := .methodLink RX3 65 yX1_cover) (by decide +kernel) rfl) (gtb_in (by decide +kernel) rfl) (gtb_in (by decide +kernel) rfl) (gtb_in (by decide +kernel) rfl) (gtb_in (w := .code yX1_cover cX1_cover 3 (some .boolean)) (by decide +kernel) rfl) (by decide +kernel) rfl ⟨rfl, rfl⟩ (rm_ok hd (Nat.le_of_ble_eq_true rfl)) hrm rfl d hM (fun v M1 h => by obtain ⟨r, rfl, g, h⟩ := h; exact kk r M1 g h)
theorem kX3_69 {l : Launch} {D : va_G} {ad : Nat → Nat} {cA : Nat → ClassId} {cc : ByteArray} {nL : Nat} {rt : Option FieldType} {dl : Nat} {Q : Option Value → Mem → Prop} {pc : Nat} {lv : List (Nat × Value)} {rest : List Value} {M : Mem} {p0 : Int} {Q1 : Int → Mem → Prop} (hd : 1 + 1 ≤ dl) (hrm : (rest.map fun v => v.category).sum ≤ 8) (d : decode cc pc = .ok (.invokevirtual 69, 3)) (hM : AM (xC l D ad cA) yX1_definitionOf mX1_definitionOf [.ref (ad 2), vi p0] M (qI Q1)) (kk : ∀ r M1, rg r → Q1 r M1 → AW (xC l D ad cA) (RX3, cc, nL, rt, rmL dl) Q (pc + 3) lv (vi r :: rest) M1) : AW (xC l D ad cA) (RX3, cc, nL, rt, rmL dl) Q pc lv (vi p0 :: .ref (ad 2) :: rest) M :=
  a_callV (X := (xC l D ad cA)) (mc' := mX1_definitionOf) (q := 2) (ci := 1) (N := 8) (n := 1) (As := [vi p0]) (rest := rest) (C := RX1) (T := TX1) (Nat.le_of_ble_eq_true rfl) rfl rfl (gtb_in (w := .methodLink RX3 69 yX1_definitionOf) (by decide +kernel) rfl) (gtb_in (by decide +kernel) rfl) (gtb_in (by decide +kernel) rfl) (gtb_in (by decide +kernel) rfl) (gtb_in (w := .code yX1_definitionOf cX1_definitionOf 2 (some .int)) (by decide +kernel) rfl) (by decide +kernel) rfl ⟨rfl, rfl⟩ (rm_ok hd (Nat.le_of_ble_eq_true rfl)) hrm rfl d hM (fun v M1 h => by obtain ⟨r, rfl, g, h⟩ := h; exact kk r M1 g h)
theorem kX3_72 {l : Launch} {D : va_G} {ad : Nat → Nat} {cA : Nat → ClassId} {cc : ByteArray} {nL : Nat} {rt : Option FieldType} {dl : Nat} {Q : Option Value → Mem → Prop} {pc : Nat} {lv : List (Nat × Value)} {rest : List Value} {M : Mem} {p0 : Int} {Q1 : Int → Mem → Prop} (hd : 1 + 1 ≤ dl) (hrm : (rest.map fun v => v.category).sum ≤ 8) (d : decode cc pc = .ok (.invokevirtual 72, 3)) (hM : AM (xC l D ad cA) yX1_isOpaque mX1_isOpaque [.ref (ad 2), vi p0] M (qI Q1)) (kk : ∀ r M1, rg r → Q1 r M1 → AW (xC l D ad cA) (RX3, cc, nL, rt, rmL dl) Q (pc + 3) lv (vi r :: rest) M1) : AW (xC l D ad cA) (RX3, cc, nL, rt, rmL dl) Q pc lv (vi p0 :: .ref (ad 2) :: rest) M :=
  a_callV (X := (xC l D ad cA)) (mc' := mX1_isOpaque) (q := 2) (ci := 1) (N := 8) (n := 1) (As := [vi p0]) (rest := rest) (C := RX1) (T := TX1) (Nat.le_of_ble_eq_true rfl) rfl rfl (gtb_in (w := .methodLink RX3 72 yX1_isOpaque) (by decide +kernel) rfl) (gtb_in (by decide +kernel) rfl) (gtb_in (by decide +kernel) rfl) (gtb_in (by decide +kernel) rfl) (gtb_in (w := .code yX1_isOpaque cX1_isOpaque 2 (some .boolean)) (by decide +kernel) rfl) (by decide +kernel) rfl ⟨rfl, rfl⟩ (rm_ok hd (Nat.le_of_ble_eq_true rfl)) hrm rfl d hM (fun v M1 h => by obtain ⟨r, rfl, g, h⟩ := h; exact kk r M1 g h)
theorem kX3_75 {l : Launch} {D : va_G} {ad : Nat → Nat} {cA : Nat → ClassId} {cc : ByteArray} {nL : Nat} {rt : Option FieldType} {dl : Nat} {Q : Option Value → Mem → Prop} {pc : Nat} {lv : List (Nat × Value)} {rest : List Value} {M : Mem} {p0 : Int} {Q1 : Int → Mem → Prop} (hd : 1 + 1 ≤ dl) (hrm : (rest.map fun v => v.category).sum ≤ 8) (d : decode cc pc = .ok (.invokevirtual 75, 3)) (hM : AM (xC l D ad cA) yX1_heightOf mX1_heightOf [.ref (ad 2), vi p0] M (qI Q1)) (kk : ∀ r M1, rg r → Q1 r M1 → AW (xC l D ad cA) (RX3, cc, nL, rt, rmL dl) Q (pc + 3) lv (vi r :: rest) M1) : AW (xC l D ad cA) (RX3, cc, nL, rt, rmL dl) Q pc lv (vi p0 :: .ref (ad 2) :: rest) M :=
  a_callV (X := (xC l D ad cA)) (mc' := mX1_heightOf) (q := 2) (ci := 1) (N := 8) (n := 1) (As := [vi p0]) (rest := rest) (C := RX1) (T := TX1) (Nat.le_of_ble_eq_true rfl) rfl rfl (gtb_in (w := .methodLink RX3 75 yX1_heightOf) (by decide +kernel) rfl) (gtb_in (by decide +kernel) rfl) (gtb_in (by decide +kernel) rfl) (gtb_in (by decide +kernel) rfl) (gtb_in (w := .code yX1_heightOf cX1_heightOf 2 (some .int)) (by decide +kernel) rfl) (by decide +kernel) rfl ⟨rfl, rfl⟩ (rm_ok hd (Nat.le_of_ble_eq_true rfl)) hrm rfl d hM (fun v M1 h => by obtain ⟨r, rfl, g, h⟩ := h; exact kk r M1 g h)
theorem kX3_78 {l : Launch} {D : va_G} {ad : Nat → Nat} {cA : Nat → ClassId} {cc : ByteArray} {nL : Nat} {rt : Option FieldType} {dl : Nat} {Q : Option Value → Mem → Prop} {pc : Nat} {lv : List (Nat × Value)} {rest : List Value} {M : Mem} {p0 : Int} {Q1 : Int → Mem → Prop} (hd : 1 + 1 ≤ dl) (hrm : (rest.map fun v => v.category).sum ≤ 8) (d : decode cc pc = .ok (.invokevirtual 78, 3)) (hM : AM (xC l D ad cA) yX2_frontOf mX2_frontOf [.ref (ad 1), vi p0] M (qI Q1)) (kk : ∀ r M1, rg r → Q1 r M1 → AW (xC l D ad cA) (RX3, cc, nL, rt, rmL dl) Q (pc + 3) lv (vi r :: rest) M1) : AW (xC l D ad cA) (RX3, cc, nL, rt, rmL dl) Q pc lv (vi p0 :: .ref (ad 1) :: rest) M :=
  a_callV (X := (xC l D ad cA)) (mc' := mX2_frontOf) (q := 1) (ci := 2) (N := 10) (n := 1) (As := [vi p0]) (rest := rest) (C := RX2) (T := TX2) (Nat.le_of_ble_eq_true rfl) rfl rfl (gtb_in (w := .methodLink RX3 78 yX2_frontOf) (by decide +kernel) rfl) (gtb_in (by decide +kernel) rfl) (gtb_in (by decide +kernel) rfl) (gtb_in (by decide +kernel) rfl) (gtb_in (w := .code yX2_frontOf cX2_frontOf 2 (some .int)) (by decide +kernel) rfl) (by decide +kernel) rfl ⟨rfl, rfl⟩ (rm_ok hd (Nat.le_of_ble_eq_true rfl)) hrm rfl d hM (fun v M1 h => by obtain ⟨r, rfl, g, h⟩ := h; exact kk r M1 g h)
theorem kX3_81 {l : Launch} {D : va_G} {ad : Nat → Nat} {cA : Nat → ClassId} {cc : ByteArray} {nL : Nat} {rt : Option FieldType} {dl : Nat} {Q : Option Value → Mem → Prop} {pc : Nat} {lv : List (Nat × Value)} {rest : List Value} {M : Mem} {p0 p1 : Int} {Q1 : Int → Mem → Prop} (hd : 1 + 1 ≤ dl) (hrm : (rest.map fun v => v.category).sum ≤ 8) (d : decode cc pc = .ok (.invokevirtual 81, 3)) (hM : AM (xC l D ad cA) yX2_partOf mX2_partOf [.ref (ad 1), vi p0, vi p1] M (qI Q1)) (kk : ∀ r M1, rg r → Q1 r M1 → AW (xC l D ad cA) (RX3, cc, nL, rt, rmL dl) Q (pc + 3) lv (vi r :: rest) M1) : AW (xC l D ad cA) (RX3, cc, nL, rt, rmL dl) Q pc lv (vi p1 :: vi p0 :: .ref (ad 1) :: rest) M :=
  a_callV (X := (xC l D ad cA)) (mc' := mX2_partOf) (q := 1) (ci := 2) (N := 10) (n := 2) (As := [vi p0, vi p1]) (rest := rest) (C := RX2) (T := TX2) (Nat.le_of_ble_eq_true rfl) rfl rfl (gtb_in (w := .methodLink RX3 81 yX2_partOf) (by decide +kernel) rfl) (gtb_in (by decide +kernel) rfl) (gtb_in (by decide +kernel) rfl) (gtb_in (by decide +kernel) rfl) (gtb_in (w := .code yX2_partOf cX2_partOf 3 (some .int)) (by decide +kernel) rfl) (by decide +kernel) rfl ⟨rfl, rfl⟩ (rm_ok hd (Nat.le_of_ble_eq_true rfl)) hrm rfl d hM (fun v M1 h => by obtain ⟨r, rfl, g, h⟩ := h; exact kk r M1 g h)
theorem kX3_84 {l : Launch} {D : va_G} {ad : Nat → Nat} {cA : Nat → ClassId} {cc : ByteArray} {nL : Nat} {rt : Option FieldType} {dl : Nat} {Q : Option Value → Mem → Prop} {pc : Nat} {lv : List (Nat × Value)} {rest : List Value} {M : Mem} {p0 : Int} {Q1 : Int → Mem → Prop} (hd : 2 + 1 ≤ dl) (hrm : (rest.map fun v => v.category).sum ≤ 8) (d : decode cc pc = .ok (.invokevirtual 84, 3)) (hM : AM (xC l D ad cA) yX2_isClosed mX2_isClosed [.ref (ad 1), vi p0] M (qI Q1)) (kk : ∀ r M1, rg r → Q1 r M1 → AW (xC l D ad cA) (RX3, cc, nL, rt, rmL dl) Q (pc + 3) lv (vi r :: rest) M1) : AW (xC l D ad cA) (RX3, cc, nL, rt, rmL dl) Q pc lv (vi p0 :: .ref (ad 1) :: rest) M :=
  a_callV (X := (xC l D ad cA)) (mc' := mX2_isClosed) (q := 1) (ci := 2) (N := 10) (n := 1) (As := [vi p0]) (rest := rest) (C := RX2) (T := TX2) (Nat.le_of_ble_eq_true rfl) rfl rfl (gtb_in (w := .methodLink RX3 84 yX2_isClosed) (by decide +kernel) rfl) (gtb_in (by decide +kernel) rfl) (gtb_in (by decide +kernel) rfl) (gtb_in (by decide +kernel) rfl) (gtb_in (w := .code yX2_isClosed cX2_isClosed 2 (some .boolean)) (by decide +kernel) rfl) (by decide +kernel) rfl ⟨rfl, rfl⟩ (rm_ok hd (Nat.le_of_ble_eq_true rfl)) hrm rfl d hM (fun v M1 h => by obtain ⟨r, rfl, g, h⟩ := h; exact kk r M1 g h)
theorem kX3_87 {l : Launch} {D : va_G} {ad : Nat → Nat} {cA : Nat → ClassId} {cc : ByteArray} {nL : Nat} {rt : Option FieldType} {dl : Nat} {Q : Option Value → Mem → Prop} {pc : Nat} {lv : List (Nat × Value)} {rest : List Value} {M : Mem} {p0 : Int} {Q1 : Int → Mem → Prop} (hd : 1 + 1 ≤ dl) (hrm : (rest.map fun v => v.category).sum ≤ 8) (d : decode cc pc = .ok (.invokevirtual 87, 3)) (hM : AM (xC l D ad cA) yX2_depthOf mX2_depthOf [.ref (ad 1), vi p0] M (qI Q1)) (kk : ∀ r M1, rg r → Q1 r M1 → AW (xC l D ad cA) (RX3, cc, nL, rt, rmL dl) Q (pc + 3) lv (vi r :: rest) M1) : AW (xC l D ad cA) (RX3, cc, nL, rt, rmL dl) Q pc lv (vi p0 :: .ref (ad 1) :: rest) M :=
  a_callV (X := (xC l D ad cA)) (mc' := mX2_depthOf) (q := 1) (ci := 2) (N := 10) (n := 1) (As := [vi p0]) (rest := rest) (C := RX2) (T := TX2) (Nat.le_of_ble_eq_true rfl) rfl rfl (gtb_in (w := .methodLink RX3 87 yX2_depthOf) (by decide +kernel) rfl) (gtb_in (by decide +kernel) rfl) (gtb_in (by decide +kernel) rfl) (gtb_in (by decide +kernel) rfl) (gtb_in (w := .code yX2_depthOf cX2_depthOf 2 (some .int)) (by decide +kernel) rfl) (by decide +kernel) rfl ⟨rfl, rfl⟩ (rm_ok hd (Nat.le_of_ble_eq_true rfl)) hrm rfl d hM (fun v M1 h => by obtain ⟨r, rfl, g, h⟩ := h; exact kk r M1 g h)
theorem kX1_105 {l : Launch} {D : va_G} {ad : Nat → Nat} {cA : Nat → ClassId} {cc : ByteArray} {nL : Nat} {rt : Option FieldType} {dl : Nat} {Q : Option Value → Mem → Prop} {pc : Nat} {lv : List (Nat × Value)} {rest : List Value} {M : Mem} {p0 : Int} {Q1 : Int → Mem → Prop} (hd : 1 + 1 ≤ dl) (hrm : (rest.map fun v => v.category).sum ≤ 8) (d : decode cc pc = .ok (.invokevirtual 105, 3)) (hM : AM (xC l D ad cA) yX2_sizeOf mX2_sizeOf [.ref (ad 1), vi p0] M (qI Q1)) (kk : ∀ r M1, rg r → Q1 r M1 → AW (xC l D ad cA) (RX1, cc, nL, rt, rmL dl) Q (pc + 3) lv (vi r :: rest) M1) : AW (xC l D ad cA) (RX1, cc, nL, rt, rmL dl) Q pc lv (vi p0 :: .ref (ad 1) :: rest) M :=
  a_callV (X := (xC l D ad cA)) (mc' := mX2_sizeOf) (q := 1) (ci := 2) (N := 10) (n := 1) (As := [vi p0]) (rest := rest) (C := RX2) (T := TX2) (Nat.le_of_ble_eq_true rfl) rfl rfl (gtb_in (w := .methodLink RX1 105 yX2_sizeOf) (by decide +kernel) rfl) (gtb_in (by decide +kernel) rfl) (gtb_in (by decide +kernel) rfl) (gtb_in (by decide +kernel) rfl) (gtb_in (w := .code yX2_sizeOf cX2_sizeOf 2 (some .int)) (by decide +kernel) rfl) (by decide +kernel) rfl ⟨rfl, rfl⟩ (rm_ok hd (Nat.le_of_ble_eq_true rfl)) hrm rfl d hM (fun v M1 h => by obtain ⟨r, rfl, g, h⟩ := h; exact kk r M1 g h)
theorem kX3_92 {l : Launch} {D : va_G} {ad : Nat → Nat} {cA : Nat → ClassId} {cc : ByteArray} {nL : Nat} {rt : Option FieldType} {dl : Nat} {Q : Option Value → Mem → Prop} {pc : Nat} {lv : List (Nat × Value)} {rest : List Value} {M : Mem} {p0 : Int} {Q1 : Int → Mem → Prop} (hd : 1 + 1 ≤ dl) (hrm : (rest.map fun v => v.category).sum ≤ 8) (d : decode cc pc = .ok (.invokevirtual 92, 3)) (hM : AM (xC l D ad cA) yX2_sizeOf mX2_sizeOf [.ref (ad 1), vi p0] M (qI Q1)) (kk : ∀ r M1, rg r → Q1 r M1 → AW (xC l D ad cA) (RX3, cc, nL, rt, rmL dl) Q (pc + 3) lv (vi r :: rest) M1) : AW (xC l D ad cA) (RX3, cc, nL, rt, rmL dl) Q pc lv (vi p0 :: .ref (ad 1) :: rest) M :=
  a_callV (X := (xC l D ad cA)) (mc' := mX2_sizeOf) (q := 1) (ci := 2) (N := 10) (n := 1) (As := [vi p0]) (rest := rest) (C := RX2) (T := TX2) (Nat.le_of_ble_eq_true rfl) rfl rfl (gtb_in (w := .methodLink RX3 92 yX2_sizeOf) (by decide +kernel) rfl) (gtb_in (by decide +kernel) rfl) (gtb_in (by decide +kernel) rfl) (gtb_in (by decide +kernel) rfl) (gtb_in (w := .code yX2_sizeOf cX2_sizeOf 2 (some .int)) (by decide +kernel) rfl) (by decide +kernel) rfl ⟨rfl, rfl⟩ (rm_ok hd (Nat.le_of_ble_eq_true rfl)) hrm rfl d hM (fun v M1 h => by obtain ⟨r, rfl, g, h⟩ := h; exact kk r M1 g h)
theorem kX3_95 {l : Launch} {D : va_G} {ad : Nat → Nat} {cA : Nat → ClassId} {cc : ByteArray} {nL : Nat} {rt : Option FieldType} {dl : Nat} {Q : Option Value → Mem → Prop} {pc : Nat} {lv : List (Nat × Value)} {rest : List Value} {M : Mem} {p0 : Int} {Q1 : Int → Mem → Prop} (hd : 3 + 1 ≤ dl) (hrm : (rest.map fun v => v.category).sum ≤ 8) (d : decode cc pc = .ok (.invokevirtual 95, 3)) (hM : AM (xC l D ad cA) yX1_sizeUnfolded mX1_sizeUnfolded [.ref (ad 2), vi p0] M (qL Q1)) (kk : ∀ r M1, rl r → Q1 r M1 → AW (xC l D ad cA) (RX3, cc, nL, rt, rmL dl) Q (pc + 3) lv (vl r :: rest) M1) : AW (xC l D ad cA) (RX3, cc, nL, rt, rmL dl) Q pc lv (vi p0 :: .ref (ad 2) :: rest) M :=
  a_callV (X := (xC l D ad cA)) (mc' := mX1_sizeUnfolded) (q := 2) (ci := 1) (N := 8) (n := 1) (As := [vi p0]) (rest := rest) (C := RX1) (T := TX1) (Nat.le_of_ble_eq_true rfl) rfl rfl (gtb_in (w := .methodLink RX3 95 yX1_sizeUnfolded) (by decide +kernel) rfl) (gtb_in (by decide +kernel) rfl) (gtb_in (by decide +kernel) rfl) (gtb_in (by decide +kernel) rfl) (gtb_in (w := .code yX1_sizeUnfolded cX1_sizeUnfolded 7 (some .long)) (by decide +kernel) rfl) (by decide +kernel) rfl ⟨rfl, rfl⟩ (rm_ok hd (Nat.le_of_ble_eq_true rfl)) hrm rfl d hM (fun v M1 h => by obtain ⟨r, rfl, g, h⟩ := h; exact kk r M1 g h)
theorem kX3_99 {l : Launch} {D : va_G} {ad : Nat → Nat} {cA : Nat → ClassId} {cc : ByteArray} {nL : Nat} {rt : Option FieldType} {dl : Nat} {Q : Option Value → Mem → Prop} {pc : Nat} {lv : List (Nat × Value)} {rest : List Value} {M : Mem} {p0 : Int} {Q1 : Int → Mem → Prop} (hd : 9 + 1 ≤ dl) (hrm : (rest.map fun v => v.category).sum ≤ 8) (d : decode cc pc = .ok (.invokevirtual 99, 3)) (hM : AM (xC l D ad cA) yX1_sizeOfWhole mX1_sizeOfWhole [.ref (ad 2), vi p0] M (qL Q1)) (kk : ∀ r M1, rl r → Q1 r M1 → AW (xC l D ad cA) (RX3, cc, nL, rt, rmL dl) Q (pc + 3) lv (vl r :: rest) M1) : AW (xC l D ad cA) (RX3, cc, nL, rt, rmL dl) Q pc lv (vi p0 :: .ref (ad 2) :: rest) M :=
  a_callV (X := (xC l D ad cA)) (mc' := mX1_sizeOfWhole) (q := 2) (ci := 1) (N := 8) (n := 1) (As := [vi p0]) (rest := rest) (C := RX1) (T := TX1) (Nat.le_of_ble_eq_true rfl) rfl rfl (gtb_in (w := .methodLink RX3 99 yX1_sizeOfWhole) (by decide +kernel) rfl) (gtb_in (by decide +kernel) rfl) (gtb_in (by decide +kernel) rfl) (gtb_in (by decide +kernel) rfl) (gtb_in (w := .code yX1_sizeOfWhole cX1_sizeOfWhole 4 (some .long)) (by decide +kernel) rfl) (by decide +kernel) rfl ⟨rfl, rfl⟩ (rm_ok hd (Nat.le_of_ble_eq_true rfl)) hrm rfl d hM (fun v M1 h => by obtain ⟨r, rfl, g, h⟩ := h; exact kk r M1 g h)
theorem kX3_102 {l : Launch} {D : va_G} {ad : Nat → Nat} {cA : Nat → ClassId} {cc : ByteArray} {nL : Nat} {rt : Option FieldType} {dl : Nat} {Q : Option Value → Mem → Prop} {pc : Nat} {lv : List (Nat × Value)} {rest : List Value} {M : Mem} {p0 : Int} {Q1 : Int → Mem → Prop} (hd : 9 + 1 ≤ dl) (hrm : (rest.map fun v => v.category).sum ≤ 8) (d : decode cc pc = .ok (.invokevirtual 102, 3)) (hM : AM (xC l D ad cA) yX1_unfoldingsOutermost mX1_unfoldingsOutermost [.ref (ad 2), vi p0] M (qL Q1)) (kk : ∀ r M1, rl r → Q1 r M1 → AW (xC l D ad cA) (RX3, cc, nL, rt, rmL dl) Q (pc + 3) lv (vl r :: rest) M1) : AW (xC l D ad cA) (RX3, cc, nL, rt, rmL dl) Q pc lv (vi p0 :: .ref (ad 2) :: rest) M :=
  a_callV (X := (xC l D ad cA)) (mc' := mX1_unfoldingsOutermost) (q := 2) (ci := 1) (N := 8) (n := 1) (As := [vi p0]) (rest := rest) (C := RX1) (T := TX1) (Nat.le_of_ble_eq_true rfl) rfl rfl (gtb_in (w := .methodLink RX3 102 yX1_unfoldingsOutermost) (by decide +kernel) rfl) (gtb_in (by decide +kernel) rfl) (gtb_in (by decide +kernel) rfl) (gtb_in (by decide +kernel) rfl) (gtb_in (w := .code yX1_unfoldingsOutermost cX1_unfoldingsOutermost 2 (some .long)) (by decide +kernel) rfl) (by decide +kernel) rfl ⟨rfl, rfl⟩ (rm_ok hd (Nat.le_of_ble_eq_true rfl)) hrm rfl d hM (fun v M1 h => by obtain ⟨r, rfl, g, h⟩ := h; exact kk r M1 g h)
theorem kX3_105 {l : Launch} {D : va_G} {ad : Nat → Nat} {cA : Nat → ClassId} {cc : ByteArray} {nL : Nat} {rt : Option FieldType} {dl : Nat} {Q : Option Value → Mem → Prop} {pc : Nat} {lv : List (Nat × Value)} {rest : List Value} {M : Mem} {p0 : Int} {Q1 : Int → Mem → Prop} (hd : 2 + 1 ≤ dl) (hrm : (rest.map fun v => v.category).sum ≤ 8) (d : decode cc pc = .ok (.invokevirtual 105, 3)) (hM : AM (xC l D ad cA) yX1_frontOfWhole mX1_frontOfWhole [.ref (ad 2), vi p0] M (qI Q1)) (kk : ∀ r M1, rg r → Q1 r M1 → AW (xC l D ad cA) (RX3, cc, nL, rt, rmL dl) Q (pc + 3) lv (vi r :: rest) M1) : AW (xC l D ad cA) (RX3, cc, nL, rt, rmL dl) Q pc lv (vi p0 :: .ref (ad 2) :: rest) M :=
  a_callV (X := (xC l D ad cA)) (mc' := mX1_frontOfWhole) (q := 2) (ci := 1) (N := 8) (n := 1) (As := [vi p0]) (rest := rest) (C := RX1) (T := TX1) (Nat.le_of_ble_eq_true rfl) rfl rfl (gtb_in (w := .methodLink RX3 105 yX1_frontOfWhole) (by decide +kernel) rfl) (gtb_in (by decide +kernel) rfl) (gtb_in (by decide +kernel) rfl) (gtb_in (by decide +kernel) rfl) (gtb_in (w := .code yX1_frontOfWhole cX1_frontOfWhole 6 (some .int)) (by decide +kernel) rfl) (by decide +kernel) rfl ⟨rfl, rfl⟩ (rm_ok hd (Nat.le_of_ble_eq_true rfl)) hrm rfl d hM (fun v M1 h => by obtain ⟨r, rfl, g, h⟩ := h; exact kk r M1 g h)
theorem gfX0_28 {l : Launch} {D : va_G} {ad : Nat → Nat} {cA : Nat → ClassId} {cc : ByteArray} {nL : Nat} {rt : Option FieldType} {R : Room} {Q : Option Value → Mem → Prop} {pc : Nat} {lv : List (Nat × Value)} {st : List Value} {M : Mem} (d : decode cc pc = .ok (.getfield 28, 3)) (k : AW (xC l D ad cA) (RX0, cc, nL, rt, R) Q (pc + 3) lv (.ref (ad 1) :: st) M) : AW (xC l D ad cA) (RX0, cc, nL, rt, R) Q pc lv (.ref (ad 3) :: st) M :=
  a_get (X := (xC l D ad cA)) (q := 3) (ci := 0) (k := 0) (N := 13) (C := RX0) (T := TX0) (Nat.le_of_ble_eq_true rfl) rfl rfl inGX0 (Nat.le_of_ble_eq_true rfl) (gtb_in (w := .fieldLink RX0 28 (TX0 0).1 (TX0 0).2.1 (TX0 0).2.2.1) (by decide +kernel) rfl) rfl d k
theorem kX0_60 {l : Launch} {D : va_G} {ad : Nat → Nat} {cA : Nat → ClassId} {cc : ByteArray} {nL : Nat} {rt : Option FieldType} {dl : Nat} {Q : Option Value → Mem → Prop} {pc : Nat} {lv : List (Nat × Value)} {rest : List Value} {M : Mem} {Q1 : Mem → Prop} (hd : 0 + 1 ≤ dl) (hrm : (rest.map fun v => v.category).sum ≤ 8) (d : decode cc pc = .ok (.invokevirtual 60, 3)) (hM : AM (xC l D ad cA) yX2_dropNotMade mX2_dropNotMade [.ref (ad 1)] M (qV Q1)) (kk : ∀ M1, Q1 M1 → AW (xC l D ad cA) (RX0, cc, nL, rt, rmL dl) Q (pc + 3) lv rest M1) : AW (xC l D ad cA) (RX0, cc, nL, rt, rmL dl) Q pc lv (.ref (ad 1) :: rest) M :=
  a_callV (X := (xC l D ad cA)) (mc' := mX2_dropNotMade) (q := 1) (ci := 2) (N := 10) (n := 0) (As := []) (rest := rest) (C := RX2) (T := TX2) (Nat.le_of_ble_eq_true rfl) rfl rfl (gtb_in (w := .methodLink RX0 60 yX2_dropNotMade) (by decide +kernel) rfl) (gtb_in (by decide +kernel) rfl) (gtb_in (by decide +kernel) rfl) (gtb_in (by decide +kernel) rfl) (gtb_in (w := .code yX2_dropNotMade cX2_dropNotMade 1 none) (by decide +kernel) rfl) (by decide +kernel) rfl ⟨rfl, rfl⟩ (rm_ok hd (Nat.le_of_ble_eq_true rfl)) hrm rfl d hM (fun v M1 h => by obtain ⟨rfl, h⟩ := h; exact kk M1 h)
theorem gfX0_11 {l : Launch} {D : va_G} {ad : Nat → Nat} {cA : Nat → ClassId} {cc : ByteArray} {nL : Nat} {rt : Option FieldType} {R : Room} {Q : Option Value → Mem → Prop} {pc : Nat} {lv : List (Nat × Value)} {st : List Value} {M : Mem} (d : decode cc pc = .ok (.getfield 11, 3)) (k : AW (xC l D ad cA) (RX0, cc, nL, rt, R) Q (pc + 3) lv (.ref (ad 22) :: st) M) : AW (xC l D ad cA) (RX0, cc, nL, rt, R) Q pc lv (.ref (ad 3) :: st) M :=
  a_get (X := (xC l D ad cA)) (q := 3) (ci := 0) (k := 2) (N := 13) (C := RX0) (T := TX0) (Nat.le_of_ble_eq_true rfl) rfl rfl inGX0 (Nat.le_of_ble_eq_true rfl) (gtb_in (w := .fieldLink RX0 11 (TX0 2).1 (TX0 2).2.1 (TX0 2).2.2.1) (by decide +kernel) rfl) rfl d k
theorem kX0_69 {l : Launch} {D : va_G} {ad : Nat → Nat} {cA : Nat → ClassId} {cc : ByteArray} {nL : Nat} {rt : Option FieldType} {dl : Nat} {Q : Option Value → Mem → Prop} {pc : Nat} {lv : List (Nat × Value)} {rest : List Value} {M : Mem} {p1 : Int} {Q1 : Mem → Prop} (hd : 0 + 1 ≤ dl) (hrm : (rest.map fun v => v.category).sum ≤ 8) (d : decode cc pc = .ok (.invokestatic 69, 3)) (hM : AM (xC l D ad cA) yJ7_fill_d0a16 mJ7_fill_d0a16 [.ref (ad 22), vl p1] M (qV Q1)) (kk : ∀ M1, Q1 M1 → AW (xC l D ad cA) (RX0, cc, nL, rt, rmL dl) Q (pc + 3) lv rest M1) : AW (xC l D ad cA) (RX0, cc, nL, rt, rmL dl) Q pc lv (vl p1 :: .ref (ad 22) :: rest) M :=
  a_callS (X := (xC l D ad cA)) (mc' := mJ7_fill_d0a16) (n := 2) (As := [.ref (ad 22), vl p1]) (rest := rest) (gtb_in (w := .methodLink RX0 69 yJ7_fill_d0a16) (by decide +kernel) rfl) (gtb_in (by decide +kernel) rfl) (gtb_in (by decide +kernel) rfl) (gtb_in (w := .code yJ7_fill_d0a16 cJ7_fill_d0a16 5 none) (by decide +kernel) rfl) (by decide +kernel) rfl ⟨rfl, rfl⟩ (rm_ok hd (Nat.le_of_ble_eq_true rfl)) hrm rfl d hM (fun v M1 h => by obtain ⟨rfl, h⟩ := h; exact kk M1 h)
theorem pfX0_48 {l : Launch} {D : va_G} {ad : Nat → Nat} {cA : Nat → ClassId} {cc : ByteArray} {nL : Nat} {rt : Option FieldType} {R : Room} {Q : Option Value → Mem → Prop} {pc : Nat} {lv : List (Nat × Value)} {st : List Value} {M : Mem} {v : Int} (d : decode cc pc = .ok (.putfield 48, 3)) (g : rg v) (k : AW (xC l D ad cA) (RX0, cc, nL, rt, R) Q (pc + 3) lv st (up M 3 6 v)) : AW (xC l D ad cA) (RX0, cc, nL, rt, R) Q pc lv (vi v :: .ref (ad 3) :: st) M :=
  a_put (X := (xC l D ad cA)) (q := 3) (ci := 0) (k := 6) (N := 13) (C := RX0) (T := TX0) (ty := .int) (ty0 := tyX0) (Nat.le_of_ble_eq_true rfl) rfl rfl rfl inGX0 tyX0_ok nmX0 (Nat.le_of_ble_eq_true rfl) (gtb_in (w := .fieldLink RX0 48 (TX0 6).1 (TX0 6).2.1 (TX0 6).2.2.1) (by decide +kernel) rfl) rfl (by decide +kernel) rfl rfl (Nat.le_of_ble_eq_true rfl) rfl d g k
theorem pfX0_75 {l : Launch} {D : va_G} {ad : Nat → Nat} {cA : Nat → ClassId} {cc : ByteArray} {nL : Nat} {rt : Option FieldType} {R : Room} {Q : Option Value → Mem → Prop} {pc : Nat} {lv : List (Nat × Value)} {st : List Value} {M : Mem} {v : Int} (d : decode cc pc = .ok (.putfield 75, 3)) (g : rg v) (k : AW (xC l D ad cA) (RX0, cc, nL, rt, R) Q (pc + 3) lv st (up M 3 7 v)) : AW (xC l D ad cA) (RX0, cc, nL, rt, R) Q pc lv (vi v :: .ref (ad 3) :: st) M :=
  a_put (X := (xC l D ad cA)) (q := 3) (ci := 0) (k := 7) (N := 13) (C := RX0) (T := TX0) (ty := .int) (ty0 := tyX0) (Nat.le_of_ble_eq_true rfl) rfl rfl rfl inGX0 tyX0_ok nmX0 (Nat.le_of_ble_eq_true rfl) (gtb_in (w := .fieldLink RX0 75 (TX0 7).1 (TX0 7).2.1 (TX0 7).2.2.1) (by decide +kernel) rfl) rfl (by decide +kernel) rfl rfl (Nat.le_of_ble_eq_true rfl) rfl d g k
theorem pfX0_78 {l : Launch} {D : va_G} {ad : Nat → Nat} {cA : Nat → ClassId} {cc : ByteArray} {nL : Nat} {rt : Option FieldType} {R : Room} {Q : Option Value → Mem → Prop} {pc : Nat} {lv : List (Nat × Value)} {st : List Value} {M : Mem} {v : Int} (d : decode cc pc = .ok (.putfield 78, 3)) (g : rg v) (k : AW (xC l D ad cA) (RX0, cc, nL, rt, R) Q (pc + 3) lv st (up M 3 8 v)) : AW (xC l D ad cA) (RX0, cc, nL, rt, R) Q pc lv (vi v :: .ref (ad 3) :: st) M :=
  a_put (X := (xC l D ad cA)) (q := 3) (ci := 0) (k := 8) (N := 13) (C := RX0) (T := TX0) (ty := .int) (ty0 := tyX0) (Nat.le_of_ble_eq_true rfl) rfl rfl rfl inGX0 tyX0_ok nmX0 (Nat.le_of_ble_eq_true rfl) (gtb_in (w := .fieldLink RX0 78 (TX0 8).1 (TX0 8).2.1 (TX0 8).2.2.1) (by decide +kernel) rfl) rfl (by decide +kernel) rfl rfl (Nat.le_of_ble_eq_true rfl) rfl d g k
theorem pfX0_81 {l : Launch} {D : va_G} {ad : Nat → Nat} {cA : Nat → ClassId} {cc : ByteArray} {nL : Nat} {rt : Option FieldType} {R : Room} {Q : Option Value → Mem → Prop} {pc : Nat} {lv : List (Nat × Value)} {st : List Value} {M : Mem} {v : Int} (d : decode cc pc = .ok (.putfield 81, 3)) (g : rg v) (k : AW (xC l D ad cA) (RX0, cc, nL, rt, R) Q (pc + 3) lv st (up M 3 9 v)) : AW (xC l D ad cA) (RX0, cc, nL, rt, R) Q pc lv (vi v :: .ref (ad 3) :: st) M :=
  a_put (X := (xC l D ad cA)) (q := 3) (ci := 0) (k := 9) (N := 13) (C := RX0) (T := TX0) (ty := .int) (ty0 := tyX0) (Nat.le_of_ble_eq_true rfl) rfl rfl rfl inGX0 tyX0_ok nmX0 (Nat.le_of_ble_eq_true rfl) (gtb_in (w := .fieldLink RX0 81 (TX0 9).1 (TX0 9).2.1 (TX0 9).2.2.1) (by decide +kernel) rfl) rfl (by decide +kernel) rfl rfl (Nat.le_of_ble_eq_true rfl) rfl d g k
theorem pfX0_84 {l : Launch} {D : va_G} {ad : Nat → Nat} {cA : Nat → ClassId} {cc : ByteArray} {nL : Nat} {rt : Option FieldType} {R : Room} {Q : Option Value → Mem → Prop} {pc : Nat} {lv : List (Nat × Value)} {st : List Value} {M : Mem} {v : Int} (d : decode cc pc = .ok (.putfield 84, 3)) (g : rg v) (k : AW (xC l D ad cA) (RX0, cc, nL, rt, R) Q (pc + 3) lv st (up M 3 10 v)) : AW (xC l D ad cA) (RX0, cc, nL, rt, R) Q pc lv (vi v :: .ref (ad 3) :: st) M :=
  a_put (X := (xC l D ad cA)) (q := 3) (ci := 0) (k := 10) (N := 13) (C := RX0) (T := TX0) (ty := .int) (ty0 := tyX0) (Nat.le_of_ble_eq_true rfl) rfl rfl rfl inGX0 tyX0_ok nmX0 (Nat.le_of_ble_eq_true rfl) (gtb_in (w := .fieldLink RX0 84 (TX0 10).1 (TX0 10).2.1 (TX0 10).2.2.1) (by decide +kernel) rfl) rfl (by decide +kernel) rfl rfl (Nat.le_of_ble_eq_true rfl) rfl d g k
theorem kX0_87 {l : Launch} {D : va_G} {ad : Nat → Nat} {cA : Nat → ClassId} {cc : ByteArray} {nL : Nat} {rt : Option FieldType} {dl : Nat} {Q : Option Value → Mem → Prop} {pc : Nat} {lv : List (Nat × Value)} {rest : List Value} {M : Mem} {p0 : Int} {Q1 : Int → Mem → Prop} (hd : 0 + 1 ≤ dl) (hrm : (rest.map fun v => v.category).sum ≤ 8) (d : decode cc pc = .ok (.invokevirtual 87, 3)) (hM : AM (xC l D ad cA) yX2_isHeld mX2_isHeld [.ref (ad 1), vi p0] M (qI Q1)) (kk : ∀ r M1, rg r → Q1 r M1 → AW (xC l D ad cA) (RX0, cc, nL, rt, rmL dl) Q (pc + 3) lv (vi r :: rest) M1) : AW (xC l D ad cA) (RX0, cc, nL, rt, rmL dl) Q pc lv (vi p0 :: .ref (ad 1) :: rest) M :=
  a_callV (X := (xC l D ad cA)) (mc' := mX2_isHeld) (q := 1) (ci := 2) (N := 10) (n := 1) (As := [vi p0]) (rest := rest) (C := RX2) (T := TX2) (Nat.le_of_ble_eq_true rfl) rfl rfl (gtb_in (w := .methodLink RX0 87 yX2_isHeld) (by decide +kernel) rfl) (gtb_in (by decide +kernel) rfl) (gtb_in (by decide +kernel) rfl) (gtb_in (by decide +kernel) rfl) (gtb_in (w := .code yX2_isHeld cX2_isHeld 2 (some .boolean)) (by decide +kernel) rfl) (by decide +kernel) rfl ⟨rfl, rfl⟩ (rm_ok hd (Nat.le_of_ble_eq_true rfl)) hrm rfl d hM (fun v M1 h => by obtain ⟨r, rfl, g, h⟩ := h; exact kk r M1 g h)
theorem kX0_155 {l : Launch} {D : va_G} {ad : Nat → Nat} {cA : Nat → ClassId} {cc : ByteArray} {nL : Nat} {rt : Option FieldType} {dl : Nat} {Q : Option Value → Mem → Prop} {pc : Nat} {lv : List (Nat × Value)} {rest : List Value} {M : Mem} {p0 p1 : Int} {Q1 : Int → Mem → Prop} (hd : 0 + 1 ≤ dl) (hrm : (rest.map fun v => v.category).sum ≤ 8) (d : decode cc pc = .ok (.invokestatic 155, 3)) (hM : AM (xC l D ad cA) yX0_wordOf mX0_wordOf [vi p0, vi p1] M (qI Q1)) (kk : ∀ r M1, rg r → Q1 r M1 → AW (xC l D ad cA) (RX0, cc, nL, rt, rmL dl) Q (pc + 3) lv (vi r :: rest) M1) : AW (xC l D ad cA) (RX0, cc, nL, rt, rmL dl) Q pc lv (vi p1 :: vi p0 :: rest) M :=
  a_callS (X := (xC l D ad cA)) (mc' := mX0_wordOf) (n := 2) (As := [vi p0, vi p1]) (rest := rest) (gtb_in (w := .methodLink RX0 155 yX0_wordOf) (by decide +kernel) rfl) (gtb_in (by decide +kernel) rfl) (gtb_in (by decide +kernel) rfl) (gtb_in (w := .code yX0_wordOf cX0_wordOf 2 (some .int)) (by decide +kernel) rfl) (by decide +kernel) rfl ⟨rfl, rfl⟩ (rm_ok hd (Nat.le_of_ble_eq_true rfl)) hrm rfl d hM (fun v M1 h => by obtain ⟨r, rfl, g, h⟩ := h; exact kk r M1 g h)
theorem kX0_158 {l : Launch} {D : va_G} {ad : Nat → Nat} {cA : Nat → ClassId} {cc : ByteArray} {nL : Nat} {rt : Option FieldType} {dl : Nat} {Q : Option Value → Mem → Prop} {pc : Nat} {lv : List (Nat × Value)} {rest : List Value} {M : Mem} {p0 : Int} {Q1 : Int → Mem → Prop} (hd : 0 + 1 ≤ dl) (hrm : (rest.map fun v => v.category).sum ≤ 8) (d : decode cc pc = .ok (.invokestatic 158, 3)) (hM : AM (xC l D ad cA) yX0_shiftOf mX0_shiftOf [vi p0] M (qI Q1)) (kk : ∀ r M1, rg r → Q1 r M1 → AW (xC l D ad cA) (RX0, cc, nL, rt, rmL dl) Q (pc + 3) lv (vi r :: rest) M1) : AW (xC l D ad cA) (RX0, cc, nL, rt, rmL dl) Q pc lv (vi p0 :: rest) M :=
  a_callS (X := (xC l D ad cA)) (mc' := mX0_shiftOf) (n := 1) (As := [vi p0]) (rest := rest) (gtb_in (w := .methodLink RX0 158 yX0_shiftOf) (by decide +kernel) rfl) (gtb_in (by decide +kernel) rfl) (gtb_in (by decide +kernel) rfl) (gtb_in (w := .code yX0_shiftOf cX0_shiftOf 1 (some .int)) (by decide +kernel) rfl) (by decide +kernel) rfl ⟨rfl, rfl⟩ (rm_ok hd (Nat.le_of_ble_eq_true rfl)) hrm rfl d hM (fun v M1 h => by obtain ⟨r, rfl, g, h⟩ := h; exact kk r M1 g h)
theorem kX0_91 {l : Launch} {D : va_G} {ad : Nat → Nat} {cA : Nat → ClassId} {cc : ByteArray} {nL : Nat} {rt : Option FieldType} {dl : Nat} {Q : Option Value → Mem → Prop} {pc : Nat} {lv : List (Nat × Value)} {rest : List Value} {M : Mem} {p0 p1 : Int} {Q1 : Int → Mem → Prop} (hd : 1 + 1 ≤ dl) (hrm : (rest.map fun v => v.category).sum ≤ 8) (d : decode cc pc = .ok (.invokevirtual 91, 3)) (hM : AM (xC l D ad cA) yX0_judgment mX0_judgment [.ref (ad 3), vi p0, vi p1] M (qI Q1)) (kk : ∀ r M1, rg r → Q1 r M1 → AW (xC l D ad cA) (RX0, cc, nL, rt, rmL dl) Q (pc + 3) lv (vi r :: rest) M1) : AW (xC l D ad cA) (RX0, cc, nL, rt, rmL dl) Q pc lv (vi p1 :: vi p0 :: .ref (ad 3) :: rest) M :=
  a_callV (X := (xC l D ad cA)) (mc' := mX0_judgment) (q := 3) (ci := 0) (N := 13) (n := 2) (As := [vi p0, vi p1]) (rest := rest) (C := RX0) (T := TX0) (Nat.le_of_ble_eq_true rfl) rfl rfl (gtb_in (w := .methodLink RX0 91 yX0_judgment) (by decide +kernel) rfl) (gtb_in (by decide +kernel) rfl) (gtb_in (by decide +kernel) rfl) (gtb_in (by decide +kernel) rfl) (gtb_in (w := .code yX0_judgment cX0_judgment 4 (some .int)) (by decide +kernel) rfl) (by decide +kernel) rfl ⟨rfl, rfl⟩ (rm_ok hd (Nat.le_of_ble_eq_true rfl)) hrm rfl d hM (fun v M1 h => by obtain ⟨r, rfl, g, h⟩ := h; exact kk r M1 g h)
theorem gfX0_48 {l : Launch} {D : va_G} {ad : Nat → Nat} {cA : Nat → ClassId} {cc : ByteArray} {nL : Nat} {rt : Option FieldType} {R : Room} {Q : Option Value → Mem → Prop} {pc : Nat} {lv : List (Nat × Value)} {st : List Value} {M : Mem} (d : decode cc pc = .ok (.getfield 48, 3)) (k : rg (M 3 6) → AW (xC l D ad cA) (RX0, cc, nL, rt, R) Q (pc + 3) lv (vi (M 3 6) :: st) M) : AW (xC l D ad cA) (RX0, cc, nL, rt, R) Q pc lv (.ref (ad 3) :: st) M :=
  a_get (X := (xC l D ad cA)) (q := 3) (ci := 0) (k := 6) (N := 13) (C := RX0) (T := TX0) (Nat.le_of_ble_eq_true rfl) rfl rfl inGX0 (Nat.le_of_ble_eq_true rfl) (gtb_in (w := .fieldLink RX0 48 (TX0 6).1 (TX0 6).2.1 (TX0 6).2.2.1) (by decide +kernel) rfl) rfl d (AW.rng (fun hR => k (hR.i rfl _)))
theorem gfX0_15 {l : Launch} {D : va_G} {ad : Nat → Nat} {cA : Nat → ClassId} {cc : ByteArray} {nL : Nat} {rt : Option FieldType} {R : Room} {Q : Option Value → Mem → Prop} {pc : Nat} {lv : List (Nat × Value)} {st : List Value} {M : Mem} (d : decode cc pc = .ok (.getfield 15, 3)) (k : AW (xC l D ad cA) (RX0, cc, nL, rt, R) Q (pc + 3) lv (.ref (ad 23) :: st) M) : AW (xC l D ad cA) (RX0, cc, nL, rt, R) Q pc lv (.ref (ad 3) :: st) M :=
  a_get (X := (xC l D ad cA)) (q := 3) (ci := 0) (k := 3) (N := 13) (C := RX0) (T := TX0) (Nat.le_of_ble_eq_true rfl) rfl rfl inGX0 (Nat.le_of_ble_eq_true rfl) (gtb_in (w := .fieldLink RX0 15 (TX0 3).1 (TX0 3).2.1 (TX0 3).2.2.1) (by decide +kernel) rfl) rfl d k
theorem gfX0_19 {l : Launch} {D : va_G} {ad : Nat → Nat} {cA : Nat → ClassId} {cc : ByteArray} {nL : Nat} {rt : Option FieldType} {R : Room} {Q : Option Value → Mem → Prop} {pc : Nat} {lv : List (Nat × Value)} {st : List Value} {M : Mem} (d : decode cc pc = .ok (.getfield 19, 3)) (k : AW (xC l D ad cA) (RX0, cc, nL, rt, R) Q (pc + 3) lv (.ref (ad 24) :: st) M) : AW (xC l D ad cA) (RX0, cc, nL, rt, R) Q pc lv (.ref (ad 3) :: st) M :=
  a_get (X := (xC l D ad cA)) (q := 3) (ci := 0) (k := 4) (N := 13) (C := RX0) (T := TX0) (Nat.le_of_ble_eq_true rfl) rfl rfl inGX0 (Nat.le_of_ble_eq_true rfl) (gtb_in (w := .fieldLink RX0 19 (TX0 4).1 (TX0 4).2.1 (TX0 4).2.2.1) (by decide +kernel) rfl) rfl d k
theorem gfX0_78 {l : Launch} {D : va_G} {ad : Nat → Nat} {cA : Nat → ClassId} {cc : ByteArray} {nL : Nat} {rt : Option FieldType} {R : Room} {Q : Option Value → Mem → Prop} {pc : Nat} {lv : List (Nat × Value)} {st : List Value} {M : Mem} (d : decode cc pc = .ok (.getfield 78, 3)) (k : rg (M 3 8) → AW (xC l D ad cA) (RX0, cc, nL, rt, R) Q (pc + 3) lv (vi (M 3 8) :: st) M) : AW (xC l D ad cA) (RX0, cc, nL, rt, R) Q pc lv (.ref (ad 3) :: st) M :=
  a_get (X := (xC l D ad cA)) (q := 3) (ci := 0) (k := 8) (N := 13) (C := RX0) (T := TX0) (Nat.le_of_ble_eq_true rfl) rfl rfl inGX0 (Nat.le_of_ble_eq_true rfl) (gtb_in (w := .fieldLink RX0 78 (TX0 8).1 (TX0 8).2.1 (TX0 8).2.2.1) (by decide +kernel) rfl) rfl d (AW.rng (fun hR => k (hR.i rfl _)))
theorem kX0_151 {l : Launch} {D : va_G} {ad : Nat → Nat} {cA : Nat → ClassId} {cc : ByteArray} {nL : Nat} {rt : Option FieldType} {dl : Nat} {Q : Option Value → Mem → Prop} {pc : Nat} {lv : List (Nat × Value)} {rest : List Value} {M : Mem} {Q1 : Int → Mem → Prop} (hd : 0 + 1 ≤ dl) (hrm : (rest.map fun v => v.category).sum ≤ 8) (d : decode cc pc = .ok (.invokevirtual 151, 3)) (hM : AM (xC l D ad cA) yX0_hasLast mX0_hasLast [.ref (ad 3)] M (qI Q1)) (kk : ∀ r M1, rg r → Q1 r M1 → AW (xC l D ad cA) (RX0, cc, nL, rt, rmL dl) Q (pc + 3) lv (vi r :: rest) M1) : AW (xC l D ad cA) (RX0, cc, nL, rt, rmL dl) Q pc lv (.ref (ad 3) :: rest) M :=
  a_callV (X := (xC l D ad cA)) (mc' := mX0_hasLast) (q := 3) (ci := 0) (N := 13) (n := 0) (As := []) (rest := rest) (C := RX0) (T := TX0) (Nat.le_of_ble_eq_true rfl) rfl rfl (gtb_in (w := .methodLink RX0 151 yX0_hasLast) (by decide +kernel) rfl) (gtb_in (by decide +kernel) rfl) (gtb_in (by decide +kernel) rfl) (gtb_in (by decide +kernel) rfl) (gtb_in (w := .code yX0_hasLast cX0_hasLast 1 (some .boolean)) (by decide +kernel) rfl) (by decide +kernel) rfl ⟨rfl, rfl⟩ (rm_ok hd (Nat.le_of_ble_eq_true rfl)) hrm rfl d hM (fun v M1 h => by obtain ⟨r, rfl, g, h⟩ := h; exact kk r M1 g h)
theorem gfX0_22 {l : Launch} {D : va_G} {ad : Nat → Nat} {cA : Nat → ClassId} {cc : ByteArray} {nL : Nat} {rt : Option FieldType} {R : Room} {Q : Option Value → Mem → Prop} {pc : Nat} {lv : List (Nat × Value)} {st : List Value} {M : Mem} (d : decode cc pc = .ok (.getfield 22, 3)) (k : AW (xC l D ad cA) (RX0, cc, nL, rt, R) Q (pc + 3) lv (.ref (ad 25) :: st) M) : AW (xC l D ad cA) (RX0, cc, nL, rt, R) Q pc lv (.ref (ad 3) :: st) M :=
  a_get (X := (xC l D ad cA)) (q := 3) (ci := 0) (k := 5) (N := 13) (C := RX0) (T := TX0) (Nat.le_of_ble_eq_true rfl) rfl rfl inGX0 (Nat.le_of_ble_eq_true rfl) (gtb_in (w := .fieldLink RX0 22 (TX0 5).1 (TX0 5).2.1 (TX0 5).2.2.1) (by decide +kernel) rfl) rfl d k
theorem kX0_127 {l : Launch} {D : va_G} {ad : Nat → Nat} {cA : Nat → ClassId} {cc : ByteArray} {nL : Nat} {rt : Option FieldType} {dl : Nat} {Q : Option Value → Mem → Prop} {pc : Nat} {lv : List (Nat × Value)} {rest : List Value} {M : Mem} {p0 : Int} {Q1 : Mem → Prop} (hd : 1 + 1 ≤ dl) (hrm : (rest.map fun v => v.category).sum ≤ 8) (d : decode cc pc = .ok (.invokevirtual 127, 3)) (hM : AM (xC l D ad cA) yX0_setLastWaitsFor mX0_setLastWaitsFor [.ref (ad 3), vi p0] M (qV Q1)) (kk : ∀ M1, Q1 M1 → AW (xC l D ad cA) (RX0, cc, nL, rt, rmL dl) Q (pc + 3) lv rest M1) : AW (xC l D ad cA) (RX0, cc, nL, rt, rmL dl) Q pc lv (vi p0 :: .ref (ad 3) :: rest) M :=
  a_callV (X := (xC l D ad cA)) (mc' := mX0_setLastWaitsFor) (q := 3) (ci := 0) (N := 13) (n := 1) (As := [vi p0]) (rest := rest) (C := RX0) (T := TX0) (Nat.le_of_ble_eq_true rfl) rfl rfl (gtb_in (w := .methodLink RX0 127 yX0_setLastWaitsFor) (by decide +kernel) rfl) (gtb_in (by decide +kernel) rfl) (gtb_in (by decide +kernel) rfl) (gtb_in (by decide +kernel) rfl) (gtb_in (w := .code yX0_setLastWaitsFor cX0_setLastWaitsFor 2 none) (by decide +kernel) rfl) (by decide +kernel) rfl ⟨rfl, rfl⟩ (rm_ok hd (Nat.le_of_ble_eq_true rfl)) hrm rfl d hM (fun v M1 h => by obtain ⟨rfl, h⟩ := h; exact kk M1 h)
theorem kX0_94 {l : Launch} {D : va_G} {ad : Nat → Nat} {cA : Nat → ClassId} {cc : ByteArray} {nL : Nat} {rt : Option FieldType} {dl : Nat} {Q : Option Value → Mem → Prop} {pc : Nat} {lv : List (Nat × Value)} {rest : List Value} {M : Mem} {Q1 : Int → Mem → Prop} (hd : 1 + 1 ≤ dl) (hrm : (rest.map fun v => v.category).sum ≤ 8) (d : decode cc pc = .ok (.invokevirtual 94, 3)) (hM : AM (xC l D ad cA) yX0_lastX mX0_lastX [.ref (ad 3)] M (qI Q1)) (kk : ∀ r M1, rg r → Q1 r M1 → AW (xC l D ad cA) (RX0, cc, nL, rt, rmL dl) Q (pc + 3) lv (vi r :: rest) M1) : AW (xC l D ad cA) (RX0, cc, nL, rt, rmL dl) Q pc lv (.ref (ad 3) :: rest) M :=
  a_callV (X := (xC l D ad cA)) (mc' := mX0_lastX) (q := 3) (ci := 0) (N := 13) (n := 0) (As := []) (rest := rest) (C := RX0) (T := TX0) (Nat.le_of_ble_eq_true rfl) rfl rfl (gtb_in (w := .methodLink RX0 94 yX0_lastX) (by decide +kernel) rfl) (gtb_in (by decide +kernel) rfl) (gtb_in (by decide +kernel) rfl) (gtb_in (by decide +kernel) rfl) (gtb_in (w := .code yX0_lastX cX0_lastX 1 (some .int)) (by decide +kernel) rfl) (by decide +kernel) rfl ⟨rfl, rfl⟩ (rm_ok hd (Nat.le_of_ble_eq_true rfl)) hrm rfl d hM (fun v M1 h => by obtain ⟨r, rfl, g, h⟩ := h; exact kk r M1 g h)
theorem kX0_130 {l : Launch} {D : va_G} {ad : Nat → Nat} {cA : Nat → ClassId} {cc : ByteArray} {nL : Nat} {rt : Option FieldType} {dl : Nat} {Q : Option Value → Mem → Prop} {pc : Nat} {lv : List (Nat × Value)} {rest : List Value} {M : Mem} {p0 p1 : Int} {Q1 : Int → Mem → Prop} (hd : 1 + 1 ≤ dl) (hrm : (rest.map fun v => v.category).sum ≤ 8) (d : decode cc pc = .ok (.invokevirtual 130, 3)) (hM : AM (xC l D ad cA) yX2_partOf mX2_partOf [.ref (ad 1), vi p0, vi p1] M (qI Q1)) (kk : ∀ r M1, rg r → Q1 r M1 → AW (xC l D ad cA) (RX0, cc, nL, rt, rmL dl) Q (pc + 3) lv (vi r :: rest) M1) : AW (xC l D ad cA) (RX0, cc, nL, rt, rmL dl) Q pc lv (vi p1 :: vi p0 :: .ref (ad 1) :: rest) M :=
  a_callV (X := (xC l D ad cA)) (mc' := mX2_partOf) (q := 1) (ci := 2) (N := 10) (n := 2) (As := [vi p0, vi p1]) (rest := rest) (C := RX2) (T := TX2) (Nat.le_of_ble_eq_true rfl) rfl rfl (gtb_in (w := .methodLink RX0 130 yX2_partOf) (by decide +kernel) rfl) (gtb_in (by decide +kernel) rfl) (gtb_in (by decide +kernel) rfl) (gtb_in (by decide +kernel) rfl) (gtb_in (w := .code yX2_partOf cX2_partOf 3 (some .int)) (by decide +kernel) rfl) (by decide +kernel) rfl ⟨rfl, rfl⟩ (rm_ok hd (Nat.le_of_ble_eq_true rfl)) hrm rfl d hM (fun v M1 h => by obtain ⟨r, rfl, g, h⟩ := h; exact kk r M1 g h)
theorem kX0_100 {l : Launch} {D : va_G} {ad : Nat → Nat} {cA : Nat → ClassId} {cc : ByteArray} {nL : Nat} {rt : Option FieldType} {dl : Nat} {Q : Option Value → Mem → Prop} {pc : Nat} {lv : List (Nat × Value)} {rest : List Value} {M : Mem} {Q1 : Int → Mem → Prop} (hd : 1 + 1 ≤ dl) (hrm : (rest.map fun v => v.category).sum ≤ 8) (d : decode cc pc = .ok (.invokevirtual 100, 3)) (hM : AM (xC l D ad cA) yX0_lastY mX0_lastY [.ref (ad 3)] M (qI Q1)) (kk : ∀ r M1, rg r → Q1 r M1 → AW (xC l D ad cA) (RX0, cc, nL, rt, rmL dl) Q (pc + 3) lv (vi r :: rest) M1) : AW (xC l D ad cA) (RX0, cc, nL, rt, rmL dl) Q pc lv (.ref (ad 3) :: rest) M :=
  a_callV (X := (xC l D ad cA)) (mc' := mX0_lastY) (q := 3) (ci := 0) (N := 13) (n := 0) (As := []) (rest := rest) (C := RX0) (T := TX0) (Nat.le_of_ble_eq_true rfl) rfl rfl (gtb_in (w := .methodLink RX0 100 yX0_lastY) (by decide +kernel) rfl) (gtb_in (by decide +kernel) rfl) (gtb_in (by decide +kernel) rfl) (gtb_in (by decide +kernel) rfl) (gtb_in (w := .code yX0_lastY cX0_lastY 1 (some .int)) (by decide +kernel) rfl) (by decide +kernel) rfl ⟨rfl, rfl⟩ (rm_ok hd (Nat.le_of_ble_eq_true rfl)) hrm rfl d hM (fun v M1 h => by obtain ⟨r, rfl, g, h⟩ := h; exact kk r M1 g h)
theorem kX0_43 {l : Launch} {D : va_G} {ad : Nat → Nat} {cA : Nat → ClassId} {cc : ByteArray} {nL : Nat} {rt : Option FieldType} {dl : Nat} {Q : Option Value → Mem → Prop} {pc : Nat} {lv : List (Nat × Value)} {rest : List Value} {M : Mem} {p0 p1 : Int} {Q1 : Int → Mem → Prop} (hd : 2 + 1 ≤ dl) (hrm : (rest.map fun v => v.category).sum ≤ 8) (d : decode cc pc = .ok (.invokevirtual 43, 3)) (hM : AM (xC l D ad cA) yX0_meet mX0_meet [.ref (ad 3), vi p0, vi p1] M (qI Q1)) (kk : ∀ r M1, rg r → Q1 r M1 → AW (xC l D ad cA) (RX0, cc, nL, rt, rmL dl) Q (pc + 3) lv (vi r :: rest) M1) : AW (xC l D ad cA) (RX0, cc, nL, rt, rmL dl) Q pc lv (vi p1 :: vi p0 :: .ref (ad 3) :: rest) M :=
  a_callV (X := (xC l D ad cA)) (mc' := mX0_meet) (q := 3) (ci := 0) (N := 13) (n := 2) (As := [vi p0, vi p1]) (rest := rest) (C := RX0) (T := TX0) (Nat.le_of_ble_eq_true rfl) rfl rfl (gtb_in (w := .methodLink RX0 43 yX0_meet) (by decide +kernel) rfl) (gtb_in (by decide +kernel) rfl) (gtb_in (by decide +kernel) rfl) (gtb_in (by decide +kernel) rfl) (gtb_in (w := .code yX0_meet cX0_meet 4 (some .int)) (by decide +kernel) rfl) (by decide +kernel) rfl ⟨rfl, rfl⟩ (rm_ok hd (Nat.le_of_ble_eq_true rfl)) hrm rfl d hM (fun v M1 h => by obtain ⟨r, rfl, g, h⟩ := h; exact kk r M1 g h)
theorem kX2_77 {l : Launch} {D : va_G} {ad : Nat → Nat} {cA : Nat → ClassId} {cc : ByteArray} {nL : Nat} {rt : Option FieldType} {dl fu : Nat} {Q : Option Value → Mem → Prop} {pc : Nat} {lv : List (Nat × Value)} {rest : List Value} {M : Mem} {p0 p1 p2 p3 : Int} {Q1 : Int → Mem → Prop} (hd : (1 + fu) + 1 ≤ dl) (hrm : (rest.map fun v => v.category).sum ≤ 8) (d : decode cc pc = .ok (.invokevirtual 77, 3)) (hM : AM (xC l D ad cA) yX2_filled (mX2_filled fu) [.ref (ad 1), vi p0, vi p1, vi p2, vi p3] M (qI Q1)) (kk : ∀ r M1, rg r → Q1 r M1 → AW (xC l D ad cA) (RX2, cc, nL, rt, rmL dl) Q (pc + 3) lv (vi r :: rest) M1) : AW (xC l D ad cA) (RX2, cc, nL, rt, rmL dl) Q pc lv (vi p3 :: vi p2 :: vi p1 :: vi p0 :: .ref (ad 1) :: rest) M :=
  a_callV (X := (xC l D ad cA)) (mc' := (mX2_filled fu)) (q := 1) (ci := 2) (N := 10) (n := 4) (As := [vi p0, vi p1, vi p2, vi p3]) (rest := rest) (C := RX2) (T := TX2) (Nat.le_of_ble_eq_true rfl) rfl rfl (gtb_in (w := .methodLink RX2 77 yX2_filled) (by decide +kernel) rfl) (gtb_in (by decide +kernel) rfl) (gtb_in (by decide +kernel) rfl) (gtb_in (by decide +kernel) rfl) (gtb_in (w := .code yX2_filled cX2_filled 9 (some .int)) (by decide +kernel) rfl) (by decide +kernel) rfl ⟨rfl, rfl⟩ (rm_ok hd (Nat.le_of_ble_eq_true rfl)) hrm rfl d hM (fun v M1 h => by obtain ⟨r, rfl, g, h⟩ := h; exact kk r M1 g h)
theorem gfX0_32 {l : Launch} {D : va_G} {ad : Nat → Nat} {cA : Nat → ClassId} {cc : ByteArray} {nL : Nat} {rt : Option FieldType} {R : Room} {Q : Option Value → Mem → Prop} {pc : Nat} {lv : List (Nat × Value)} {st : List Value} {M : Mem} (d : decode cc pc = .ok (.getfield 32, 3)) (k : AW (xC l D ad cA) (RX0, cc, nL, rt, R) Q (pc + 3) lv (.ref (ad 2) :: st) M) : AW (xC l D ad cA) (RX0, cc, nL, rt, R) Q pc lv (.ref (ad 3) :: st) M :=
  a_get (X := (xC l D ad cA)) (q := 3) (ci := 0) (k := 1) (N := 13) (C := RX0) (T := TX0) (Nat.le_of_ble_eq_true rfl) rfl rfl inGX0 (Nat.le_of_ble_eq_true rfl) (gtb_in (w := .fieldLink RX0 32 (TX0 1).1 (TX0 1).2.1 (TX0 1).2.2.1) (by decide +kernel) rfl) rfl d k
theorem kX0_97 {l : Launch} {D : va_G} {ad : Nat → Nat} {cA : Nat → ClassId} {cc : ByteArray} {nL : Nat} {rt : Option FieldType} {dl : Nat} {Q : Option Value → Mem → Prop} {pc : Nat} {lv : List (Nat × Value)} {rest : List Value} {M : Mem} {p0 : Int} {Q1 : Int → Mem → Prop} (hd : 1 + 1 ≤ dl) (hrm : (rest.map fun v => v.category).sum ≤ 8) (d : decode cc pc = .ok (.invokevirtual 97, 3)) (hM : AM (xC l D ad cA) yX2_frontOf mX2_frontOf [.ref (ad 1), vi p0] M (qI Q1)) (kk : ∀ r M1, rg r → Q1 r M1 → AW (xC l D ad cA) (RX0, cc, nL, rt, rmL dl) Q (pc + 3) lv (vi r :: rest) M1) : AW (xC l D ad cA) (RX0, cc, nL, rt, rmL dl) Q pc lv (vi p0 :: .ref (ad 1) :: rest) M :=
  a_callV (X := (xC l D ad cA)) (mc' := mX2_frontOf) (q := 1) (ci := 2) (N := 10) (n := 1) (As := [vi p0]) (rest := rest) (C := RX2) (T := TX2) (Nat.le_of_ble_eq_true rfl) rfl rfl (gtb_in (w := .methodLink RX0 97 yX2_frontOf) (by decide +kernel) rfl) (gtb_in (by decide +kernel) rfl) (gtb_in (by decide +kernel) rfl) (gtb_in (by decide +kernel) rfl) (gtb_in (w := .code yX2_frontOf cX2_frontOf 2 (some .int)) (by decide +kernel) rfl) (by decide +kernel) rfl ⟨rfl, rfl⟩ (rm_ok hd (Nat.le_of_ble_eq_true rfl)) hrm rfl d hM (fun v M1 h => by obtain ⟨r, rfl, g, h⟩ := h; exact kk r M1 g h)
theorem kX0_136 {l : Launch} {D : va_G} {ad : Nat → Nat} {cA : Nat → ClassId} {cc : ByteArray} {nL : Nat} {rt : Option FieldType} {dl : Nat} {Q : Option Value → Mem → Prop} {pc : Nat} {lv : List (Nat × Value)} {rest : List Value} {M : Mem} {p0 : Int} {Q1 : Int → Mem → Prop} (hd : 1 + 1 ≤ dl) (hrm : (rest.map fun v => v.category).sum ≤ 8) (d : decode cc pc = .ok (.invokevirtual 136, 3)) (hM : AM (xC l D ad cA) yX1_definitionOf mX1_definitionOf [.ref (ad 2), vi p0] M (qI Q1)) (kk : ∀ r M1, rg r → Q1 r M1 → AW (xC l D ad cA) (RX0, cc, nL, rt, rmL dl) Q (pc + 3) lv (vi r :: rest) M1) : AW (xC l D ad cA) (RX0, cc, nL, rt, rmL dl) Q pc lv (vi p0 :: .ref (ad 2) :: rest) M :=
  a_callV (X := (xC l D ad cA)) (mc' := mX1_definitionOf) (q := 2) (ci := 1) (N := 8) (n := 1) (As := [vi p0]) (rest := rest) (C := RX1) (T := TX1) (Nat.le_of_ble_eq_true rfl) rfl rfl (gtb_in (w := .methodLink RX0 136 yX1_definitionOf) (by decide +kernel) rfl) (gtb_in (by decide +kernel) rfl) (gtb_in (by decide +kernel) rfl) (gtb_in (by decide +kernel) rfl) (gtb_in (w := .code yX1_definitionOf cX1_definitionOf 2 (some .int)) (by decide +kernel) rfl) (by decide +kernel) rfl ⟨rfl, rfl⟩ (rm_ok hd (Nat.le_of_ble_eq_true rfl)) hrm rfl d hM (fun v M1 h => by obtain ⟨r, rfl, g, h⟩ := h; exact kk r M1 g h)
theorem kX0_139 {l : Launch} {D : va_G} {ad : Nat → Nat} {cA : Nat → ClassId} {cc : ByteArray} {nL : Nat} {rt : Option FieldType} {dl : Nat} {Q : Option Value → Mem → Prop} {pc : Nat} {lv : List (Nat × Value)} {rest : List Value} {M : Mem} {p0 p1 p2 : Int} {Q1 : Int → Mem → Prop} (hd : 8 + 1 ≤ dl) (hrm : (rest.map fun v => v.category).sum ≤ 8) (d : decode cc pc = .ok (.invokevirtual 139, 3)) (hM : AM (xC l D ad cA) yX2_unfolded mX2_unfolded [.ref (ad 1), vi p0, vi p1, vi p2] M (qI Q1)) (kk : ∀ r M1, rg r → Q1 r M1 → AW (xC l D ad cA) (RX0, cc, nL, rt, rmL dl) Q (pc + 3) lv (vi r :: rest) M1) : AW (xC l D ad cA) (RX0, cc, nL, rt, rmL dl) Q pc lv (vi p2 :: vi p1 :: vi p0 :: .ref (ad 1) :: rest) M :=
  a_callV (X := (xC l D ad cA)) (mc' := mX2_unfolded) (q := 1) (ci := 2) (N := 10) (n := 3) (As := [vi p0, vi p1, vi p2]) (rest := rest) (C := RX2) (T := TX2) (Nat.le_of_ble_eq_true rfl) rfl rfl (gtb_in (w := .methodLink RX0 139 yX2_unfolded) (by decide +kernel) rfl) (gtb_in (by decide +kernel) rfl) (gtb_in (by decide +kernel) rfl) (gtb_in (by decide +kernel) rfl) (gtb_in (w := .code yX2_unfolded cX2_unfolded 4 (some .int)) (by decide +kernel) rfl) (by decide +kernel) rfl ⟨rfl, rfl⟩ (rm_ok hd (Nat.le_of_ble_eq_true rfl)) hrm rfl d hM (fun v M1 h => by obtain ⟨r, rfl, g, h⟩ := h; exact kk r M1 g h)
theorem gfX0_75 {l : Launch} {D : va_G} {ad : Nat → Nat} {cA : Nat → ClassId} {cc : ByteArray} {nL : Nat} {rt : Option FieldType} {R : Room} {Q : Option Value → Mem → Prop} {pc : Nat} {lv : List (Nat × Value)} {st : List Value} {M : Mem} (d : decode cc pc = .ok (.getfield 75, 3)) (k : rg (M 3 7) → AW (xC l D ad cA) (RX0, cc, nL, rt, R) Q (pc + 3) lv (vi (M 3 7) :: st) M) : AW (xC l D ad cA) (RX0, cc, nL, rt, R) Q pc lv (.ref (ad 3) :: st) M :=
  a_get (X := (xC l D ad cA)) (q := 3) (ci := 0) (k := 7) (N := 13) (C := RX0) (T := TX0) (Nat.le_of_ble_eq_true rfl) rfl rfl inGX0 (Nat.le_of_ble_eq_true rfl) (gtb_in (w := .fieldLink RX0 75 (TX0 7).1 (TX0 7).2.1 (TX0 7).2.2.1) (by decide +kernel) rfl) rfl d (AW.rng (fun hR => k (hR.i rfl _)))
theorem kX0_133 {l : Launch} {D : va_G} {ad : Nat → Nat} {cA : Nat → ClassId} {cc : ByteArray} {nL : Nat} {rt : Option FieldType} {dl : Nat} {Q : Option Value → Mem → Prop} {pc : Nat} {lv : List (Nat × Value)} {rest : List Value} {M : Mem} {p0 : Int} {Q1 : Int → Mem → Prop} (hd : 9 + 1 ≤ dl) (hrm : (rest.map fun v => v.category).sum ≤ 8) (d : decode cc pc = .ok (.invokevirtual 133, 3)) (hM : AM (xC l D ad cA) yX0_unfolded mX0_unfolded [.ref (ad 3), vi p0] M (qI Q1)) (kk : ∀ r M1, rg r → Q1 r M1 → AW (xC l D ad cA) (RX0, cc, nL, rt, rmL dl) Q (pc + 3) lv (vi r :: rest) M1) : AW (xC l D ad cA) (RX0, cc, nL, rt, rmL dl) Q pc lv (vi p0 :: .ref (ad 3) :: rest) M :=
  a_callV (X := (xC l D ad cA)) (mc' := mX0_unfolded) (q := 3) (ci := 0) (N := 13) (n := 1) (As := [vi p0]) (rest := rest) (C := RX0) (T := TX0) (Nat.le_of_ble_eq_true rfl) rfl rfl (gtb_in (w := .methodLink RX0 133 yX0_unfolded) (by decide +kernel) rfl) (gtb_in (by decide +kernel) rfl) (gtb_in (by decide +kernel) rfl) (gtb_in (by decide +kernel) rfl) (gtb_in (w := .code yX0_unfolded cX0_unfolded 3 (some .int)) (by decide +kernel) rfl) (by decide +kernel) rfl ⟨rfl, rfl⟩ (rm_ok hd (Nat.le_of_ble_eq_true rfl)) hrm rfl d hM (fun v M1 h => by obtain ⟨r, rfl, g, h⟩ := h; exact kk r M1 g h)
theorem kX0_142 {l : Launch} {D : va_G} {ad : Nat → Nat} {cA : Nat → ClassId} {cc : ByteArray} {nL : Nat} {rt : Option FieldType} {dl : Nat} {Q : Option Value → Mem → Prop} {pc : Nat} {lv : List (Nat × Value)} {rest : List Value} {M : Mem} {p0 p1 p2 : Int} {Q1 : Mem → Prop} (hd : 1 + 1 ≤ dl) (hrm : (rest.map fun v => v.category).sum ≤ 8) (d : decode cc pc = .ok (.invokevirtual 142, 3)) (hM : AM (xC l D ad cA) yX0_judge mX0_judge [.ref (ad 3), vi p0, vi p1, vi p2] M (qV Q1)) (kk : ∀ M1, Q1 M1 → AW (xC l D ad cA) (RX0, cc, nL, rt, rmL dl) Q (pc + 3) lv rest M1) : AW (xC l D ad cA) (RX0, cc, nL, rt, rmL dl) Q pc lv (vi p2 :: vi p1 :: vi p0 :: .ref (ad 3) :: rest) M :=
  a_callV (X := (xC l D ad cA)) (mc' := mX0_judge) (q := 3) (ci := 0) (N := 13) (n := 3) (As := [vi p0, vi p1, vi p2]) (rest := rest) (C := RX0) (T := TX0) (Nat.le_of_ble_eq_true rfl) rfl rfl (gtb_in (w := .methodLink RX0 142 yX0_judge) (by decide +kernel) rfl) (gtb_in (by decide +kernel) rfl) (gtb_in (by decide +kernel) rfl) (gtb_in (by decide +kernel) rfl) (gtb_in (w := .code yX0_judge cX0_judge 4 none) (by decide +kernel) rfl) (by decide +kernel) rfl ⟨rfl, rfl⟩ (rm_ok hd (Nat.le_of_ble_eq_true rfl)) hrm rfl d hM (fun v M1 h => by obtain ⟨rfl, h⟩ := h; exact kk M1 h)
theorem kX0_146 {l : Launch} {D : va_G} {ad : Nat → Nat} {cA : Nat → ClassId} {cc : ByteArray} {nL : Nat} {rt : Option FieldType} {dl : Nat} {Q : Option Value → Mem → Prop} {pc : Nat} {lv : List (Nat × Value)} {rest : List Value} {M : Mem} {p0 p1 : Int} {Q1 : Int → Mem → Prop} (hd : 0 + 1 ≤ dl) (hrm : (rest.map fun v => v.category).sum ≤ 8) (d : decode cc pc = .ok (.invokestatic 146, 3)) (hM : AM (xC l D ad cA) yJ9_max_7cf53 mJ9_max_7cf53 [vi p0, vi p1] M (qI Q1)) (kk : ∀ r M1, rg r → Q1 r M1 → AW (xC l D ad cA) (RX0, cc, nL, rt, rmL dl) Q (pc + 3) lv (vi r :: rest) M1) : AW (xC l D ad cA) (RX0, cc, nL, rt, rmL dl) Q pc lv (vi p1 :: vi p0 :: rest) M :=
  a_callS (X := (xC l D ad cA)) (mc' := mJ9_max_7cf53) (n := 2) (As := [vi p0, vi p1]) (rest := rest) (gtb_in (w := .methodLink RX0 146 yJ9_max_7cf53) (by decide +kernel) rfl) (gtb_in (by decide +kernel) rfl) (gtb_in (by decide +kernel) rfl) (gtb_in (w := .code yJ9_max_7cf53 cJ9_max_7cf53 2 (some .int)) (by decide +kernel) rfl) (by decide +kernel) rfl ⟨rfl, rfl⟩ (rm_ok hd (Nat.le_of_ble_eq_true rfl)) hrm rfl d hM (fun v M1 h => by obtain ⟨r, rfl, g, h⟩ := h; exact kk r M1 g h)
theorem kX0_106 {l : Launch} {D : va_G} {ad : Nat → Nat} {cA : Nat → ClassId} {cc : ByteArray} {nL : Nat} {rt : Option FieldType} {dl : Nat} {Q : Option Value → Mem → Prop} {pc : Nat} {lv : List (Nat × Value)} {rest : List Value} {M : Mem} {p0 : Int} {Q1 : Int → Mem → Prop} (hd : 1 + 1 ≤ dl) (hrm : (rest.map fun v => v.category).sum ≤ 8) (d : decode cc pc = .ok (.invokevirtual 106, 3)) (hM : AM (xC l D ad cA) yX1_heightOf mX1_heightOf [.ref (ad 2), vi p0] M (qI Q1)) (kk : ∀ r M1, rg r → Q1 r M1 → AW (xC l D ad cA) (RX0, cc, nL, rt, rmL dl) Q (pc + 3) lv (vi r :: rest) M1) : AW (xC l D ad cA) (RX0, cc, nL, rt, rmL dl) Q pc lv (vi p0 :: .ref (ad 2) :: rest) M :=
  a_callV (X := (xC l D ad cA)) (mc' := mX1_heightOf) (q := 2) (ci := 1) (N := 8) (n := 1) (As := [vi p0]) (rest := rest) (C := RX1) (T := TX1) (Nat.le_of_ble_eq_true rfl) rfl rfl (gtb_in (w := .methodLink RX0 106 yX1_heightOf) (by decide +kernel) rfl) (gtb_in (by decide +kernel) rfl) (gtb_in (by decide +kernel) rfl) (gtb_in (by decide +kernel) rfl) (gtb_in (w := .code yX1_heightOf cX1_heightOf 2 (some .int)) (by decide +kernel) rfl) (by decide +kernel) rfl ⟨rfl, rfl⟩ (rm_ok hd (Nat.le_of_ble_eq_true rfl)) hrm rfl d hM (fun v M1 h => by obtain ⟨r, rfl, g, h⟩ := h; exact kk r M1 g h)
theorem kX0_115 {l : Launch} {D : va_G} {ad : Nat → Nat} {cA : Nat → ClassId} {cc : ByteArray} {nL : Nat} {rt : Option FieldType} {dl : Nat} {Q : Option Value → Mem → Prop} {pc : Nat} {lv : List (Nat × Value)} {rest : List Value} {M : Mem} {p0 : Int} {Q1 : Int → Mem → Prop} (hd : 2 + 1 ≤ dl) (hrm : (rest.map fun v => v.category).sum ≤ 8) (d : decode cc pc = .ok (.invokevirtual 115, 3)) (hM : AM (xC l D ad cA) yX0_close mX0_close [.ref (ad 3), vi p0] M (qI Q1)) (kk : ∀ r M1, rg r → Q1 r M1 → AW (xC l D ad cA) (RX0, cc, nL, rt, rmL dl) Q (pc + 3) lv (vi r :: rest) M1) : AW (xC l D ad cA) (RX0, cc, nL, rt, rmL dl) Q pc lv (vi p0 :: .ref (ad 3) :: rest) M :=
  a_callV (X := (xC l D ad cA)) (mc' := mX0_close) (q := 3) (ci := 0) (N := 13) (n := 1) (As := [vi p0]) (rest := rest) (C := RX0) (T := TX0) (Nat.le_of_ble_eq_true rfl) rfl rfl (gtb_in (w := .methodLink RX0 115 yX0_close) (by decide +kernel) rfl) (gtb_in (by decide +kernel) rfl) (gtb_in (by decide +kernel) rfl) (gtb_in (by decide +kernel) rfl) (gtb_in (w := .code yX0_close cX0_close 2 (some .int)) (by decide +kernel) rfl) (by decide +kernel) rfl ⟨rfl, rfl⟩ (rm_ok hd (Nat.le_of_ble_eq_true rfl)) hrm rfl d hM (fun v M1 h => by obtain ⟨r, rfl, g, h⟩ := h; exact kk r M1 g h)
theorem kX0_103 {l : Launch} {D : va_G} {ad : Nat → Nat} {cA : Nat → ClassId} {cc : ByteArray} {nL : Nat} {rt : Option FieldType} {dl : Nat} {Q : Option Value → Mem → Prop} {pc : Nat} {lv : List (Nat × Value)} {rest : List Value} {M : Mem} {p0 : Int} {Q1 : Int → Mem → Prop} (hd : 3 + 1 ≤ dl) (hrm : (rest.map fun v => v.category).sum ≤ 8) (d : decode cc pc = .ok (.invokevirtual 103, 3)) (hM : AM (xC l D ad cA) yX0_meetParts mX0_meetParts [.ref (ad 3), vi p0] M (qI Q1)) (kk : ∀ r M1, rg r → Q1 r M1 → AW (xC l D ad cA) (RX0, cc, nL, rt, rmL dl) Q (pc + 3) lv (vi r :: rest) M1) : AW (xC l D ad cA) (RX0, cc, nL, rt, rmL dl) Q pc lv (vi p0 :: .ref (ad 3) :: rest) M :=
  a_callV (X := (xC l D ad cA)) (mc' := mX0_meetParts) (q := 3) (ci := 0) (N := 13) (n := 1) (As := [vi p0]) (rest := rest) (C := RX0) (T := TX0) (Nat.le_of_ble_eq_true rfl) rfl rfl (gtb_in (w := .methodLink RX0 103 yX0_meetParts) (by decide +kernel) rfl) (gtb_in (by decide +kernel) rfl) (gtb_in (by decide +kernel) rfl) (gtb_in (by decide +kernel) rfl) (gtb_in (w := .code yX0_meetParts cX0_meetParts 2 (some .int)) (by decide +kernel) rfl) (by decide +kernel) rfl ⟨rfl, rfl⟩ (rm_ok hd (Nat.le_of_ble_eq_true rfl)) hrm rfl d hM (fun v M1 h => by obtain ⟨r, rfl, g, h⟩ := h; exact kk r M1 g h)
theorem kX0_111 {l : Launch} {D : va_G} {ad : Nat → Nat} {cA : Nat → ClassId} {cc : ByteArray} {nL : Nat} {rt : Option FieldType} {dl : Nat} {Q : Option Value → Mem → Prop} {pc : Nat} {lv : List (Nat × Value)} {rest : List Value} {M : Mem} {p0 p1 : Int} {Q1 : Int → Mem → Prop} (hd : 10 + 1 ≤ dl) (hrm : (rest.map fun v => v.category).sum ≤ 8) (d : decode cc pc = .ok (.invokevirtual 111, 3)) (hM : AM (xC l D ad cA) yX0_unfold mX0_unfold [.ref (ad 3), vi p0, vi p1] M (qI Q1)) (kk : ∀ r M1, rg r → Q1 r M1 → AW (xC l D ad cA) (RX0, cc, nL, rt, rmL dl) Q (pc + 3) lv (vi r :: rest) M1) : AW (xC l D ad cA) (RX0, cc, nL, rt, rmL dl) Q pc lv (vi p1 :: vi p0 :: .ref (ad 3) :: rest) M :=
  a_callV (X := (xC l D ad cA)) (mc' := mX0_unfold) (q := 3) (ci := 0) (N := 13) (n := 2) (As := [vi p0, vi p1]) (rest := rest) (C := RX0) (T := TX0) (Nat.le_of_ble_eq_true rfl) rfl rfl (gtb_in (w := .methodLink RX0 111 yX0_unfold) (by decide +kernel) rfl) (gtb_in (by decide +kernel) rfl) (gtb_in (by decide +kernel) rfl) (gtb_in (by decide +kernel) rfl) (gtb_in (w := .code yX0_unfold cX0_unfold 6 (some .int)) (by decide +kernel) rfl) (by decide +kernel) rfl ⟨rfl, rfl⟩ (rm_ok hd (Nat.le_of_ble_eq_true rfl)) hrm rfl d hM (fun v M1 h => by obtain ⟨r, rfl, g, h⟩ := h; exact kk r M1 g h)
theorem kX0_118 {l : Launch} {D : va_G} {ad : Nat → Nat} {cA : Nat → ClassId} {cc : ByteArray} {nL : Nat} {rt : Option FieldType} {dl : Nat} {Q : Option Value → Mem → Prop} {pc : Nat} {lv : List (Nat × Value)} {rest : List Value} {M : Mem} {Q1 : Int → Mem → Prop} (hd : 1 + 1 ≤ dl) (hrm : (rest.map fun v => v.category).sum ≤ 8) (d : decode cc pc = .ok (.invokevirtual 118, 3)) (hM : AM (xC l D ad cA) yX0_lastWaitsFor mX0_lastWaitsFor [.ref (ad 3)] M (qI Q1)) (kk : ∀ r M1, rg r → Q1 r M1 → AW (xC l D ad cA) (RX0, cc, nL, rt, rmL dl) Q (pc + 3) lv (vi r :: rest) M1) : AW (xC l D ad cA) (RX0, cc, nL, rt, rmL dl) Q pc lv (.ref (ad 3) :: rest) M :=
  a_callV (X := (xC l D ad cA)) (mc' := mX0_lastWaitsFor) (q := 3) (ci := 0) (N := 13) (n := 0) (As := []) (rest := rest) (C := RX0) (T := TX0) (Nat.le_of_ble_eq_true rfl) rfl rfl (gtb_in (w := .methodLink RX0 118 yX0_lastWaitsFor) (by decide +kernel) rfl) (gtb_in (by decide +kernel) rfl) (gtb_in (by decide +kernel) rfl) (gtb_in (by decide +kernel) rfl) (gtb_in (w := .code yX0_lastWaitsFor cX0_lastWaitsFor 1 (some .int)) (by decide +kernel) rfl) (by decide +kernel) rfl ⟨rfl, rfl⟩ (rm_ok hd (Nat.le_of_ble_eq_true rfl)) hrm rfl d hM (fun v M1 h => by obtain ⟨r, rfl, g, h⟩ := h; exact kk r M1 g h)
theorem kX0_124 {l : Launch} {D : va_G} {ad : Nat → Nat} {cA : Nat → ClassId} {cc : ByteArray} {nL : Nat} {rt : Option FieldType} {dl : Nat} {Q : Option Value → Mem → Prop} {pc : Nat} {lv : List (Nat × Value)} {rest : List Value} {M : Mem} {p0 : Int} {Q1 : Int → Mem → Prop} (hd : 1 + 1 ≤ dl) (hrm : (rest.map fun v => v.category).sum ≤ 8) (d : decode cc pc = .ok (.invokevirtual 124, 3)) (hM : AM (xC l D ad cA) yX1_arityOf mX1_arityOf [.ref (ad 2), vi p0] M (qI Q1)) (kk : ∀ r M1, rg r → Q1 r M1 → AW (xC l D ad cA) (RX0, cc, nL, rt, rmL dl) Q (pc + 3) lv (vi r :: rest) M1) : AW (xC l D ad cA) (RX0, cc, nL, rt, rmL dl) Q pc lv (vi p0 :: .ref (ad 2) :: rest) M :=
  a_callV (X := (xC l D ad cA)) (mc' := mX1_arityOf) (q := 2) (ci := 1) (N := 8) (n := 1) (As := [vi p0]) (rest := rest) (C := RX1) (T := TX1) (Nat.le_of_ble_eq_true rfl) rfl rfl (gtb_in (w := .methodLink RX0 124 yX1_arityOf) (by decide +kernel) rfl) (gtb_in (by decide +kernel) rfl) (gtb_in (by decide +kernel) rfl) (gtb_in (by decide +kernel) rfl) (gtb_in (w := .code yX1_arityOf cX1_arityOf 2 (some .int)) (by decide +kernel) rfl) (by decide +kernel) rfl ⟨rfl, rfl⟩ (rm_ok hd (Nat.le_of_ble_eq_true rfl)) hrm rfl d hM (fun v M1 h => by obtain ⟨r, rfl, g, h⟩ := h; exact kk r M1 g h)
theorem kX0_121 {l : Launch} {D : va_G} {ad : Nat → Nat} {cA : Nat → ClassId} {cc : ByteArray} {nL : Nat} {rt : Option FieldType} {dl : Nat} {Q : Option Value → Mem → Prop} {pc : Nat} {lv : List (Nat × Value)} {rest : List Value} {M : Mem} {p0 : Int} {Q1 : Int → Mem → Prop} (hd : 2 + 1 ≤ dl) (hrm : (rest.map fun v => v.category).sum ≤ 8) (d : decode cc pc = .ok (.invokevirtual 121, 3)) (hM : AM (xC l D ad cA) yX1_isFolded mX1_isFolded [.ref (ad 2), vi p0] M (qI Q1)) (kk : ∀ r M1, rg r → Q1 r M1 → AW (xC l D ad cA) (RX0, cc, nL, rt, rmL dl) Q (pc + 3) lv (vi r :: rest) M1) : AW (xC l D ad cA) (RX0, cc, nL, rt, rmL dl) Q pc lv (vi p0 :: .ref (ad 2) :: rest) M :=
  a_callV (X := (xC l D ad cA)) (mc' := mX1_isFolded) (q := 2) (ci := 1) (N := 8) (n := 1) (As := [vi p0]) (rest := rest) (C := RX1) (T := TX1) (Nat.le_of_ble_eq_true rfl) rfl rfl (gtb_in (w := .methodLink RX0 121 yX1_isFolded) (by decide +kernel) rfl) (gtb_in (by decide +kernel) rfl) (gtb_in (by decide +kernel) rfl) (gtb_in (by decide +kernel) rfl) (gtb_in (w := .code yX1_isFolded cX1_isFolded 2 (some .boolean)) (by decide +kernel) rfl) (by decide +kernel) rfl ⟨rfl, rfl⟩ (rm_ok hd (Nat.le_of_ble_eq_true rfl)) hrm rfl d hM (fun v M1 h => by obtain ⟨r, rfl, g, h⟩ := h; exact kk r M1 g h)
theorem gfX0_25 {l : Launch} {D : va_G} {ad : Nat → Nat} {cA : Nat → ClassId} {cc : ByteArray} {nL : Nat} {rt : Option FieldType} {R : Room} {Q : Option Value → Mem → Prop} {pc : Nat} {lv : List (Nat × Value)} {st : List Value} {M : Mem} (d : decode cc pc = .ok (.getfield 25, 3)) (k : AW (xC l D ad cA) (RX0, cc, nL, rt, R) Q (pc + 3) lv (.ref (ad 26) :: st) M) : AW (xC l D ad cA) (RX0, cc, nL, rt, R) Q pc lv (.ref (ad 3) :: st) M :=
  a_get (X := (xC l D ad cA)) (q := 3) (ci := 0) (k := 11) (N := 13) (C := RX0) (T := TX0) (Nat.le_of_ble_eq_true rfl) rfl rfl inGX0 (Nat.le_of_ble_eq_true rfl) (gtb_in (w := .fieldLink RX0 25 (TX0 11).1 (TX0 11).2.1 (TX0 11).2.2.1) (by decide +kernel) rfl) rfl d k
theorem gfX0_81 {l : Launch} {D : va_G} {ad : Nat → Nat} {cA : Nat → ClassId} {cc : ByteArray} {nL : Nat} {rt : Option FieldType} {R : Room} {Q : Option Value → Mem → Prop} {pc : Nat} {lv : List (Nat × Value)} {st : List Value} {M : Mem} (d : decode cc pc = .ok (.getfield 81, 3)) (k : rg (M 3 9) → AW (xC l D ad cA) (RX0, cc, nL, rt, R) Q (pc + 3) lv (vi (M 3 9) :: st) M) : AW (xC l D ad cA) (RX0, cc, nL, rt, R) Q pc lv (.ref (ad 3) :: st) M :=
  a_get (X := (xC l D ad cA)) (q := 3) (ci := 0) (k := 9) (N := 13) (C := RX0) (T := TX0) (Nat.le_of_ble_eq_true rfl) rfl rfl inGX0 (Nat.le_of_ble_eq_true rfl) (gtb_in (w := .fieldLink RX0 81 (TX0 9).1 (TX0 9).2.1 (TX0 9).2.2.1) (by decide +kernel) rfl) rfl d (AW.rng (fun hR => k (hR.i rfl _)))
theorem gfX0_84 {l : Launch} {D : va_G} {ad : Nat → Nat} {cA : Nat → ClassId} {cc : ByteArray} {nL : Nat} {rt : Option FieldType} {R : Room} {Q : Option Value → Mem → Prop} {pc : Nat} {lv : List (Nat × Value)} {st : List Value} {M : Mem} (d : decode cc pc = .ok (.getfield 84, 3)) (k : rg (M 3 10) → AW (xC l D ad cA) (RX0, cc, nL, rt, R) Q (pc + 3) lv (vi (M 3 10) :: st) M) : AW (xC l D ad cA) (RX0, cc, nL, rt, R) Q pc lv (.ref (ad 3) :: st) M :=
  a_get (X := (xC l D ad cA)) (q := 3) (ci := 0) (k := 10) (N := 13) (C := RX0) (T := TX0) (Nat.le_of_ble_eq_true rfl) rfl rfl inGX0 (Nat.le_of_ble_eq_true rfl) (gtb_in (w := .fieldLink RX0 84 (TX0 10).1 (TX0 10).2.1 (TX0 10).2.2.1) (by decide +kernel) rfl) rfl d (AW.rng (fun hR => k (hR.i rfl _)))
theorem pfX0_36 {l : Launch} {D : va_G} {ad : Nat → Nat} {cA : Nat → ClassId} {cc : ByteArray} {nL : Nat} {rt : Option FieldType} {R : Room} {Q : Option Value → Mem → Prop} {pc : Nat} {lv : List (Nat × Value)} {st : List Value} {M : Mem} {v : Int} (d : decode cc pc = .ok (.putfield 36, 3)) (g : b01 v) (k : AW (xC l D ad cA) (RX0, cc, nL, rt, R) Q (pc + 3) lv st (up M 3 12 v)) : AW (xC l D ad cA) (RX0, cc, nL, rt, R) Q pc lv (vi v :: .ref (ad 3) :: st) M :=
  a_put (X := (xC l D ad cA)) (q := 3) (ci := 0) (k := 12) (N := 13) (C := RX0) (T := TX0) (ty := .boolean) (ty0 := tyX0) (Nat.le_of_ble_eq_true rfl) rfl rfl rfl inGX0 tyX0_ok nmX0 (Nat.le_of_ble_eq_true rfl) (gtb_in (w := .fieldLink RX0 36 (TX0 12).1 (TX0 12).2.1 (TX0 12).2.2.1) (by decide +kernel) rfl) rfl (by decide +kernel) (by rcases g with g | g <;> subst g <;> rfl) (by rcases g with g | g <;> subst g <;> rfl) (Nat.le_of_ble_eq_true rfl) rfl d (rg_b g) k
theorem kX0_40 {l : Launch} {D : va_G} {ad : Nat → Nat} {cA : Nat → ClassId} {cc : ByteArray} {nL : Nat} {rt : Option FieldType} {dl : Nat} {Q : Option Value → Mem → Prop} {pc : Nat} {lv : List (Nat × Value)} {rest : List Value} {M : Mem} {Q1 : Mem → Prop} (hd : 1 + 1 ≤ dl) (hrm : (rest.map fun v => v.category).sum ≤ 8) (d : decode cc pc = .ok (.invokevirtual 40, 3)) (hM : AM (xC l D ad cA) yX0_start mX0_start [.ref (ad 3)] M (qV Q1)) (kk : ∀ M1, Q1 M1 → AW (xC l D ad cA) (RX0, cc, nL, rt, rmL dl) Q (pc + 3) lv rest M1) : AW (xC l D ad cA) (RX0, cc, nL, rt, rmL dl) Q pc lv (.ref (ad 3) :: rest) M :=
  a_callV (X := (xC l D ad cA)) (mc' := mX0_start) (q := 3) (ci := 0) (N := 13) (n := 0) (As := []) (rest := rest) (C := RX0) (T := TX0) (Nat.le_of_ble_eq_true rfl) rfl rfl (gtb_in (w := .methodLink RX0 40 yX0_start) (by decide +kernel) rfl) (gtb_in (by decide +kernel) rfl) (gtb_in (by decide +kernel) rfl) (gtb_in (by decide +kernel) rfl) (gtb_in (w := .code yX0_start cX0_start 1 none) (by decide +kernel) rfl) (by decide +kernel) rfl ⟨rfl, rfl⟩ (rm_ok hd (Nat.le_of_ble_eq_true rfl)) hrm rfl d hM (fun v M1 h => by obtain ⟨rfl, h⟩ := h; exact kk M1 h)
theorem kX0_56 {l : Launch} {D : va_G} {ad : Nat → Nat} {cA : Nat → ClassId} {cc : ByteArray} {nL : Nat} {rt : Option FieldType} {dl : Nat} {Q : Option Value → Mem → Prop} {pc : Nat} {lv : List (Nat × Value)} {rest : List Value} {M : Mem} {p0 : Int} {Q1 : Int → Mem → Prop} (hd : 11 + 1 ≤ dl) (hrm : (rest.map fun v => v.category).sum ≤ 8) (d : decode cc pc = .ok (.invokevirtual 56, 3)) (hM : AM (xC l D ad cA) yX0_goOn mX0_goOn [.ref (ad 3), vi p0] M (qI Q1)) (kk : ∀ r M1, rg r → Q1 r M1 → AW (xC l D ad cA) (RX0, cc, nL, rt, rmL dl) Q (pc + 3) lv (vi r :: rest) M1) : AW (xC l D ad cA) (RX0, cc, nL, rt, rmL dl) Q pc lv (vi p0 :: .ref (ad 3) :: rest) M :=
  a_callV (X := (xC l D ad cA)) (mc' := mX0_goOn) (q := 3) (ci := 0) (N := 13) (n := 1) (As := [vi p0]) (rest := rest) (C := RX0) (T := TX0) (Nat.le_of_ble_eq_true rfl) rfl rfl (gtb_in (w := .methodLink RX0 56 yX0_goOn) (by decide +kernel) rfl) (gtb_in (by decide +kernel) rfl) (gtb_in (by decide +kernel) rfl) (gtb_in (by decide +kernel) rfl) (gtb_in (w := .code yX0_goOn cX0_goOn 4 (some .int)) (by decide +kernel) rfl) (by decide +kernel) rfl ⟨rfl, rfl⟩ (rm_ok hd (Nat.le_of_ble_eq_true rfl)) hrm rfl d hM (fun v M1 h => by obtain ⟨r, rfl, g, h⟩ := h; exact kk r M1 g h)
theorem kX0_52 {l : Launch} {D : va_G} {ad : Nat → Nat} {cA : Nat → ClassId} {cc : ByteArray} {nL : Nat} {rt : Option FieldType} {dl : Nat} {Q : Option Value → Mem → Prop} {pc : Nat} {lv : List (Nat × Value)} {rest : List Value} {M : Mem} {Q1 : Int → Mem → Prop} (hd : 11 + 1 ≤ dl) (hrm : (rest.map fun v => v.category).sum ≤ 8) (d : decode cc pc = .ok (.invokevirtual 52, 3)) (hM : AM (xC l D ad cA) yX0_begin mX0_begin [.ref (ad 3)] M (qI Q1)) (kk : ∀ r M1, rg r → Q1 r M1 → AW (xC l D ad cA) (RX0, cc, nL, rt, rmL dl) Q (pc + 3) lv (vi r :: rest) M1) : AW (xC l D ad cA) (RX0, cc, nL, rt, rmL dl) Q pc lv (.ref (ad 3) :: rest) M :=
  a_callV (X := (xC l D ad cA)) (mc' := mX0_begin) (q := 3) (ci := 0) (N := 13) (n := 0) (As := []) (rest := rest) (C := RX0) (T := TX0) (Nat.le_of_ble_eq_true rfl) rfl rfl (gtb_in (w := .methodLink RX0 52 yX0_begin) (by decide +kernel) rfl) (gtb_in (by decide +kernel) rfl) (gtb_in (by decide +kernel) rfl) (gtb_in (by decide +kernel) rfl) (gtb_in (w := .code yX0_begin cX0_begin 5 (some .int)) (by decide +kernel) rfl) (by decide +kernel) rfl ⟨rfl, rfl⟩ (rm_ok hd (Nat.le_of_ble_eq_true rfl)) hrm rfl d hM (fun v M1 h => by obtain ⟨r, rfl, g, h⟩ := h; exact kk r M1 g h)
theorem kX0_65 {l : Launch} {D : va_G} {ad : Nat → Nat} {cA : Nat → ClassId} {cc : ByteArray} {nL : Nat} {rt : Option FieldType} {dl : Nat} {Q : Option Value → Mem → Prop} {pc : Nat} {lv : List (Nat × Value)} {rest : List Value} {M : Mem} {p0 : Int} {Q1 : Mem → Prop} (hd : 0 + 1 ≤ dl) (hrm : (rest.map fun v => v.category).sum ≤ 8) (d : decode cc pc = .ok (.invokevirtual 65, 3)) (hM : AM (xC l D ad cA) yX0_keep mX0_keep [.ref (ad 3), vi p0] M (qV Q1)) (kk : ∀ M1, Q1 M1 → AW (xC l D ad cA) (RX0, cc, nL, rt, rmL dl) Q (pc + 3) lv rest M1) : AW (xC l D ad cA) (RX0, cc, nL, rt, rmL dl) Q pc lv (vi p0 :: .ref (ad 3) :: rest) M :=
  a_callV (X := (xC l D ad cA)) (mc' := mX0_keep) (q := 3) (ci := 0) (N := 13) (n := 1) (As := [vi p0]) (rest := rest) (C := RX0) (T := TX0) (Nat.le_of_ble_eq_true rfl) rfl rfl (gtb_in (w := .methodLink RX0 65 yX0_keep) (by decide +kernel) rfl) (gtb_in (by decide +kernel) rfl) (gtb_in (by decide +kernel) rfl) (gtb_in (by decide +kernel) rfl) (gtb_in (w := .code yX0_keep cX0_keep 2 none) (by decide +kernel) rfl) (by decide +kernel) rfl ⟨rfl, rfl⟩ (rm_ok hd (Nat.le_of_ble_eq_true rfl)) hrm rfl d hM (fun v M1 h => by obtain ⟨rfl, h⟩ := h; exact kk M1 h)
theorem gfX3_32 {l : Launch} {D : va_G} {ad : Nat → Nat} {cA : Nat → ClassId} {cc : ByteArray} {nL : Nat} {rt : Option FieldType} {R : Room} {Q : Option Value → Mem → Prop} {pc : Nat} {lv : List (Nat × Value)} {st : List Value} {M : Mem} (d : decode cc pc = .ok (.getfield 32, 3)) (k : AW (xC l D ad cA) (RX3, cc, nL, rt, R) Q (pc + 3) lv (.ref (ad 3) :: st) M) : AW (xC l D ad cA) (RX3, cc, nL, rt, R) Q pc lv (.ref (ad 0) :: st) M :=
  a_get (X := (xC l D ad cA)) (q := 0) (ci := 3) (k := 2) (N := 3) (C := RX3) (T := TX3) (Nat.le_of_ble_eq_true rfl) rfl rfl inGX3 (Nat.le_of_ble_eq_true rfl) (gtb_in (w := .fieldLink RX3 32 (TX3 2).1 (TX3 2).2.1 (TX3 2).2.2.1) (by decide +kernel) rfl) rfl d k
theorem kX3_108 {l : Launch} {D : va_G} {ad : Nat → Nat} {cA : Nat → ClassId} {cc : ByteArray} {nL : Nat} {rt : Option FieldType} {dl : Nat} {Q : Option Value → Mem → Prop} {pc : Nat} {lv : List (Nat × Value)} {rest : List Value} {M : Mem} {p0 p1 : Int} {Q1 : Int → Mem → Prop} (hd : 12 + 1 ≤ dl) (hrm : (rest.map fun v => v.category).sum ≤ 8) (d : decode cc pc = .ok (.invokevirtual 108, 3)) (hM : AM (xC l D ad cA) yX0_run mX0_run [.ref (ad 3), vi p0, vi p1] M (qI Q1)) (kk : ∀ r M1, rg r → Q1 r M1 → AW (xC l D ad cA) (RX3, cc, nL, rt, rmL dl) Q (pc + 3) lv (vi r :: rest) M1) : AW (xC l D ad cA) (RX3, cc, nL, rt, rmL dl) Q pc lv (vi p1 :: vi p0 :: .ref (ad 3) :: rest) M :=
  a_callV (X := (xC l D ad cA)) (mc' := mX0_run) (q := 3) (ci := 0) (N := 13) (n := 2) (As := [vi p0, vi p1]) (rest := rest) (C := RX0) (T := TX0) (Nat.le_of_ble_eq_true rfl) rfl rfl (gtb_in (w := .methodLink RX3 108 yX0_run) (by decide +kernel) rfl) (gtb_in (by decide +kernel) rfl) (gtb_in (by decide +kernel) rfl) (gtb_in (by decide +kernel) rfl) (gtb_in (w := .code yX0_run cX0_run 5 (some .int)) (by decide +kernel) rfl) (by decide +kernel) rfl ⟨rfl, rfl⟩ (rm_ok hd (Nat.le_of_ble_eq_true rfl)) hrm rfl d hM (fun v M1 h => by obtain ⟨r, rfl, g, h⟩ := h; exact kk r M1 g h)
theorem gfX0_36 {l : Launch} {D : va_G} {ad : Nat → Nat} {cA : Nat → ClassId} {cc : ByteArray} {nL : Nat} {rt : Option FieldType} {R : Room} {Q : Option Value → Mem → Prop} {pc : Nat} {lv : List (Nat × Value)} {st : List Value} {M : Mem} (d : decode cc pc = .ok (.getfield 36, 3)) (k : rg (M 3 12) → AW (xC l D ad cA) (RX0, cc, nL, rt, R) Q (pc + 3) lv (vi (M 3 12) :: st) M) : AW (xC l D ad cA) (RX0, cc, nL, rt, R) Q pc lv (.ref (ad 3) :: st) M :=
  a_get (X := (xC l D ad cA)) (q := 3) (ci := 0) (k := 12) (N := 13) (C := RX0) (T := TX0) (Nat.le_of_ble_eq_true rfl) rfl rfl inGX0 (Nat.le_of_ble_eq_true rfl) (gtb_in (w := .fieldLink RX0 36 (TX0 12).1 (TX0 12).2.1 (TX0 12).2.2.1) (by decide +kernel) rfl) rfl d (AW.rng (fun hR => k (hR.i rfl _)))
theorem kX3_111 {l : Launch} {D : va_G} {ad : Nat → Nat} {cA : Nat → ClassId} {cc : ByteArray} {nL : Nat} {rt : Option FieldType} {dl : Nat} {Q : Option Value → Mem → Prop} {pc : Nat} {lv : List (Nat × Value)} {rest : List Value} {M : Mem} {p0 : Int} {Q1 : Int → Mem → Prop} (hd : 0 + 1 ≤ dl) (hrm : (rest.map fun v => v.category).sum ≤ 8) (d : decode cc pc = .ok (.invokevirtual 111, 3)) (hM : AM (xC l D ad cA) yX0_latest mX0_latest [.ref (ad 3), vi p0] M (qI Q1)) (kk : ∀ r M1, rg r → Q1 r M1 → AW (xC l D ad cA) (RX3, cc, nL, rt, rmL dl) Q (pc + 3) lv (vi r :: rest) M1) : AW (xC l D ad cA) (RX3, cc, nL, rt, rmL dl) Q pc lv (vi p0 :: .ref (ad 3) :: rest) M :=
  a_callV (X := (xC l D ad cA)) (mc' := mX0_latest) (q := 3) (ci := 0) (N := 13) (n := 1) (As := [vi p0]) (rest := rest) (C := RX0) (T := TX0) (Nat.le_of_ble_eq_true rfl) rfl rfl (gtb_in (w := .methodLink RX3 111 yX0_latest) (by decide +kernel) rfl) (gtb_in (by decide +kernel) rfl) (gtb_in (by decide +kernel) rfl) (gtb_in (by decide +kernel) rfl) (gtb_in (w := .code yX0_latest cX0_latest 2 (some .int)) (by decide +kernel) rfl) (by decide +kernel) rfl ⟨rfl, rfl⟩ (rm_ok hd (Nat.le_of_ble_eq_true rfl)) hrm rfl d hM (fun v M1 h => by obtain ⟨r, rfl, g, h⟩ := h; exact kk r M1 g h)
theorem kX2_43 {l : Launch} {D : va_G} {ad : Nat → Nat} {cA : Nat → ClassId} {cc : ByteArray} {nL : Nat} {rt : Option FieldType} {dl : Nat} {Q : Option Value → Mem → Prop} {pc : Nat} {lv : List (Nat × Value)} {rest : List Value} {M : Mem} {p0 : Int} {Q1 : Int → Mem → Prop} (hd : 2 + 1 ≤ dl) (hrm : (rest.map fun v => v.category).sum ≤ 8) (d : decode cc pc = .ok (.invokevirtual 43, 3)) (hM : AM (xC l D ad cA) yX2_isClosed mX2_isClosed [.ref (ad 1), vi p0] M (qI Q1)) (kk : ∀ r M1, rg r → Q1 r M1 → AW (xC l D ad cA) (RX2, cc, nL, rt, rmL dl) Q (pc + 3) lv (vi r :: rest) M1) : AW (xC l D ad cA) (RX2, cc, nL, rt, rmL dl) Q pc lv (vi p0 :: .ref (ad 1) :: rest) M :=
  a_callV (X := (xC l D ad cA)) (mc' := mX2_isClosed) (q := 1) (ci := 2) (N := 10) (n := 1) (As := [vi p0]) (rest := rest) (C := RX2) (T := TX2) (Nat.le_of_ble_eq_true rfl) rfl rfl (gtb_in (w := .methodLink RX2 43 yX2_isClosed) (by decide +kernel) rfl) (gtb_in (by decide +kernel) rfl) (gtb_in (by decide +kernel) rfl) (gtb_in (by decide +kernel) rfl) (gtb_in (w := .code yX2_isClosed cX2_isClosed 2 (some .boolean)) (by decide +kernel) rfl) (by decide +kernel) rfl ⟨rfl, rfl⟩ (rm_ok hd (Nat.le_of_ble_eq_true rfl)) hrm rfl d hM (fun v M1 h => by obtain ⟨r, rfl, g, h⟩ := h; exact kk r M1 g h)
theorem kX3_114 {l : Launch} {D : va_G} {ad : Nat → Nat} {cA : Nat → ClassId} {cc : ByteArray} {nL : Nat} {rt : Option FieldType} {dl : Nat} {Q : Option Value → Mem → Prop} {pc : Nat} {lv : List (Nat × Value)} {rest : List Value} {M : Mem} {Q1 : Int → Mem → Prop} (hd : 0 + 1 ≤ dl) (hrm : (rest.map fun v => v.category).sum ≤ 8) (d : decode cc pc = .ok (.invokevirtual 114, 3)) (hM : AM (xC l D ad cA) yX1_howMany mX1_howMany [.ref (ad 2)] M (qI Q1)) (kk : ∀ r M1, rg r → Q1 r M1 → AW (xC l D ad cA) (RX3, cc, nL, rt, rmL dl) Q (pc + 3) lv (vi r :: rest) M1) : AW (xC l D ad cA) (RX3, cc, nL, rt, rmL dl) Q pc lv (.ref (ad 2) :: rest) M :=
  a_callV (X := (xC l D ad cA)) (mc' := mX1_howMany) (q := 2) (ci := 1) (N := 8) (n := 0) (As := []) (rest := rest) (C := RX1) (T := TX1) (Nat.le_of_ble_eq_true rfl) rfl rfl (gtb_in (w := .methodLink RX3 114 yX1_howMany) (by decide +kernel) rfl) (gtb_in (by decide +kernel) rfl) (gtb_in (by decide +kernel) rfl) (gtb_in (by decide +kernel) rfl) (gtb_in (w := .code yX1_howMany cX1_howMany 1 (some .int)) (by decide +kernel) rfl) (by decide +kernel) rfl ⟨rfl, rfl⟩ (rm_ok hd (Nat.le_of_ble_eq_true rfl)) hrm rfl d hM (fun v M1 h => by obtain ⟨r, rfl, g, h⟩ := h; exact kk r M1 g h)
theorem kX3_118 {l : Launch} {D : va_G} {ad : Nat → Nat} {cA : Nat → ClassId} {cc : ByteArray} {nL : Nat} {rt : Option FieldType} {dl : Nat} {Q : Option Value → Mem → Prop} {pc : Nat} {lv : List (Nat × Value)} {rest : List Value} {M : Mem} {Q1 : Int → Mem → Prop} (hd : 0 + 1 ≤ dl) (hrm : (rest.map fun v => v.category).sum ≤ 8) (d : decode cc pc = .ok (.invokevirtual 118, 3)) (hM : AM (xC l D ad cA) yX2_howMany mX2_howMany [.ref (ad 1)] M (qI Q1)) (kk : ∀ r M1, rg r → Q1 r M1 → AW (xC l D ad cA) (RX3, cc, nL, rt, rmL dl) Q (pc + 3) lv (vi r :: rest) M1) : AW (xC l D ad cA) (RX3, cc, nL, rt, rmL dl) Q pc lv (.ref (ad 1) :: rest) M :=
  a_callV (X := (xC l D ad cA)) (mc' := mX2_howMany) (q := 1) (ci := 2) (N := 10) (n := 0) (As := []) (rest := rest) (C := RX2) (T := TX2) (Nat.le_of_ble_eq_true rfl) rfl rfl (gtb_in (w := .methodLink RX3 118 yX2_howMany) (by decide +kernel) rfl) (gtb_in (by decide +kernel) rfl) (gtb_in (by decide +kernel) rfl) (gtb_in (by decide +kernel) rfl) (gtb_in (w := .code yX2_howMany cX2_howMany 1 (some .int)) (by decide +kernel) rfl) (by decide +kernel) rfl ⟨rfl, rfl⟩ (rm_ok hd (Nat.le_of_ble_eq_true rfl)) hrm rfl d hM (fun v M1 h => by obtain ⟨r, rfl, g, h⟩ := h; exact kk r M1 g h)
theorem kX3_119 {l : Launch} {D : va_G} {ad : Nat → Nat} {cA : Nat → ClassId} {cc : ByteArray} {nL : Nat} {rt : Option FieldType} {dl : Nat} {Q : Option Value → Mem → Prop} {pc : Nat} {lv : List (Nat × Value)} {rest : List Value} {M : Mem} {Q1 : Int → Mem → Prop} (hd : 0 + 1 ≤ dl) (hrm : (rest.map fun v => v.category).sum ≤ 8) (d : decode cc pc = .ok (.invokevirtual 119, 3)) (hM : AM (xC l D ad cA) yX1_howManyDefined mX1_howManyDefined [.ref (ad 2)] M (qI Q1)) (kk : ∀ r M1, rg r → Q1 r M1 → AW (xC l D ad cA) (RX3, cc, nL, rt, rmL dl) Q (pc + 3) lv (vi r :: rest) M1) : AW (xC l D ad cA) (RX3, cc, nL, rt, rmL dl) Q pc lv (.ref (ad 2) :: rest) M :=
  a_callV (X := (xC l D ad cA)) (mc' := mX1_howManyDefined) (q := 2) (ci := 1) (N := 8) (n := 0) (As := []) (rest := rest) (C := RX1) (T := TX1) (Nat.le_of_ble_eq_true rfl) rfl rfl (gtb_in (w := .methodLink RX3 119 yX1_howManyDefined) (by decide +kernel) rfl) (gtb_in (by decide +kernel) rfl) (gtb_in (by decide +kernel) rfl) (gtb_in (by decide +kernel) rfl) (gtb_in (w := .code yX1_howManyDefined cX1_howManyDefined 3 (some .int)) (by decide +kernel) rfl) (by decide +kernel) rfl ⟨rfl, rfl⟩ (rm_ok hd (Nat.le_of_ble_eq_true rfl)) hrm rfl d hM (fun v M1 h => by obtain ⟨r, rfl, g, h⟩ := h; exact kk r M1 g h)
theorem kX3_122 {l : Launch} {D : va_G} {ad : Nat → Nat} {cA : Nat → ClassId} {cc : ByteArray} {nL : Nat} {rt : Option FieldType} {dl : Nat} {Q : Option Value → Mem → Prop} {pc : Nat} {lv : List (Nat × Value)} {rest : List Value} {M : Mem} {Q1 : Int → Mem → Prop} (hd : 3 + 1 ≤ dl) (hrm : (rest.map fun v => v.category).sum ≤ 8) (d : decode cc pc = .ok (.invokevirtual 122, 3)) (hM : AM (xC l D ad cA) yX1_howManyFolded mX1_howManyFolded [.ref (ad 2)] M (qI Q1)) (kk : ∀ r M1, rg r → Q1 r M1 → AW (xC l D ad cA) (RX3, cc, nL, rt, rmL dl) Q (pc + 3) lv (vi r :: rest) M1) : AW (xC l D ad cA) (RX3, cc, nL, rt, rmL dl) Q pc lv (.ref (ad 2) :: rest) M :=
  a_callV (X := (xC l D ad cA)) (mc' := mX1_howManyFolded) (q := 2) (ci := 1) (N := 8) (n := 0) (As := []) (rest := rest) (C := RX1) (T := TX1) (Nat.le_of_ble_eq_true rfl) rfl rfl (gtb_in (w := .methodLink RX3 122 yX1_howManyFolded) (by decide +kernel) rfl) (gtb_in (by decide +kernel) rfl) (gtb_in (by decide +kernel) rfl) (gtb_in (by decide +kernel) rfl) (gtb_in (w := .code yX1_howManyFolded cX1_howManyFolded 3 (some .int)) (by decide +kernel) rfl) (by decide +kernel) rfl ⟨rfl, rfl⟩ (rm_ok hd (Nat.le_of_ble_eq_true rfl)) hrm rfl d hM (fun v M1 h => by obtain ⟨r, rfl, g, h⟩ := h; exact kk r M1 g h)
theorem kX3_125 {l : Launch} {D : va_G} {ad : Nat → Nat} {cA : Nat → ClassId} {cc : ByteArray} {nL : Nat} {rt : Option FieldType} {dl : Nat} {Q : Option Value → Mem → Prop} {pc : Nat} {lv : List (Nat × Value)} {rest : List Value} {M : Mem} {Q1 : Int → Mem → Prop} (hd : 3 + 1 ≤ dl) (hrm : (rest.map fun v => v.category).sum ≤ 8) (d : decode cc pc = .ok (.invokevirtual 125, 3)) (hM : AM (xC l D ad cA) yX2_howManyClosed mX2_howManyClosed [.ref (ad 1)] M (qI Q1)) (kk : ∀ r M1, rg r → Q1 r M1 → AW (xC l D ad cA) (RX3, cc, nL, rt, rmL dl) Q (pc + 3) lv (vi r :: rest) M1) : AW (xC l D ad cA) (RX3, cc, nL, rt, rmL dl) Q pc lv (.ref (ad 1) :: rest) M :=
  a_callV (X := (xC l D ad cA)) (mc' := mX2_howManyClosed) (q := 1) (ci := 2) (N := 10) (n := 0) (As := []) (rest := rest) (C := RX2) (T := TX2) (Nat.le_of_ble_eq_true rfl) rfl rfl (gtb_in (w := .methodLink RX3 125 yX2_howManyClosed) (by decide +kernel) rfl) (gtb_in (by decide +kernel) rfl) (gtb_in (by decide +kernel) rfl) (gtb_in (by decide +kernel) rfl) (gtb_in (w := .code yX2_howManyClosed cX2_howManyClosed 3 (some .int)) (by decide +kernel) rfl) (by decide +kernel) rfl ⟨rfl, rfl⟩ (rm_ok hd (Nat.le_of_ble_eq_true rfl)) hrm rfl d hM (fun v M1 h => by obtain ⟨r, rfl, g, h⟩ := h; exact kk r M1 g h)
end
