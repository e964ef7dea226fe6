/-! the class's public methods (but check) -/
def made (C : Mem) (x : Int) : Prop := 0 ≤ x ∧ x < C 1 8
def isnm (C : Mem) (n : Int) : Prop := 0 ≤ n ∧ n < C 2 7
section H
variable {C : Mem} {Q : Int → Mem → Prop} {n x y a b : Int}
theorem h_mayL {t : Tr} (h9 : C 1 8 ≤ 90) (hx : made C x) (e0 : C 10 x = occ 100 t) (e1 : C 11 x = occ 101 t) :
    ∀ (k : Nat) (i : Int), 0 ≤ i → 3 - i ≤ k → ((∀ j : Nat, i ≤ (j : Int) → j < 2 → occ (100 + j) t = 0) → Q 1 C) → (¬ (∀ j : Nat, i ≤ (j : Int) → j < 2 → occ (100 + j) t = 0) → Q 0 C) → i ≤ 2 → w_X1_mayStandFor_L26 Q k C x i := by
  intro k
  induction k with
  | zero => intro i h0 h1 q1 q0 h2; omega
  | succ k ih =>
    intro i h0 h1 q1 q0 h2
    rw [w_X1_mayStandFor_L26]
    refine ⟨fun h => q1 (fun j j1 j2 => by omega), fun h => ?_⟩
    have step : ∀ r, r = occ (100 + i.toNat) t → ((r = 0 → (rg (i + 1) ∧ w_X1_mayStandFor_L26 Q k C x (i + 1))) ∧ (¬ r = 0 → Q 0 C)) := by
      intro r hr
      refine ⟨fun z => ⟨by unfold rg; omega, ih (i + 1) (by omega) (by omega) (fun hh => q1 (fun j j1 j2 => ?_)) (fun hh => q0 (fun h3 => hh (fun j j1 j2 => h3 j (by omega) j2))) (by omega)⟩, fun z => q0 (fun h3 => z ?_)⟩
      · by_cases e : j = i.toNat
        · rw [e, ← hr]
          exact z
        · exact hh j (by omega) j2
      · rw [hr]
        exact h3 i.toNat (by omega) (by omega)
    by_cases hi : i = 0
    · subst hi
      exact h_tp0 h9 (fun _ => step _ (by rw [e0]; rfl)) (fun z => absurd hx z)
    · have hi1 : i = 1 := by omega
      subst hi1
      exact h_tp1 h9 (by decide) (fun _ => step _ (by rw [e1]; rfl)) (fun z => absurd hx z)
theorem h_may (hI : InvC C) (hn : isnm C n) (hx : made C x) (q1 : allF (okd n (C 12 n)) (vC C x) → Q 1 C) (q0 : ¬ allF (okd n (C 12 n)) (vC C x) → Q 0 C) : w_X1_mayStandFor C n x Q := by
  obtain ⟨hB, ⟨t0, t9, th⟩, hT, hTC, hNC, hb⟩ := hI
  have h12 := hB.2.1
  have hfa := fr_all hT h12 (x.toNat + 1) x (by have := hx.1; omega) hx.2
  have ht2 : allF (fun f => f < 12 ∨ 100 ≤ f) (vC C x) := allF_mono (fun f hf => by omega) _ hfa
  obtain ⟨c1, c2, c3, c4, c5, c6⟩ := hTC x hx.1 hx.2
  have har := (hB.2.2 n hn.1 hn.2).1
  have en : n = ((n.toNat : Nat) : Int) := by have := hn.1; omega
  have hn12 : n.toNat < 12 := by have := hn.1; have := hn.2; omega
  have hab := above_iff (n := n.toNat) ht2 hn12
  rw [← en] at hab
  refine h_nin t9 (fun _ => ?_) (fun z => absurd hx z)
  rw [c4]
  refine ⟨fun z => h_ar h12 hn ⟨4, ?_⟩, fun z => q0 (fun hall => z (hab.mpr (fun f f1 f2 f3 => ?_)))⟩
  · refine h_mayL t9 hx c5 c6 4 _ har.1 (by omega) (fun hh => q1 ?_) (fun hh => q0 (fun hall => hh (fun j j1 j2 => ?_))) har.2
    · refine allF_of_occ _ (fun p hp => ?_)
      have h1 := occ_pos_all _ hfa hp
      unfold okd
      rcases h1 with h1 | h1
      · by_cases e : (p : Int) < n
        · exact Or.inl ⟨e, by omega⟩
        · exact absurd hp (hab.mp z p (by omega) h1.2)
      · by_cases e : (p : Int) < 100 + C 12 n
        · exact Or.inr ⟨by omega, e⟩
        · have h2 := hh (p - 100) (by omega) (by omega)
          rw [show 100 + (p - 100) = p by omega] at h2
          omega
    · have h1 := occ_nn (100 + j) (vC C x)
      by_cases e : 0 < occ (100 + j) (vC C x)
      · have h2 := occ_pos_all _ hall e
        unfold okd at h2
        omega
      · omega
  · have h2 := occ_pos_all _ hall f3
    unfold okd at h2
    omega
theorem c_parameter (hI : InvC C) (q0 : ¬ (0 ≤ a ∧ a ≤ 1) → Q (-2) C)
    (q1 : 0 ≤ a ∧ a ≤ 1 → ∀ x, 0 ≤ x → x < C 1 8 → C 4 x = 100 + a → C 5 x = -9 → C 6 x = -9 → Q x C)
    (q2 : 0 ≤ a ∧ a ≤ 1 → (∀ x, 0 ≤ x → x < C 1 8 → ¬ (C 4 x = 100 + a ∧ C 5 x = -9 ∧ C 6 x = -9)) → C 1 8 = 90 → Q (-4) C)
    (q3 : 0 ≤ a ∧ a ≤ 1 → (∀ x, 0 ≤ x → x < C 1 8 → ¬ (C 4 x = 100 + a ∧ C 5 x = -9 ∧ C 6 x = -9)) → C 1 8 < 90 → ∀ C', InvC C' → grown C C' (100 + a) (-9) (-9) → Q (C 1 8) C') : w_X3_parameter C a Q := by
  refine ⟨fun z => q0 (by omega), fun z => ⟨fun z2 => ⟨by unfold rg; omega, ?_⟩, fun z2 => q0 (by omega)⟩⟩
  have ha : 0 ≤ a ∧ a ≤ 1 := by omega
  refine h_num hI (Or.inl ⟨by omega, rfl, rfl⟩) ?_ (q1 ha) (q2 ha) (q3 ha)
  have e : dC C (-9) = 0 := by
    unfold dC
    rw [if_neg (by omega)]
  rw [e]
  decide
/-- the node that term(n, a, b) asks for is there to be had -/
def tUnk (C : Mem) (n a b : Int) : Prop := ¬ isnm C n ∨ (0 < C 12 n ∧ ¬ made C a) ∨ (1 < C 12 n ∧ ¬ made C b)
def tOut (C : Mem) (n a b : Int) : Prop := (C 12 n < 1 ∧ a ≠ -9) ∨ (C 12 n < 2 ∧ b ≠ -9)
theorem c_term (hI : InvC C) (qU : tUnk C n a b → Q (-1) C) (qO : ¬ tUnk C n a b → tOut C n a b → Q (-2) C) (qS : ¬ tUnk C n a b → ¬ tOut C n a b → 4 < 1 + imax (dC C a) (dC C b) → Q (-3) C)
    (q1 : ¬ tUnk C n a b → ¬ tOut C n a b → 1 + imax (dC C a) (dC C b) ≤ 4 → ∀ x, 0 ≤ x → x < C 1 8 → C 4 x = n → C 5 x = a → C 6 x = b → Q x C)
    (q2 : ¬ tUnk C n a b → ¬ tOut C n a b → 1 + imax (dC C a) (dC C b) ≤ 4 → (∀ x, 0 ≤ x → x < C 1 8 → ¬ (C 4 x = n ∧ C 5 x = a ∧ C 6 x = b)) → C 1 8 = 90 → Q (-4) C)
    (q3 : ¬ tUnk C n a b → ¬ tOut C n a b → 1 + imax (dC C a) (dC C b) ≤ 4 → (∀ x, 0 ≤ x → x < C 1 8 → ¬ (C 4 x = n ∧ C 5 x = a ∧ C 6 x = b)) → C 1 8 < 90 → ∀ C', InvC C' → vnode C n a b → grown C C' n a b → Q (C 1 8) C') : w_X3_term C n a b Q := by
  obtain ⟨hB, ⟨t0, t9, th⟩, hT, hTC, hNC, hb⟩ := id hI
  have h12 := hB.2.1
  by_cases hn : isnm C n
  · have har := (hB.2.2 n hn.1 hn.2).1
    refine h_has1 hn ⟨fun _ => h_ar h12 hn ?_, fun z => absurd z (by decide)⟩
    have fin : ¬ tUnk C n a b → ¬ tOut C n a b → w_X3_term_J90 Q C n a b := by
      intro hU hO
      have ta := (tc_rng hTC a).1
      have tb := (tc_rng hTC b).1
      refine e_depA t9 ?_ ⟨fun hd => ?_, fun hd => qS hU hO (by omega)⟩
      · unfold rg imax
        split <;> omega
      · have hv : vnode C n a b := by
          unfold tUnk at hU
          unfold tOut at hO
          unfold made at hU
          refine Or.inr ⟨hn, fun z => ?_, fun z => ?_, fun z => ?_, fun z => ?_⟩ <;> omega
        exact h_num hI hv hd (q1 hU hO hd) (q2 hU hO hd) (fun h1 h2 C' h3 h4 => q3 hU hO hd h1 h2 C' h3 hv h4)
    have j75 : ¬ tUnk C n a b → ¬ (C 12 n < 1 ∧ a ≠ -9) → w_X3_term_J75 Q C n a b (C 12 n) := fun hU h1 =>
      ⟨fun z => fin hU (by unfold tOut; omega), fun z => ⟨fun e => fin hU (by unfold tOut; omega), fun e => qO hU (by unfold tOut; omega)⟩⟩
    have j60 : ¬ tUnk C n a b → w_X3_term_J60 Q C n a b (C 12 n) := fun hU =>
      ⟨fun z => j75 hU (by omega), fun z => ⟨fun e => j75 hU (by omega), fun e => qO hU (by unfold tOut; omega)⟩⟩
    have j41 : ¬ (0 < C 12 n ∧ ¬ made C a) → w_X3_term_J41 Q C n a b (C 12 n) := fun h1 => by
      refine ⟨fun z => j60 (fun hU => ?_), fun z => ?_⟩
      · unfold tUnk at hU
        rcases hU with h | h | h
        · exact h hn
        · exact h1 h
        · omega
      · by_cases hm : made C b
        · refine h_made1 hm ⟨fun _ => j60 (fun hU => ?_), fun e => absurd e (by decide)⟩
          unfold tUnk at hU
          rcases hU with h | h | h
          · exact h hn
          · exact h1 h
          · exact h.2 hm
        · exact h_made0 hm ⟨fun e => absurd rfl e, fun _ => qU (Or.inr (Or.inr ⟨by omega, hm⟩))⟩
    refine ⟨fun z => j41 (by omega), fun z => ?_⟩
    by_cases hm : made C a
    · exact h_made1 hm ⟨fun _ => j41 (fun h => h.2 hm), fun e => absurd e (by decide)⟩
    · exact h_made0 hm ⟨fun e => absurd rfl e, fun _ => qU (Or.inr (Or.inl ⟨by omega, hm⟩))⟩
  · exact h_has0 hn ⟨fun e => absurd rfl e, fun _ => qU (Or.inl hn)⟩
theorem c_define (hI : InvC C) (q0 : ¬ isnm C n → Q (-1) C) (q1 : isnm C n → x ≠ -9 → ¬ made C x → Q (-1) C) (q2 : isnm C n → x ≠ -9 → made C x → ¬ allF (okd n (C 12 n)) (vC C x) → Q (-3) C)
    (q3 : isnm C n → (x = -9 ∨ (made C x ∧ allF (okd n (C 12 n)) (vC C x))) → ∀ C', InvC C' → nsame C C' → C' 2 = C 2 → C' 12 = C 12 → (∀ i, C' 13 i = if i = n then x else C 13 i) → C' 14 = C 14 → Q (C 13 n) C') : w_X3_define C n x Q := by
  have h12 := hI.1.2.1
  by_cases hn : isnm C n
  · have re : (x = -9 ∨ (made C x ∧ allF (okd n (C 12 n)) (vC C x))) → w_X1_redefine C n x Q := fun hx => by
      refine h_has1 hn ⟨fun _ => ⟨by have := hn.1; have := hn.2; omega, by have := hn.1; have := hn.2; omega, h_mark hI hn (Or.inl ⟨rfl, ?_⟩) (fun C' i1 i2 i3 i4 i5 => q3 hn hx C' i1 i2 i3 i4 (fun i => ?_) ?_)⟩, fun e => absurd e (by decide)⟩
      · rcases hx with hx | hx
        · exact Or.inl hx
        · exact Or.inr ⟨hx.1.1, hx.1.2, hx.2⟩
      · rw [i5 13 i (Or.inl rfl)]
        simp
      · funext i
        rw [i5 14 i (Or.inr rfl)]
        simp
    refine h_has1 hn ⟨fun _ => ⟨fun hx => ?_, fun hx => ?_⟩, fun e => absurd e (by decide)⟩
    · by_cases hm : made C x
      · refine h_made1 hm ⟨fun _ => h_may hI hn hm (fun ha => ⟨fun _ => re (Or.inr ⟨hm, ha⟩), fun e => absurd e (by decide)⟩) (fun ha => ⟨fun e => absurd rfl e, fun _ => q2 hn hx hm ha⟩), fun e => absurd e (by decide)⟩
      · exact h_made0 hm ⟨fun e => absurd rfl e, fun _ => q1 hn hx hm⟩
    · subst hx
      exact re (Or.inl rfl)
  · exact h_has0 hn ⟨fun e => absurd rfl e, fun _ => q0 hn⟩
theorem c_opaque (hI : InvC C) (hy : b01 y) (q0 : ¬ isnm C n → Q (-1) C) (q1 : isnm C n → C 14 n = y → Q 0 C)
    (q2 : isnm C n → C 14 n ≠ y → ∀ C', InvC C' → nsame C C' → C' 2 = C 2 → C' 12 = C 12 → (∀ i, C' 14 i = if i = n then y else C 14 i) → C' 13 = C 13 → Q 1 C') : w_X3_opaque C n y Q := by
  have h12 := hI.1.2.1
  by_cases hn : isnm C n
  · refine h_has1 hn ⟨fun _ => h_has1 hn ⟨fun e => absurd e (by decide), fun _ => ⟨by have := hn.1; have := hn.2; omega, fun hne => ⟨hy, by have := hn.1; have := hn.2; omega, h_mark hI hn (Or.inr ⟨rfl, hy⟩) (fun C' i1 i2 i3 i4 i5 => ⟨fun e => absurd e (by decide), fun _ => q2 hn hne C' i1 i2 i3 i4 (fun i => ?_) ?_⟩)⟩, fun he => ⟨fun _ => q1 hn he, fun e => absurd rfl e⟩⟩⟩, fun e => absurd e (by decide)⟩
    · rw [i5 14 i (Or.inr rfl)]
      simp
    · funext i
      rw [i5 13 i (Or.inl rfl)]
      simp
  · exact h_has0 hn ⟨fun e => absurd rfl e, fun _ => q0 hn⟩
theorem c_ofName (hI : InvC C) (q0 : ¬ isnm C n → Q (-1) C) (q1 : isnm C n → Q (if x = 0 then C 12 n else if x = 1 then C 13 n else if x = 2 then C 14 n else if x = 3 then C 15 n else -2) C) : w_X3_ofName C n x Q := by
  have h12 := hI.1.2.1
  by_cases hn : isnm C n
  · have q := q1 hn
    have hb := (hI.1.2.2 n hn.1 hn.2).2.1
    refine h_has1 hn ⟨fun _ => ⟨fun h => ?_, fun h => h_ar h12 hn ?_, fun h => h_def h12 hn ?_, fun h => h_opq h12 hn (fun z => ⟨fun _ => ?_, fun e => absurd rfl e⟩) (fun z => ⟨fun e => absurd e (by decide), fun _ => ?_⟩), fun h => h_hgt h12 hn ?_⟩, fun e => absurd e (by decide)⟩
    · rw [if_neg (by omega), if_neg (by omega), if_neg (by omega), if_neg (by omega)] at q
      exact q
    · rw [if_pos h] at q
      exact q
    · rw [if_neg (by omega), if_pos h] at q
      exact q
    · rw [if_neg (by omega), if_neg (by omega), if_pos h, z] at q
      exact q
    · rw [if_neg (by omega), if_neg (by omega), if_pos h, show C 14 n = 1 by unfold b01 at hb; omega] at q
      exact q
    · rw [if_neg (by omega), if_neg (by omega), if_neg (by omega), if_pos h] at q
      exact q
  · exact h_has0 hn ⟨fun e => absurd rfl e, fun _ => q0 hn⟩
theorem h_closed (h9 : C 1 8 ≤ 90) (hx : made C x) (q1 : C 10 x = 0 ∧ C 11 x = 0 → Q 1 C) (q0 : ¬ (C 10 x = 0 ∧ C 11 x = 0) → Q 0 C) : w_X2_isClosed C x Q :=
  h_tp0 h9 (fun _ => ⟨fun z => q0 (fun h => z h.1), fun z => h_tp1 h9 (by decide) (fun _ => ⟨fun z2 => q0 (fun h => z2 h.2), fun z2 => q1 ⟨z, z2⟩⟩) (fun z => absurd hx z)⟩) (fun z => absurd hx z)
theorem c_ofTerm (hI : InvC C) (q0 : ¬ made C x → Q (-1) C) (q1 : made C x → Q (if y = 0 then (if 100 ≤ C 4 x then -9 else C 4 x) else if y = 1 then C 5 x else if y = 2 then C 6 x else if y = 3 then (if 100 ≤ C 4 x then C 4 x - 100 else -9) else if y = 4 then (if C 10 x = 0 ∧ C 11 x = 0 then 1 else 0) else if y = 5 then C 7 x else -2) C) : w_X3_ofTerm C x y Q := by
  obtain ⟨hB, ⟨t0, t9, th⟩, hT, hTC, hNC, hb⟩ := id hI
  by_cases hx : made C x
  · have q := q1 hx
    have hh : 0 ≤ x ∧ x < C 1 9 := by rw [th]; exact hx
    have hf := hT.fr hx.1 hx.2 hB.2.1
    refine h_made1 hx ⟨fun _ => h_front (by omega) hh ⟨fun h => ?_, fun h => ⟨fun z => ?_, fun z => ?_⟩, fun h => h_part0 (by omega) hh ?_, fun h => h_part1 (by omega) hh ?_, fun h => ⟨fun z => ⟨by unfold rg; have := hB.2.1; omega, ?_⟩, fun z => ?_⟩, fun h => h_closed t9 hx (fun z => ⟨fun e => absurd e (by decide), fun _ => ?_⟩) (fun z => ⟨fun _ => ?_, fun e => absurd rfl e⟩), fun h => h_dep t9 (fun _ => ?_) (fun z => absurd hx z)⟩, fun e => absurd e (by decide)⟩
    · rw [if_neg (by omega), if_neg (by omega), if_neg (by omega), if_neg (by omega), if_neg (by omega), if_neg (by omega)] at q
      exact q
    · rw [if_pos h, if_pos z] at q
      exact q
    · rw [if_pos h, if_neg z] at q
      exact q
    · rw [if_neg (by omega), if_pos h] at q
      exact q
    · rw [if_neg (by omega), if_neg (by omega), if_pos h] at q
      exact q
    · rw [if_neg (by omega), if_neg (by omega), if_neg (by omega), if_pos h, if_pos z] at q
      exact q
    · rw [if_neg (by omega), if_neg (by omega), if_neg (by omega), if_pos h, if_neg z] at q
      exact q
    · rw [if_neg (by omega), if_neg (by omega), if_neg (by omega), if_neg (by omega), if_pos h, if_pos z] at q
      exact q
    · rw [if_neg (by omega), if_neg (by omega), if_neg (by omega), if_neg (by omega), if_pos h, if_neg z] at q
      exact q
    · rw [if_neg (by omega), if_neg (by omega), if_neg (by omega), if_neg (by omega), if_neg (by omega), if_pos h] at q
      exact q
  · exact h_made0 hx ⟨fun e => absurd rfl e, fun _ => q0 hx⟩
end H
