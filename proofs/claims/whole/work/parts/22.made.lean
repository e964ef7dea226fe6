/-! the class: a term comes -/
theorem siz_dep (t : Tr) : ∀ k : Nat, dep t ≤ k → siz t + 1 ≤ 2 ^ k := by
  refine tr_ind (P := fun t => ∀ k : Nat, dep t ≤ k → siz t + 1 ≤ 2 ^ k) ?_ ?_ t
  · intro t hn k _
    have hs : siz t = 0 := by
      match t, hn with
      | .op (.var f) (.op a b), hn => exact absurd rfl (hn f a b)
      | .var _, _ => rfl
      | .op (.op _ _) _, _ => rfl
      | .op (.var _) (.var _), _ => rfl
    rw [hs]
    have : (0 : Int) < 2 ^ k := Int.pow_pos (by decide)
    omega
  · intro f a b ha hb k hk
    rw [dep_nd] at hk
    have na := dep_nn a
    have nb := dep_nn b
    cases k with
    | zero =>
      split at hk <;> omega
    | succ k =>
      have h1 := ha k (by split at hk <;> omega)
      have h2 := hb k (by split at hk <;> omega)
      rw [siz_nd, Int.pow_succ]
      omega
theorem occ_siz (p : Nat) (t : Tr) : occ p t ≤ siz t := by
  refine tr_ind (P := fun t => occ p t ≤ siz t) ?_ ?_ t
  · intro t hn
    match t, hn with
    | .op (.var f) (.op a b), hn => exact absurd rfl (hn f a b)
    | .var _, _ => exact Int.le_refl _
    | .op (.op _ _) _, _ => exact Int.le_refl _
    | .op (.var _) (.var _), _ => exact Int.le_refl _
  · intro f a b ha hb
    rw [occ_nd, siz_nd]
    split <;> omega
theorem tc_range {C : Mem} {x : Int} (h : tcache C x) : (0 ≤ C 7 x ∧ C 7 x ≤ 4) ∧ (0 ≤ C 8 x ∧ C 8 x ≤ 15) ∧ (0 ≤ C 10 x ∧ C 10 x ≤ 15) ∧ (0 ≤ C 11 x ∧ C 11 x ≤ 15) := by
  obtain ⟨h1, h2, h3, h4, h5, h6⟩ := h
  have a1 := dep_nn (vC C x)
  have a2 := siz_nn (vC C x)
  have a3 := occ_nn 100 (vC C x)
  have a4 := occ_nn 101 (vC C x)
  have b3 := occ_siz 100 (vC C x)
  have b4 := occ_siz 101 (vC C x)
  have a5 := siz_dep (vC C x) 4 (by omega)
  have e : (2 : Int) ^ 4 = 16 := by decide
  rw [e] at a5
  omega
def dC (M : Mem) (x : Int) : Int := if 0 ≤ x ∧ x < M 1 8 then M 7 x else 0
def sC (M : Mem) (x : Int) : Int := if 0 ≤ x ∧ x < M 1 8 then M 8 x else 0
def nC (M : Mem) (x : Int) : Int := if 0 ≤ x ∧ x < M 1 8 then M 9 x else 0
def pC (M : Mem) (x : Int) : Int := if 0 ≤ x ∧ x < M 1 8 then M 10 x else 0
def rC (M : Mem) (x : Int) : Int := if 0 ≤ x ∧ x < M 1 8 then M 11 x else 0
section H
variable {M : Mem} {Q : Int → Mem → Prop} {x y : Int}
theorem e_dep (h9 : M 1 8 ≤ 90) (q : Q (dC M x) M) : w_X2_depthOf M x Q := h_dep h9 (fun h => by unfold dC at q; rw [if_pos h] at q; exact q) (fun h => by unfold dC at q; rw [if_neg h] at q; exact q)
theorem e_siz (h9 : M 1 8 ≤ 90) (q : Q (sC M x) M) : w_X2_sizeOf M x Q := h_siz h9 (fun h => by unfold sC at q; rw [if_pos h] at q; exact q) (fun h => by unfold sC at q; rw [if_neg h] at q; exact q)
theorem e_nin (h9 : M 1 8 ≤ 90) (q : Q (nC M x) M) : w_X2_namesIn M x Q := h_nin h9 (fun h => by unfold nC at q; rw [if_pos h] at q; exact q) (fun h => by unfold nC at q; rw [if_neg h] at q; exact q)
theorem e_tp0 (h9 : M 1 8 ≤ 90) (q : Q (pC M x) M) : w_X2_timesOfParameter M x 0 Q := h_tp0 h9 (fun h => by unfold pC at q; rw [if_pos h] at q; exact q) (fun h => by unfold pC at q; rw [if_neg h] at q; exact q)
theorem e_tp1 (h9 : M 1 8 ≤ 90) (q : Q (rC M x) M) : w_X2_timesOfParameter M x 1 Q := h_tp1 h9 (by decide) (fun h => by unfold rC at q; rw [if_pos h] at q; exact q) (fun h => by unfold rC at q; rw [if_neg h] at q; exact q)
theorem e_depA (h9 : M 1 8 ≤ 90) (g : rg (1 + imax (dC M x) (dC M y))) (q : Q (1 + imax (dC M x) (dC M y)) M) : w_X2_depthAbove M x y Q := e_dep h9 (e_dep h9 ⟨g, q⟩)
theorem h_findL {f a b : Int} (h3 : M 1 9 ≤ 370) (q1 : ∀ x, 0 ≤ x → x < M 1 9 → M 4 x = f → M 5 x = a → M 6 x = b → Q x M) (q0 : (∀ x, 0 ≤ x → x < M 1 9 → ¬ (M 4 x = f ∧ M 5 x = a ∧ M 6 x = b)) → Q (-9) M) :
    ∀ (n : Nat) (x : Int), 0 ≤ x → x ≤ M 1 9 → M 1 9 - x < n → (∀ y, 0 ≤ y → y < x → ¬ (M 4 y = f ∧ M 5 y = a ∧ M 6 y = b)) → w_X2_find_L3 Q n M f a b x := by
  intro n
  induction n with
  | zero =>
    intro x h0 hle hn hx
    omega
  | succ n ih =>
    intro x h0 hle hn hx
    have go : ¬ (M 4 x = f ∧ M 5 x = a ∧ M 6 x = b) → x < M 1 9 → rg (x + 1) ∧ w_X2_find_L3 Q n M f a b (x + 1) := fun hne hl => by
      refine ⟨by unfold rg; omega, ih (x + 1) (by omega) (by omega) (by omega) (fun y h1 h2 => ?_)⟩
      by_cases e : y = x
      · rw [e]
        exact hne
      · exact hx y h1 (by omega)
    rw [w_X2_find_L3]
    refine ⟨fun h => q0 (fun y h1 h2 => hx y h1 (by omega)), fun h => ⟨by omega, fun e => go (fun z => e z.1) (by omega), fun e1 => ⟨by omega, fun e => go (fun z => e z.2.1) (by omega), fun e2 => ⟨by omega, fun e => go (fun z => e z.2.2) (by omega), fun e3 => q1 x h0 (by omega) e1 e2 e3⟩⟩⟩⟩
theorem h_find {f a b : Int} (h0 : 0 ≤ M 1 9) (h3 : M 1 9 ≤ 370) (q1 : ∀ x, 0 ≤ x → x < M 1 9 → M 4 x = f → M 5 x = a → M 6 x = b → Q x M) (q0 : (∀ x, 0 ≤ x → x < M 1 9 → ¬ (M 4 x = f ∧ M 5 x = a ∧ M 6 x = b)) → Q (-9) M) : w_X2_find M f a b Q :=
  ⟨(M 1 9).toNat + 1, h_findL h3 q1 q0 _ 0 (Int.le_refl 0) h0 (by omega) (fun y h1 h2 => by omega)⟩
theorem h_meas {Q : Mem → Prop} (h9 : M 1 8 ≤ 90) (hx : 0 ≤ x ∧ x < M 1 8) (hd : (0 ≤ dC M (M 5 x) ∧ dC M (M 5 x) ≤ 4) ∧ (0 ≤ dC M (M 6 x) ∧ dC M (M 6 x) ≤ 4)) (hs : (0 ≤ sC M (M 5 x) ∧ sC M (M 5 x) ≤ 15) ∧ (0 ≤ sC M (M 6 x) ∧ sC M (M 6 x) ≤ 15)) (hp : (0 ≤ pC M (M 5 x) ∧ pC M (M 5 x) ≤ 15) ∧ (0 ≤ pC M (M 6 x) ∧ pC M (M 6 x) ≤ 15)) (hr : (0 ≤ rC M (M 5 x) ∧ rC M (M 5 x) ≤ 15) ∧ (0 ≤ rC M (M 6 x) ∧ rC M (M 6 x) ≤ 15))
    (q : Q (up (up (up (up (up M 7 x (1 + imax (dC M (M 5 x)) (dC M (M 6 x)))) 8 x ((1 + sC M (M 5 x)) + sC M (M 6 x))) 9 x (bor (bor (nC M (M 5 x)) (nC M (M 6 x))) (if 100 ≤ M 4 x then 0 else bshl 1 (M 4 x)))) 10 x ((pC M (M 5 x) + pC M (M 6 x)) + (if M 4 x = 100 then 1 else 0))) 11 x ((rC M (M 5 x) + rC M (M 6 x)) + (if M 4 x ≤ 100 then 0 else 1)))) : w_X2_measure M x Q := by
  have gd : rg (1 + imax (dC M (M 5 x)) (dC M (M 6 x))) := by
    unfold rg imax
    split <;> omega
  refine h_made1 hx ⟨fun _ => ⟨by omega, by omega, by omega, e_depA h9 gd ⟨by omega, e_siz h9 ⟨?_, e_siz h9 ⟨?_, by omega, e_nin h9 (e_nin h9 ⟨fun h => ?_, fun h => ?_⟩)⟩⟩⟩⟩, fun e => absurd e (by decide)⟩
  · show rg (1 + sC M (M 5 x))
    unfold rg
    omega
  · show rg ((1 + sC M (M 5 x)) + sC M (M 6 x))
    unfold rg
    omega
  · rw [if_pos h] at q
    refine ⟨by omega, e_tp0 h9 (e_tp0 h9 ⟨?_, fun h2 => ?_, fun h2 => ?_⟩)⟩
    · show rg (pC M (M 5 x) + pC M (M 6 x))
      unfold rg
      omega
    · rw [if_neg h2] at q
      refine ⟨?_, by omega, e_tp1 h9 (e_tp1 h9 ⟨?_, fun h3 => ?_, fun h3 => ?_⟩)⟩
      · show rg ((pC M (M 5 x) + pC M (M 6 x)) + 0)
        unfold rg
        omega
      · show rg (rC M (M 5 x) + rC M (M 6 x))
        unfold rg
        omega
      · omega
      · rw [if_neg h3] at q
        refine ⟨?_, by omega, q⟩
        show rg ((rC M (M 5 x) + rC M (M 6 x)) + 1)
        unfold rg
        omega
    · rw [if_pos h2] at q
      refine ⟨?_, by omega, e_tp1 h9 (e_tp1 h9 ⟨?_, fun h3 => ?_, fun h3 => ?_⟩)⟩
      · show rg ((pC M (M 5 x) + pC M (M 6 x)) + 1)
        unfold rg
        omega
      · show rg (rC M (M 5 x) + rC M (M 6 x))
        unfold rg
        omega
      · rw [if_pos h3] at q
        refine ⟨?_, by omega, q⟩
        show rg ((rC M (M 5 x) + rC M (M 6 x)) + 0)
        unfold rg
        omega
      · omega
  · rw [if_neg h] at q
    refine ⟨by omega, e_tp0 h9 (e_tp0 h9 ⟨?_, fun h2 => ?_, fun h2 => ?_⟩)⟩
    · show rg (pC M (M 5 x) + pC M (M 6 x))
      unfold rg
      omega
    · rw [if_neg h2] at q
      refine ⟨?_, by omega, e_tp1 h9 (e_tp1 h9 ⟨?_, fun h3 => ?_, fun h3 => ?_⟩)⟩
      · show rg ((pC M (M 5 x) + pC M (M 6 x)) + 0)
        unfold rg
        omega
      · show rg (rC M (M 5 x) + rC M (M 6 x))
        unfold rg
        omega
      · rw [if_pos h3] at q
        refine ⟨?_, by omega, q⟩
        show rg ((rC M (M 5 x) + rC M (M 6 x)) + 0)
        unfold rg
        omega
      · omega
    · omega
end H
