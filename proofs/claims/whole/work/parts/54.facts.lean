theorem it_u3b1 {A B C E Z : Type} {f : A → B → C → Option ((A × B × C) ⊕ E)} {k : E → Option Z} {z : Option Z} {a0 : A} {b0 : B} {c0 : C} {e : E} {n : Nat} (P : Nat → A) (Q : Nat → B) (R : Nat → C) (h0 : (a0, b0, c0) = (P 0, Q 0, R 0)) (hn : n < 1000000) (hs : ∀ i, i < n → f (P i) (Q i) (R i) = some (.inl (P (i + 1), Q (i + 1), R (i + 1)))) (he : f (P n) (Q n) (R n) = some (.inr e)) (hk : k e = z) : am_b1 (am_it am_fu (am_u3 f) (a0, b0, c0)) k = z :=
  it_b1 (fun i => (P i, Q i, R i)) h0 hn hs he hk
theorem it_u4b3 {A B C D E1 E2 E3 Z : Type} {f : A → B → C → D → Option ((A × B × C × D) ⊕ (E1 × E2 × E3))} {k : E1 → E2 → E3 → Option Z} {z : Option Z} {a0 : A} {b0 : B} {c0 : C} {d0 : D} {e1 : E1} {e2 : E2} {e3 : E3} {n : Nat} (P : Nat → A) (Q : Nat → B) (R : Nat → C) (T : Nat → D) (h0 : (a0, b0, c0, d0) = (P 0, Q 0, R 0, T 0)) (hn : n < 1000000) (hs : ∀ i, i < n → f (P i) (Q i) (R i) (T i) = some (.inl (P (i + 1), Q (i + 1), R (i + 1), T (i + 1)))) (he : f (P n) (Q n) (R n) (T n) = some (.inr (e1, e2, e3))) (hk : k e1 e2 e3 = z) : am_b3 (am_it am_fu (am_u4 f) (a0, b0, c0, d0)) k = z := by
  rw [h0, am_it_up (f := am_u4 f) (fun i => (P i, Q i, R i, T i)) (e := (e1, e2, e3)) hn hs he]; exact hk
theorem it_u5b4 {A B C D F E1 E2 E3 E4 Z : Type} {f : A → B → C → D → F → Option ((A × B × C × D × F) ⊕ (E1 × E2 × E3 × E4))} {k : E1 → E2 → E3 → E4 → Option Z} {z : Option Z} {a0 : A} {b0 : B} {c0 : C} {d0 : D} {f0 : F} {e1 : E1} {e2 : E2} {e3 : E3} {e4 : E4} {n : Nat} (P : Nat → A) (Q : Nat → B) (R : Nat → C) (T : Nat → D) (U : Nat → F) (h0 : (a0, b0, c0, d0, f0) = (P 0, Q 0, R 0, T 0, U 0)) (hn : n < 1000000) (hs : ∀ i, i < n → f (P i) (Q i) (R i) (T i) (U i) = some (.inl (P (i + 1), Q (i + 1), R (i + 1), T (i + 1), U (i + 1)))) (he : f (P n) (Q n) (R n) (T n) (U n) = some (.inr (e1, e2, e3, e4))) (hk : k e1 e2 e3 e4 = z) : am_b4 (am_it am_fu (am_u5 f) (a0, b0, c0, d0, f0)) k = z := by
  rw [h0, am_it_up (f := am_u5 f) (fun i => (P i, Q i, R i, T i, U i)) (e := (e1, e2, e3, e4)) hn hs he]; exact hk
/-- the first of the greatest -/
def fv (s : Nat → Int32) : Nat → Nat
  | 0 => 0
  | i + 1 => if s (i + 1) ≤ s (fv s i) then fv s i else i + 1
theorem fv_le (s : Nat → Int32) : ∀ i, fv s i ≤ i
  | 0 => Nat.le_refl 0
  | i + 1 => by
    unfold fv
    have := fv_le s i
    split <;> omega
theorem fv_c {s r : Nat → Int32} : ∀ {i : Nat}, (∀ j, j ≤ i → s j = r j) → fv s i = fv r i
  | 0, _ => rfl
  | i + 1, h => by
    have e := fv_c (s := s) (r := r) (i := i) (fun j hj => h j (by omega))
    have hl := fv_le r i
    unfold fv
    rw [e, h (i + 1) (Nat.le_refl _), h (fv r i) (by omega)]
theorem fv_1 (s : Nat → Int32) (i : Nat) : nI (fv s (i + 1)) = if s (i + 1) ≤ s (fv s i) then nI (fv s i) else nI (i + 1) := by
  show nI (if s (i + 1) ≤ s (fv s i) then fv s i else i + 1) = _
  split <;> rfl
theorem x4 (q : Nat) : nI q * 4 = nI (4 * q) := by rw [show (4 : Int32) = nI 4 from rfl, pk_mul, Nat.mul_comm]
theorem e_fav_7 {I : am_IT} {c q : Nat} (hc : I 1 0 = nI c) (h1 : 2 ≤ c) (h2 : c ≤ 4) (hq : q < 7) : F_X9_favourite_1_7 I (nI q) = some (nI (fv (fun k => I 7 (4 * q + k)) (c - 1))) := by
  unfold F_X9_favourite_1_7
  rw [x4, am_let_s]
  refine it_u2 (fun i => nI (fv (fun k => I 7 (4 * q + k)) i)) (fun i => nI (i + 1)) (n := c - 1) (e := nI (fv (fun k => I 7 (4 * q + k)) (c - 1))) rfl (by omega) (fun i hi => ?_) ?_ rfl
  · have hl := fv_le (fun k => I 7 (4 * q + k)) i
    rw [hc, if_neg (nI_ge (a := i + 1) (by omega) (by omega)), nI_add, nI_add, if_pos (am_ix_nI (by omega) (by decide)), if_pos (am_ix_nI (by omega) (by decide)), nI_clamp (by omega), nI_clamp (by omega), fv_1, nI_succ (i + 1)]
    by_cases h : I 7 (4 * q + (i + 1)) ≤ I 7 (4 * q + fv (fun k => I 7 (4 * q + k)) i)
    · rw [if_pos h, if_pos h]; rfl
    · rw [if_neg h, if_neg h]; rfl
  · rw [hc, if_pos (nI_le (a := c) (b := c - 1 + 1) (by omega) (by omega))]
theorem e_fav_8 {I : am_IT} {c q : Nat} (hc : I 1 0 = nI c) (h1 : 2 ≤ c) (h2 : c ≤ 4) (hq : q < 7) : F_X9_favourite_1_8 I (nI q) = some (nI (fv (fun k => I 8 (4 * q + k)) (c - 1))) := by
  unfold F_X9_favourite_1_8
  rw [x4, am_let_s]
  refine it_u2 (fun i => nI (fv (fun k => I 8 (4 * q + k)) i)) (fun i => nI (i + 1)) (n := c - 1) (e := nI (fv (fun k => I 8 (4 * q + k)) (c - 1))) rfl (by omega) (fun i hi => ?_) ?_ rfl
  · have hl := fv_le (fun k => I 8 (4 * q + k)) i
    rw [hc, if_neg (nI_ge (a := i + 1) (by omega) (by omega)), nI_add, nI_add, if_pos (am_ix_nI (by omega) (by decide)), if_pos (am_ix_nI (by omega) (by decide)), nI_clamp (by omega), nI_clamp (by omega), fv_1, nI_succ (i + 1)]
    by_cases h : I 8 (4 * q + (i + 1)) ≤ I 8 (4 * q + fv (fun k => I 8 (4 * q + k)) i)
    · rw [if_pos h, if_pos h]; rfl
    · rw [if_neg h, if_neg h]; rfl
  · rw [hc, if_pos (nI_le (a := c) (b := c - 1 + 1) (by omega) (by omega))]
theorem e_fav_27 {I : am_IT} {c q : Nat} (hc : I 1 0 = nI c) (h1 : 2 ≤ c) (h2 : c ≤ 4) (hq : q < 7) : F_X9_favourite_1_27 I (nI q) = some (nI (fv (fun k => I 27 (4 * q + k)) (c - 1))) := by
  unfold F_X9_favourite_1_27
  rw [x4, am_let_s]
  refine it_u2 (fun i => nI (fv (fun k => I 27 (4 * q + k)) i)) (fun i => nI (i + 1)) (n := c - 1) (e := nI (fv (fun k => I 27 (4 * q + k)) (c - 1))) rfl (by omega) (fun i hi => ?_) ?_ rfl
  · have hl := fv_le (fun k => I 27 (4 * q + k)) i
    rw [hc, if_neg (nI_ge (a := i + 1) (by omega) (by omega)), nI_add, nI_add, if_pos (am_ix_nI (by omega) (by decide)), if_pos (am_ix_nI (by omega) (by decide)), nI_clamp (by omega), nI_clamp (by omega), fv_1, nI_succ (i + 1)]
    by_cases h : I 27 (4 * q + (i + 1)) ≤ I 27 (4 * q + fv (fun k => I 27 (4 * q + k)) i)
    · rw [if_pos h, if_pos h]; rfl
    · rw [if_neg h, if_neg h]; rfl
  · rw [hc, if_pos (nI_le (a := c) (b := c - 1 + 1) (by omega) (by omega))]
theorem e_says {I : am_IT} {q k : Nat} (h49 : I 55 49 = -1) (hq : q < 7) (hk : k < 4) : F_X12_says_55 I (nI q) (nI k) = some (I 64 (4 * q + k)) := by
  unfold F_X12_says_55
  have hne : ¬ nI q = -1 := by
    intro e
    have := congrArg Int32.toInt e
    rw [nI_toInt (by omega)] at this
    have h1 : (-1 : Int32).toInt = -1 := rfl
    omega
  rw [h49, if_neg hne, m4', if_pos (am_ix_nI (by omega) (by decide)), nI_clamp (by omega)]
theorem e_bc {I : am_IT} {c q : Nat} {s : Nat → Int32} (hc : I 55 2 = nI c) (h1 : 2 ≤ c) (h2 : c ≤ 4) (hs : ∀ k, k < 4 → F_X12_says_55 I (nI q) (nI k) = some (s k)) : F_X12_bestColourOf_55 I (nI q) = some (nI (fv s (c - 1))) := by
  unfold F_X12_bestColourOf_55
  refine it_u2 (fun i => nI (fv s i)) (fun i => nI (i + 1)) (n := c - 1) (e := nI (fv s (c - 1))) rfl (by omega) (fun i hi => ?_) ?_ rfl
  · have hl := fv_le s i
    rw [hc, if_neg (nI_ge (a := i + 1) (by omega) (by omega)), hs (i + 1) (by omega), am_b1_s, hs (fv s i) (by omega), am_b1_s, fv_1, nI_succ (i + 1)]
    by_cases h : s (i + 1) ≤ s (fv s i)
    · rw [if_pos h, if_pos h]; rfl
    · rw [if_neg h, if_neg h]; rfl
  · rw [hc, if_pos (nI_le (a := c) (b := c - 1 + 1) (by omega) (by omega))]
/-- facts of a wall, from the yards of each -/
def cN (y : Nat → Int32) : Nat → Nat
  | 0 => 0
  | i + 1 => if y i = 0 then cN y i else cN y i + 1
def fS (y : Nat → Int32) : Nat → Int32
  | 0 => 0
  | i + 1 => if y i = 0 then fS y i else fS y i + y i
def fX (y : Nat → Int32) : Nat → Int32
  | 0 => 0
  | i + 1 => if y i = 0 then fX y i else if y i ≤ fX y i then fX y i else y i
def fW (y : Nat → Int32) : Nat → Int32
  | 0 => -1
  | i + 1 => if y i = 0 then fW y i else if y i ≤ fX y i then fW y i else nI i
theorem cN_le (y : Nat → Int32) : ∀ i, cN y i ≤ i
  | 0 => Nat.le_refl 0
  | i + 1 => by
    unfold cN
    have := cN_le y i
    split <;> omega
def fJ (I : am_IT) (y : Nat → Int32) (p u : Nat) : am_IT := up2 (up2 (up2 (up2 (up2 (up2 I 28 0 (nI u)) 28 1 (nI (cN y p))) 28 2 (fS y p)) 28 3 (fX y p)) 28 4 (I 3 u)) 28 5 (I 1 2)
theorem e_gf {I : am_IT} {p u : Nat} {y : Nat → Int32} (hp : I 1 4 = nI p) (hp7 : p ≤ 7) (hu : u < 7) (hy : ∀ j, j < p → F_X8_yardsOf_23 I (nI j) (nI u) = some (y j)) (h0 : ∀ j, j < p → 0 ≤ y j) : F_X2_gatherFacts_25 I (nI u) = some (fJ I y p u) := by
  unfold F_X2_gatherFacts_25
  refine it_u4b3 (fun i => nI (cN y i)) (fun i => fS y i) (fun i => fX y i) (fun i => nI i) (n := p) (e1 := nI (cN y p)) (e2 := fS y p) (e3 := fX y p) rfl (by omega) (fun i hi => ?_) ?_ ?_
  · rw [hp, if_neg (nI_ge hi (by omega)), hy i hi, am_b1_s, nI_succ i]
    show _ = some (Sum.inl (nI (if y i = 0 then cN y i else cN y i + 1), (if y i = 0 then fS y i else fS y i + y i), (if y i = 0 then fX y i else if y i ≤ fX y i then fX y i else y i), nI i + 1))
    by_cases z : y i = 0
    · rw [if_pos (show y i ≤ 0 by rw [z]; decide), if_pos z, if_pos z, if_pos z]; rfl
    · rw [if_neg (fun l => z (Int32.le_antisymm l (h0 i hi))), if_neg z, if_neg z, if_neg z, nI_succ]
      by_cases l : y i ≤ fX y i
      · rw [if_pos l, if_neg (Int32.not_lt.mpr l)]; rfl
      · rw [if_neg l, if_pos (Int32.not_le.mp l)]; rfl
  · rw [hp, if_pos (nI_le (Nat.le_refl p) (by omega))]
  · rw [if_pos (by decide), am_let_s, if_pos (by decide), am_let_s, if_pos (by decide), am_let_s, if_pos (by decide), am_let_s, if_pos (am_ix_nI hu (by decide)), if_pos (by decide), am_let_s, if_pos (by decide), am_let_s, nI_clamp (by omega)]
    rfl
