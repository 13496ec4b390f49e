/-! text: the reference's copy of its draft -/
def cpL9 (c : Nat) (I : am_IT) : am_IT := fun q j => if (q = 75 ∨ q = 76 ∨ q = 77) ∧ j < c then I q (16 + j) else I q j
def cpC9 (c : Nat) (I : am_IT) : am_IT := fun q j => if (q = 78 ∨ q = 79) ∧ j < c then I q (400 + j) else I q j
theorem cpL_s (i : Nat) (I : am_IT) (hi : i < 16) : up2 (up2 (up2 (cpL9 i I) 75 i (I 75 (16 + i))) 76 i (I 76 (16 + i))) 77 i (I 77 (16 + i)) = cpL9 (i + 1) I := by
  funext q j
  unfold up2 cpL9
  by_cases hj : j = i
  · subst hj
    by_cases h1 : q = 77
    · subst h1; simp
    · by_cases h2 : q = 76
      · subst h2; simp
      · by_cases h3 : q = 75
        · subst h3; simp
        · simp [h1, h2, h3]
  · have e : (j < i + 1) ↔ (j < i) := by omega
    simp [hj, e]
theorem cpC_s (i : Nat) (I : am_IT) : up2 (up2 (cpC9 i I) 78 i (I 78 (400 + i))) 79 i (I 79 (400 + i)) = cpC9 (i + 1) I := by
  funext q j
  unfold up2 cpC9
  by_cases hj : j = i
  · subst hj
    by_cases h1 : q = 79
    · subst h1; simp
    · by_cases h2 : q = 78
      · subst h2; simp
      · simp [h1, h2]
  · have e : (j < i + 1) ↔ (j < i) := by omega
    simp [hj, e]
theorem r_textS {I J I' : am_IT} {r : Int32} {c N : Nat} (e1 : F_X12_reads_55 (tI9 I) = some J) (e2 : F_X12_readText_55 J = some (r, I')) (hr : r = nI c) (hc : c ≤ 16) (hN : N ≤ 400) (h38 : I' 55 38 = nI N) : F_X12_text_55 I = some (nI c, up2 (cpC9 N (cpL9 c (up2 I' 55 26 0))) 55 32 (nI c)) := by
  subst hr
  unfold F_X12_text_55
  rw [am_let_s, am_let_s, am_let_s, am_let_s, am_let_s, am_let_s]
  unfold tI9 at e1
  rw [e1, am_b1_s, e2, am_b2_s, am_let_s, if_neg (show ¬ nI c = -1 by
    have : ∀ c, c < 17 → ¬ nI c = -1 := by decide +kernel
    exact this c (by omega))]
  have k0 : (up2 I' 55 26 0) = cpL9 0 (up2 I' 55 26 0) := by
    funext q j
    unfold cpL9
    rw [if_neg (by omega)]
  refine it_u2 (fun i => nI i) (fun i => cpL9 i (up2 I' 55 26 0)) (n := c) (e := cpL9 c (up2 I' 55 26 0)) (by rw [← k0]; rfl) (by omega) (fun i hi => ?_) ?_ ?_
  · have e16 : (16 : Int32) + nI i = nI (16 + i) := nI_add 16 i
    have hx : am_ix (nI (16 + i)) 32 = true := am_ix_nI (by omega) (by decide)
    have hy : am_ix (nI i) 32 = true := am_ix_nI (by omega) (by decide)
    have w : ∀ q, cpL9 i (up2 I' 55 26 0) q (16 + i) = (up2 I' 55 26 0) q (16 + i) := fun q => if_neg (by omega)
    rw [if_neg (nI_ge hi (by omega)), e16, if_pos hx, if_pos hy, am_let_s, nI_clamp (show i < 2 ^ 31 by omega), nI_clamp (show 16 + i < 2 ^ 31 by omega), if_pos hx, if_pos hy, am_let_s, if_pos hx, if_pos hy, am_let_s, am_let_s, up2_i66 (show ¬ (77 = 76 ∧ 16 + i = i) by omega), up2_i66 (show ¬ (77 = 75 ∧ 16 + i = i) by omega), up2_i66 (show ¬ (76 = 75 ∧ 16 + i = i) by omega), w, w, w, cpL_s i _ (by omega), nI_1]
  · rw [if_pos (nI_le (Nat.le_refl _) (by omega))]
  · have k1 : cpL9 c (up2 I' 55 26 0) = cpC9 0 (cpL9 c (up2 I' 55 26 0)) := by
      funext q j
      show _ = cpC9 0 (cpL9 c (up2 I' 55 26 0)) q j
      unfold cpC9
      rw [if_neg (by omega)]
    have j38 : (cpL9 c (up2 I' 55 26 0)) 55 38 = nI N := by
      show (if _ then _ else (up2 I' 55 26 0) 55 38) = nI N
      rw [if_neg (by omega)]
      exact h38
    generalize hK : cpL9 c (up2 I' 55 26 0) = K
    rw [hK] at k1 j38
    refine it_u2 (fun i => nI i) (fun i => cpC9 i K) (n := N) (e := cpC9 N K) (by rw [← k1]; rfl) (by omega) (fun i hi => ?_) ?_ ?_
    · have e16 : (400 : Int32) + nI i = nI (400 + i) := nI_add 400 i
      have hx : am_ix (nI (400 + i)) 800 = true := am_ix_nI (by omega) (by decide)
      have hy : am_ix (nI i) 800 = true := am_ix_nI (by omega) (by decide)
      have w : ∀ q, cpC9 i K q (400 + i) = K q (400 + i) := fun q => if_neg (by omega)
      have w38 : cpC9 i K 55 38 = nI N := (if_neg (by omega)).trans j38
      rw [w38, if_neg (nI_ge hi (by omega)), e16, if_pos hx, if_pos hy, am_let_s, nI_clamp (show i < 2 ^ 31 by omega), nI_clamp (show 400 + i < 2 ^ 31 by omega), if_pos hx, if_pos hy, am_let_s, am_let_s, up2_i66 (show ¬ (79 = 78 ∧ 400 + i = i) by omega), w, w, cpC_s, nI_1]
    · have w38 : cpC9 N K 55 38 = nI N := (if_neg (by omega)).trans j38
      rw [w38, if_pos (nI_le (Nat.le_refl _) (by omega))]
    · rw [am_let_s]
