/-! text: the reference's copy of its draft -/
def cpL9 (c : Nat) (I : am_IT) : am_IT := fun q j => if (q = 75 ∨ q = 76 ∨ q = 77) ∧ j < c then I q (16 + j) else I q j
def cpC9 (c : Nat) (I : am_IT) : am_IT := fun q j => if (q = 78 ∨ q = 79) ∧ j < c then I q (400 + j) else I q j
theorem cpL_s (i : Nat) (I : am_IT) (hi : i < 16) : up2 (up2 (up2 (cpL9 i I) 75 i (I 75 (16 + i))) 76 i (I 76 (16 + i))) 77 i (I 77 (16 + i)) = cpL9 (i + 1) I := by
  funext q j
  unfold up2 cpL9
  by_cases hj : j = i
  · subst hj
    by_cases h1 : q = 77
    · subst h1; simp
    · by_cases h2 : q = 76
      · subst h2; simp
      · by_cases h3 : q = 75
        · subst h3; simp
        · simp [h1, h2, h3]
  · have e : (j < i + 1) ↔ (j < i) := by omega
    simp [hj, e]
theorem cpC_s (i : Nat) (I : am_IT) : up2 (up2 (cpC9 i I) 78 i (I 78 (400 + i))) 79 i (I 79 (400 + i)) = cpC9 (i + 1) I := by
  funext q j
  unfold up2 cpC9
  by_cases hj : j = i
  · subst hj
    by_cases h1 : q = 79
    · subst h1; simp
    · by_cases h2 : q = 78
      · subst h2; simp
      · simp [h1, h2]
  · have e : (j < i + 1) ↔ (j < i) := by omega
    simp [hj, e]
