/-- the points of a colour, person by person -/
def pS (y : Nat → Int32) (s : Nat → Nat → Int32) (c m k : Nat) : Nat → Int32
  | 0 => 0
  | i + 1 => if y i = 0 then pS y s c m k i else pS y s c m k i + (if m = 3 then y i * s i k else if k = fv (s i) (c - 1) then (if m = 1 then 1 else y i) else 0)
theorem mk_eq {m n : Nat} (hm : m < 1000) (hn : n < 1000) (h : ¬ m = n) : ¬ nI (261 + m) = nI (261 + n) := fun e => h (by have := (nI_eq (by omega) (by omega)).mp e; omega)
theorem mk_eq1 {m n : Nat} (hm : m < 1000) (hn : n < 1000) (h : ¬ m = n) : ¬ nI (1 + m) = nI (1 + n) := fun e => h (by have := (nI_eq (by omega) (by omega)).mp e; omega)
theorem e_po_8 {I : am_IT} {p u c m k : Nat} {y : Nat → Int32} (hp : I 1 4 = nI p) (hp7 : p ≤ 7) (hc : I 1 0 = nI c) (h1 : 2 ≤ c) (h2 : c ≤ 4) (hm : m < 6) (hk : k < 4) (hy : ∀ j, j < p → F_X8_yardsOf_23 I (nI j) (nI u) = some (y j)) (h0 : ∀ j, j < p → 0 ≤ y j) :
    F_X2_pointsOf_25_8 I (nI u) (nI (261 + m)) (nI k) = some (pS y (fun i k => I 8 (4 * i + k)) c m k p) := by
  unfold F_X2_pointsOf_25_8
  refine it_u2 (fun i => pS y (fun i k => I 8 (4 * i + k)) c m k i) (fun i => nI i) (n := p) (e := pS y (fun i k => I 8 (4 * i + k)) c m k p) rfl (by omega) (fun i hi => ?_) ?_ rfl
  · rw [hp, if_neg (nI_ge hi (by omega)), hy i hi, am_b1_s, nI_succ i]
    show _ = some (Sum.inl ((if y i = 0 then pS y (fun i k => I 8 (4 * i + k)) c m k i else pS y (fun i k => I 8 (4 * i + k)) c m k i + (if m = 3 then y i * I 8 (4 * i + k) else if k = fv (fun k => I 8 (4 * i + k)) (c - 1) then (if m = 1 then 1 else y i) else 0)), nI i + 1))
    by_cases h3 : m = 3
    · rw [if_pos (show nI (261 + m) = (264 : Int32) from by rw [h3]; rfl), if_pos h3, m4, if_pos (am_ix_nI (by omega) (by decide)), nI_clamp (by omega), am_let_s, am_let_s]
      by_cases z : y i = 0
      · rw [if_pos z, z, Int32.zero_mul, Int32.add_zero]
      · rw [if_neg z]
    · rw [if_neg (show ¬ nI (261 + m) = (264 : Int32) from mk_eq (n := 3) (by omega) (by omega) h3), if_neg h3]
      by_cases z : y i = 0
      · rw [if_pos z, if_pos (show y i ≤ 0 by rw [z]; decide)]; rfl
      · rw [if_neg z, if_neg (fun l => z (Int32.le_antisymm l (h0 i hi))), e_fav_8 hc h1 h2 (by omega), am_b1_s]
        have hf := fv_le (fun k => I 8 (4 * i + k)) (c - 1)
        by_cases e : k = fv (fun k => I 8 (4 * i + k)) (c - 1)
        · rw [if_pos e, if_pos (congrArg nI e.symm)]
          by_cases q : m = 1
          · rw [if_pos (show nI (261 + m) = (262 : Int32) from by rw [q]; rfl), if_pos q]; rfl
          · rw [if_neg (show ¬ nI (261 + m) = (262 : Int32) from mk_eq (n := 1) (by omega) (by omega) q), if_neg q]; rfl
        · rw [if_neg e, if_neg (fun x => e ((nI_eq (by omega) (by omega)).mp x).symm), Int32.add_zero]; rfl
  · rw [hp, if_pos (nI_le (Nat.le_refl p) (by omega))]
theorem e_cm_8 {I : am_IT} {p u c m : Nat} {y : Nat → Int32} (hp : I 1 4 = nI p) (hp7 : p ≤ 7) (hc : I 1 0 = nI c) (h1 : 2 ≤ c) (h2 : c ≤ 4) (hm : m < 6) (hy : ∀ j, j < p → F_X8_yardsOf_23 I (nI j) (nI u) = some (y j)) (h0 : ∀ j, j < p → 0 ≤ y j) :
    F_X2_colourOfMost_25_8 I (nI u) (nI (261 + m)) = some (nI (fv (fun k => pS y (fun i k => I 8 (4 * i + k)) c m k p) (c - 1))) := by
  unfold F_X2_colourOfMost_25_8
  rw [show F_X2_pointsOf_25_8 I (nI u) (nI (261 + m)) 0 = _ from e_po_8 (k := 0) hp hp7 hc h1 h2 hm (by decide) hy h0, am_b1_s]
  refine it_u3b1 (fun i => nI (fv (fun k => pS y (fun i k => I 8 (4 * i + k)) c m k p) i)) (fun i => pS y (fun i k => I 8 (4 * i + k)) c m (fv (fun k => pS y (fun i k => I 8 (4 * i + k)) c m k p) i) p) (fun i => nI (i + 1)) (n := c - 1) (e := nI (fv (fun k => pS y (fun i k => I 8 (4 * i + k)) c m k p) (c - 1))) rfl (by omega) (fun i hi => ?_) ?_ rfl
  · rw [hc, if_neg (nI_ge (a := i + 1) (by omega) (by omega)), e_po_8 (k := i + 1) hp hp7 hc h1 h2 hm (by omega) hy h0, am_b1_s, nI_succ (i + 1)]
    by_cases h : pS y (fun i k => I 8 (4 * i + k)) c m (i + 1) p ≤ pS y (fun i k => I 8 (4 * i + k)) c m (fv (fun k => pS y (fun i k => I 8 (4 * i + k)) c m k p) i) p
    · rw [if_pos h, show fv (fun k => pS y (fun i k => I 8 (4 * i + k)) c m k p) (i + 1) = fv (fun k => pS y (fun i k => I 8 (4 * i + k)) c m k p) i from if_pos h]; rfl
    · rw [if_neg h, show fv (fun k => pS y (fun i k => I 8 (4 * i + k)) c m k p) (i + 1) = i + 1 from if_neg h]; rfl
  · rw [hc, if_pos (nI_le (a := c) (b := c - 1 + 1) (by omega) (by omega))]
theorem e_po_27 {I : am_IT} {p u c m k : Nat} {y : Nat → Int32} (hp : I 1 4 = nI p) (hp7 : p ≤ 7) (hc : I 1 0 = nI c) (h1 : 2 ≤ c) (h2 : c ≤ 4) (hm : m < 6) (hk : k < 4) (hy : ∀ j, j < p → F_X8_yardsOf_23 I (nI j) (nI u) = some (y j)) (h0 : ∀ j, j < p → 0 ≤ y j) :
    F_X2_pointsOf_25_27 I (nI u) (nI (261 + m)) (nI k) = some (pS y (fun i k => I 27 (4 * i + k)) c m k p) := by
  unfold F_X2_pointsOf_25_27
  refine it_u2 (fun i => pS y (fun i k => I 27 (4 * i + k)) c m k i) (fun i => nI i) (n := p) (e := pS y (fun i k => I 27 (4 * i + k)) c m k p) rfl (by omega) (fun i hi => ?_) ?_ rfl
  · rw [hp, if_neg (nI_ge hi (by omega)), hy i hi, am_b1_s, nI_succ i]
    show _ = some (Sum.inl ((if y i = 0 then pS y (fun i k => I 27 (4 * i + k)) c m k i else pS y (fun i k => I 27 (4 * i + k)) c m k i + (if m = 3 then y i * I 27 (4 * i + k) else if k = fv (fun k => I 27 (4 * i + k)) (c - 1) then (if m = 1 then 1 else y i) else 0)), nI i + 1))
    by_cases h3 : m = 3
    · rw [if_pos (show nI (261 + m) = (264 : Int32) from by rw [h3]; rfl), if_pos h3, m4, if_pos (am_ix_nI (by omega) (by decide)), nI_clamp (by omega), am_let_s, am_let_s]
      by_cases z : y i = 0
      · rw [if_pos z, z, Int32.zero_mul, Int32.add_zero]
      · rw [if_neg z]
    · rw [if_neg (show ¬ nI (261 + m) = (264 : Int32) from mk_eq (n := 3) (by omega) (by omega) h3), if_neg h3]
      by_cases z : y i = 0
      · rw [if_pos z, if_pos (show y i ≤ 0 by rw [z]; decide)]; rfl
      · rw [if_neg z, if_neg (fun l => z (Int32.le_antisymm l (h0 i hi))), e_fav_27 hc h1 h2 (by omega), am_b1_s]
        have hf := fv_le (fun k => I 27 (4 * i + k)) (c - 1)
        by_cases e : k = fv (fun k => I 27 (4 * i + k)) (c - 1)
        · rw [if_pos e, if_pos (congrArg nI e.symm)]
          by_cases q : m = 1
          · rw [if_pos (show nI (261 + m) = (262 : Int32) from by rw [q]; rfl), if_pos q]; rfl
          · rw [if_neg (show ¬ nI (261 + m) = (262 : Int32) from mk_eq (n := 1) (by omega) (by omega) q), if_neg q]; rfl
        · rw [if_neg e, if_neg (fun x => e ((nI_eq (by omega) (by omega)).mp x).symm), Int32.add_zero]; rfl
  · rw [hp, if_pos (nI_le (Nat.le_refl p) (by omega))]
theorem e_cm_27 {I : am_IT} {p u c m : Nat} {y : Nat → Int32} (hp : I 1 4 = nI p) (hp7 : p ≤ 7) (hc : I 1 0 = nI c) (h1 : 2 ≤ c) (h2 : c ≤ 4) (hm : m < 6) (hy : ∀ j, j < p → F_X8_yardsOf_23 I (nI j) (nI u) = some (y j)) (h0 : ∀ j, j < p → 0 ≤ y j) :
    F_X2_colourOfMost_25_27 I (nI u) (nI (261 + m)) = some (nI (fv (fun k => pS y (fun i k => I 27 (4 * i + k)) c m k p) (c - 1))) := by
  unfold F_X2_colourOfMost_25_27
  rw [show F_X2_pointsOf_25_27 I (nI u) (nI (261 + m)) 0 = _ from e_po_27 (k := 0) hp hp7 hc h1 h2 hm (by decide) hy h0, am_b1_s]
  refine it_u3b1 (fun i => nI (fv (fun k => pS y (fun i k => I 27 (4 * i + k)) c m k p) i)) (fun i => pS y (fun i k => I 27 (4 * i + k)) c m (fv (fun k => pS y (fun i k => I 27 (4 * i + k)) c m k p) i) p) (fun i => nI (i + 1)) (n := c - 1) (e := nI (fv (fun k => pS y (fun i k => I 27 (4 * i + k)) c m k p) (c - 1))) rfl (by omega) (fun i hi => ?_) ?_ rfl
  · rw [hc, if_neg (nI_ge (a := i + 1) (by omega) (by omega)), e_po_27 (k := i + 1) hp hp7 hc h1 h2 hm (by omega) hy h0, am_b1_s, nI_succ (i + 1)]
    by_cases h : pS y (fun i k => I 27 (4 * i + k)) c m (i + 1) p ≤ pS y (fun i k => I 27 (4 * i + k)) c m (fv (fun k => pS y (fun i k => I 27 (4 * i + k)) c m k p) i) p
    · rw [if_pos h, show fv (fun k => pS y (fun i k => I 27 (4 * i + k)) c m k p) (i + 1) = fv (fun k => pS y (fun i k => I 27 (4 * i + k)) c m k p) i from if_pos h]; rfl
    · rw [if_neg h, show fv (fun k => pS y (fun i k => I 27 (4 * i + k)) c m k p) (i + 1) = i + 1 from if_neg h]; rfl
  · rw [hc, if_pos (nI_le (a := c) (b := c - 1 + 1) (by omega) (by omega))]
theorem e_sm {I : am_IT} {p u : Nat} {y : Nat → Int32} (hp : I 1 4 = nI p) (hp7 : p ≤ 7) (h1 : 1 ≤ p) (hy : ∀ j, j < p → F_X8_yardsOf_23 I (nI j) (nI u) = some (y j)) : F_X2_seerOfMost_25 I (nI u) = some (nI (fv y (p - 1))) := by
  unfold F_X2_seerOfMost_25
  refine it_u2 (fun i => nI (fv y i)) (fun i => nI (i + 1)) (n := p - 1) (e := nI (fv y (p - 1))) rfl (by omega) (fun i hi => ?_) ?_ rfl
  · have hl := fv_le y i
    rw [hp, if_neg (nI_ge (a := i + 1) (by omega) (by omega)), hy (i + 1) (by omega), am_b1_s, hy (fv y i) (by omega), am_b1_s, fv_1, nI_succ (i + 1)]
    by_cases h : y (i + 1) ≤ y (fv y i)
    · rw [if_pos h, if_pos h]; rfl
    · rw [if_neg h, if_neg h]; rfl
  · rw [hp, if_pos (nI_le (a := p) (b := p - 1 + 1) (by omega) (by omega))]
/-- who sees most, as the reference finds it -/
theorem fW_fv {y : Nat → Int32} : ∀ {i : Nat}, (∀ j, j < i → 0 ≤ y j) → (cN y i = 0 ∧ fX y i = 0 ∧ ∀ j, j < i → y j = 0) ∨ (0 < cN y i ∧ 0 < i ∧ fW y i = nI (fv y (i - 1)) ∧ fX y i = y (fv y (i - 1)) ∧ 0 < fX y i)
  | 0, _ => Or.inl ⟨rfl, rfl, fun j hj => absurd hj (Nat.not_lt_zero j)⟩
  | i + 1, h => by
    have hi := h i (by omega)
    have e1 : cN y (i + 1) = if y i = 0 then cN y i else cN y i + 1 := rfl
    have e2 : fX y (i + 1) = if y i = 0 then fX y i else if y i ≤ fX y i then fX y i else y i := rfl
    have e3 : fW y (i + 1) = if y i = 0 then fW y i else if y i ≤ fX y i then fW y i else nI i := rfl
    rcases fW_fv (i := i) (fun j hj => h j (by omega)) with ⟨a1, a2, a3⟩ | ⟨a1, a2, a3, a4, a5⟩
    · by_cases z : y i = 0
      · refine Or.inl ⟨by rw [e1, if_pos z, a1], by rw [e2, if_pos z, a2], fun j hj => ?_⟩
        by_cases hj2 : j = i
        · rw [hj2]; exact z
        · exact a3 j (by omega)
      · have hlt : 0 < y i := Int32.lt_of_le_of_ne hi (fun e => z e.symm)
        have ev : fv y (i + 1 - 1) = i := by
          cases i with
          | zero => rfl
          | succ i =>
            have hl := fv_le y i
            show (if y (i + 1) ≤ y (fv y i) then fv y i else i + 1) = i + 1
            rw [if_neg]
            rw [a3 (fv y i) (by omega)]
            exact Int32.not_le.mpr hlt
        refine Or.inr ⟨by rw [e1, if_neg z]; omega, by omega, ?_, ?_, ?_⟩
        · rw [e3, if_neg z, a2, if_neg (Int32.not_le.mpr hlt), ev]
        · rw [e2, if_neg z, a2, if_neg (Int32.not_le.mpr hlt), ev]
        · rw [e2, if_neg z, a2, if_neg (Int32.not_le.mpr hlt)]; exact hlt
    · have ev : fv y (i + 1 - 1) = if y i ≤ y (fv y (i - 1)) then fv y (i - 1) else i := by
        cases i with
        | zero => omega
        | succ i => rfl
      by_cases z : y i = 0
      · have hle : y i ≤ y (fv y (i - 1)) := by rw [z, ← a4]; exact Int32.le_of_lt a5
        refine Or.inr ⟨by rw [e1, if_pos z]; exact a1, by omega, ?_, ?_, ?_⟩
        · rw [e3, if_pos z, ev, if_pos hle, a3]
        · rw [e2, if_pos z, ev, if_pos hle, a4]
        · rw [e2, if_pos z]; exact a5
      · refine Or.inr ⟨by rw [e1, if_neg z]; omega, by omega, ?_, ?_, ?_⟩
        · rw [e3, if_neg z, ev, a4]
          by_cases hle : y i ≤ y (fv y (i - 1))
          · rw [if_pos hle, if_pos hle, a3]
          · rw [if_neg hle, if_neg hle]
        · rw [e2, if_neg z, ev, a4]
          by_cases hle : y i ≤ y (fv y (i - 1))
          · rw [if_pos hle, if_pos hle]
          · rw [if_neg hle, if_neg hle]
        · rw [e2, if_neg z]
          by_cases hle : y i ≤ fX y i
          · rw [if_pos hle]; exact a5
          · rw [if_neg hle]; exact Int32.lt_trans a5 (Int32.not_le.mp hle)
theorem e_gr {I : am_IT} {c : Nat} (hc : I 55 2 = nI c) (h1 : 2 ≤ c) (h2 : c ≤ 4) : F_X12_greatest_55 I = some (nI (fv (I 84) (c - 1))) := by
  unfold F_X12_greatest_55
  refine it_u2 (fun i => nI (fv (I 84) i)) (fun i => nI (i + 1)) (n := c - 1) (e := nI (fv (I 84) (c - 1))) rfl (by omega) (fun i hi => ?_) ?_ rfl
  · have hl := fv_le (I 84) i
    rw [hc, if_neg (nI_ge (a := i + 1) (by omega) (by omega)), if_pos (am_ix_nI (by omega) (by decide)), if_pos (am_ix_nI (by omega) (by decide)), nI_clamp (by omega), nI_clamp (by omega), fv_1, nI_succ (i + 1)]
    by_cases h : I 84 (i + 1) ≤ I 84 (fv (I 84) i)
    · rw [if_pos h, if_pos h]; rfl
    · rw [if_neg h, if_neg h]; rfl
  · rw [hc, if_pos (nI_le (a := c) (b := c - 1 + 1) (by omega) (by omega))]
