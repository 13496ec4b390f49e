def bG (I : am_IT) (y : Nat → Int32) (s : Nat → Nat → Int32) (c m i k : Nat) : Nat → Int32 := fun j => if j < c then (if j < k then pS y s c m j (i + 1) else pS y s c m j i) else I 84 j
theorem bG_s {I : am_IT} {y : Nat → Int32} {s : Nat → Nat → Int32} {c m i k : Nat} (hk : k < c) {v : Int32} (hv : v = pS y s c m k (i + 1)) (j : Nat) : (if j = k then v else bG I y s c m i k j) = bG I y s c m i (k + 1) j := by
  unfold bG
  by_cases e : j = k
  · subst e; rw [if_pos rfl, if_pos hk, if_pos (by omega), hv]
  · rw [if_neg e]
    by_cases h : j < c
    · rw [if_pos h, if_pos h]
      by_cases h2 : j < k
      · rw [if_pos h2, if_pos (by omega)]
      · rw [if_neg h2, if_neg (by omega)]
    · rw [if_neg h, if_neg h]
theorem bG_k {I : am_IT} {y : Nat → Int32} {s : Nat → Nat → Int32} {c m i k : Nat} (hk : k < c) : bG I y s c m i k k = pS y s c m k i := by
  unfold bG
  rw [if_pos hk, if_neg (Nat.lt_irrefl k)]
theorem bG_n (I : am_IT) {y : Nat → Int32} (s : Nat → Nat → Int32) {c m i : Nat} (j : Nat) : bG I y s c m i c j = bG I y s c m (i + 1) 0 j := by
  unfold bG
  by_cases h : j < c
  · rw [if_pos h, if_pos h, if_pos h, if_neg (Nat.not_lt_zero j)]
  · rw [if_neg h, if_neg h]
theorem bG_z (I : am_IT) {y : Nat → Int32} (s : Nat → Nat → Int32) {c m i : Nat} (z : y i = 0) (j : Nat) : bG I y s c m i 0 j = bG I y s c m (i + 1) 0 j := by
  unfold bG
  by_cases h : j < c
  · rw [if_pos h, if_pos h, if_neg (Nat.not_lt_zero j), if_neg (Nat.not_lt_zero j), show pS y s c m j (i + 1) = pS y s c m j i from if_pos z]
  · rw [if_neg h, if_neg h]
theorem e_bs {I : am_IT} {p u c m : Nat} {y : Nat → Int32} {s : Nat → Nat → Int32} (hp : I 55 5 = nI p) (hp7 : p ≤ 7) (hc : I 55 2 = nI c) (h1 : 2 ≤ c) (h2 : c ≤ 4) (hm : m < 6) (hu : u < 7) (hy : ∀ i, i < p → ∃ h, h < 8 ∧ I 57 i = nI h ∧ I 83 (7 * h + u) = y i) (hs : ∀ f i k, i < p → k < 4 → F_X12_says_55 (st2 I 84 f) (nI i) (nI k) = some (s i k)) :
    F_X12_byScores_55 I (nI (1 + m)) (nI u) = some (nI (fv (fun k => pS y s c m k p) (c - 1)), st2 I 84 (bG I y s c m p 0)) := by
  unfold F_X12_byScores_55
  refine it_u2 (fun i => nI i) (fun i => st2 I 84 (fun j => if j < i then 0 else I 84 j)) (n := c) (e := st2 I 84 (bG I y s c m 0 0)) ?_ (by omega) (fun i hi => ?_) ?_ ?_
  · show ((0 : Int32), I) = (nI 0, st2 I 84 (fun j => if j < 0 then 0 else I 84 j))
    rw [show (fun j => if j < 0 then (0 : Int32) else I 84 j) = I 84 from funext (fun j => if_neg (by omega)), st2_I]; rfl
  · rw [show (st2 I 84 (fun j => if j < i then 0 else I 84 j)) 55 2 = nI c from hc, if_neg (nI_ge hi (by omega)), if_pos (am_ix_nI (by omega) (by decide)), am_let_s, am_let_s, nI_clamp (by omega), st2_u, nI_1]
    refine congrArg (fun z => some (Sum.inl (nI (i + 1), z))) (st2_e I (fun j => ?_))
    by_cases e : j = i
    · rw [if_pos e, if_pos (by omega)]
    · rw [if_neg e]
      by_cases h : j < i
      · rw [if_pos h, if_pos (by omega)]
      · rw [if_neg h, if_neg (by omega)]
  · rw [show (st2 I 84 (fun j => if j < c then 0 else I 84 j)) 55 2 = nI c from hc, if_pos (nI_le (Nat.le_refl c) (by omega))]
    rfl
  · refine it_u2 (fun i => nI i) (fun i => st2 I 84 (bG I y s c m i 0)) (n := p) (e := st2 I 84 (bG I y s c m p 0)) rfl (by omega) (fun i hi => ?_) ?_ ?_
    · obtain ⟨h, hh, e57, e83⟩ := hy i hi
      rw [show (st2 I 84 (bG I y s c m i 0)) 55 5 = nI p from hp, if_neg (nI_ge hi (by omega)), if_pos (am_ix_nI (by omega) (by decide)), nI_clamp (by omega), show (st2 I 84 (bG I y s c m i 0)) 57 i = nI h from e57, m7', if_pos (am_ix_nI (by omega) (by decide)), am_let_s, nI_clamp (by omega), show (st2 I 84 (bG I y s c m i 0)) 83 (7 * h + u) = y i from e83]
      by_cases z : y i = 0
      · rw [if_pos z, am_let_s, nI_1]
        exact congrArg (fun z => some (Sum.inl (nI (i + 1), z))) (st2_e I (bG_z I s z))
      · rw [if_neg z]
        refine it_u2 (fun k => nI k) (fun k => st2 I 84 (bG I y s c m i k)) (n := c) (e := st2 I 84 (bG I y s c m i c)) rfl (by omega) (fun k hk => ?_) ?_ ?_
        · have es : pS y s c m k (i + 1) = pS y s c m k i + (if m = 3 then y i * s i k else if k = fv (s i) (c - 1) then (if m = 1 then 1 else y i) else 0) := if_neg z
          have hf := fv_le (s i) (c - 1)
          rw [show (st2 I 84 (bG I y s c m i k)) 55 2 = nI c from hc, if_neg (nI_ge hk (by omega)), e_bc (I := st2 I 84 (bG I y s c m i k)) hc h1 h2 (fun k hk => hs _ i k hi hk), am_b1_s]
          by_cases h3 : m = 3
          · have q : nI (1 + m) = (4 : Int32) := by rw [h3]; rfl
            rw [if_pos h3] at es
            have hx4 : am_ix (nI k) 4 = true := am_ix_nI (by omega) (by decide)
            by_cases e : k = fv (s i) (c - 1)
            · rw [if_pos (show nI k = nI (fv (s i) (c - 1)) from congrArg nI e), am_b1_s, if_pos q, if_pos hx4, hs _ i k hi (by omega), am_b1_s, if_pos hx4, am_let_s, am_let_s, nI_clamp (by omega), st2_u, st2_s, nI_1, bG_k hk, ← es]
              exact congrArg (fun z => some (Sum.inl (nI (k + 1), z))) (st2_e I (bG_s hk rfl))
            · rw [if_neg (show ¬ nI k = nI (fv (s i) (c - 1)) from fun x => e ((nI_eq (by omega) (by omega)).mp x)), am_b1_s, if_pos q, if_pos hx4, hs _ i k hi (by omega), am_b1_s, if_pos hx4, am_let_s, am_let_s, nI_clamp (by omega), st2_u, st2_s, nI_1, bG_k hk, ← es]
              exact congrArg (fun z => some (Sum.inl (nI (k + 1), z))) (st2_e I (bG_s hk rfl))
          · have q : ¬ nI (1 + m) = (4 : Int32) := mk_eq1 (n := 3) (by omega) (by omega) h3
            rw [if_neg h3] at es
            have hx4 : am_ix (nI k) 4 = true := am_ix_nI (by omega) (by decide)
            by_cases e : k = fv (s i) (c - 1)
            · rw [if_pos e] at es
              rw [if_pos (show nI k = nI (fv (s i) (c - 1)) from congrArg nI e), am_b1_s, if_neg q, if_neg (show ¬ (1 : Int32) = 0 by decide), if_pos hx4]
              by_cases h1m : m = 1
              · rw [if_pos h1m] at es
                rw [if_pos (show nI (1 + m) = (2 : Int32) from by rw [h1m]; rfl), if_pos hx4, am_let_s, am_let_s, nI_clamp (by omega), st2_u, st2_s, nI_1, bG_k hk, ← es]
                exact congrArg (fun z => some (Sum.inl (nI (k + 1), z))) (st2_e I (bG_s hk rfl))
              · rw [if_neg h1m] at es
                rw [if_neg (show ¬ nI (1 + m) = (2 : Int32) from mk_eq1 (n := 1) (by omega) (by omega) h1m), if_pos hx4, am_let_s, am_let_s, nI_clamp (by omega), st2_u, st2_s, nI_1, bG_k hk, ← es]
                exact congrArg (fun z => some (Sum.inl (nI (k + 1), z))) (st2_e I (bG_s hk rfl))
            · rw [if_neg e, Int32.add_zero] at es
              rw [if_neg (show ¬ nI k = nI (fv (s i) (c - 1)) from fun x => e ((nI_eq (by omega) (by omega)).mp x)), am_b1_s, if_neg q, if_pos (show (0 : Int32) = 0 from rfl), am_let_s, nI_1]
              refine congrArg (fun z => some (Sum.inl (nI (k + 1), z))) (st2_e I (fun j => ?_))
              rw [← bG_s (I := I) hk (es.symm) j]
              by_cases ej : j = k
              · subst ej; rw [if_pos rfl, bG_k hk]
              · rw [if_neg ej]
        · rw [show (st2 I 84 (bG I y s c m i c)) 55 2 = nI c from hc, if_pos (nI_le (Nat.le_refl c) (by omega))]
        · rw [am_let_s, nI_1]
          exact congrArg (fun z => some (Sum.inl (nI (i + 1), z))) (st2_e I (bG_n I s))
    · rw [show (st2 I 84 (bG I y s c m p 0)) 55 5 = nI p from hp, if_pos (nI_le (Nat.le_refl p) (by omega))]
    · rw [e_gr (I := st2 I 84 (bG I y s c m p 0)) hc h1 h2, am_b1_s, st2_s]
      refine congrArg (fun z => some (nI z, st2 I 84 (bG I y s c m p 0))) (fv_c (fun j hj => ?_))
      unfold bG
      rw [if_pos (by omega), if_neg (Nat.not_lt_zero j)]
