/-! text: the reference's words -/
theorem wq_tab : ∀ r, r < 17 → wp r < 17 ∧ wq r < 84 ∧ wq r + 1 + wl (wp r) = wq (r + 1) ∧ wq (r + 1) ≤ 84 ∧ rWords.getD (wq (r + 1)) 0 = 32 ∧ (∀ i, i < wl (wp r) → rWords.getD (wq r + 1 + i) 0 = cs (wb (wp r) + i) ∧ ¬ rWords.getD (wq r + 1 + i) 0 = 32) := by decide +kernel
theorem wp_on : ∀ j, j < 17 → ∃ r, r < 17 ∧ wp r = j := by decide +kernel
theorem e_wi {I : am_IT} {B : Nat → Int32} {a e r : Nat} (hW : ∀ j, j < 85 → I 74 j = rWords.getD j 0) (hB : ∀ i, i < e → I 73 i = B i) (he : e ≤ 400) (hae : a ≤ e) (hn : ∀ i, a ≤ i → i < e → ¬ B i = 32) (hr : r < 17) : ∃ z, am_it am_fu (fun (l5_11 : Int32) => if nI e ≤ (nI a + l5_11) then (some (.inr (l5_11)) : Option (Int32 ⊕ Int32)) else (if am_ix ((nI (wq r) + (1 : Int32)) + l5_11) 85 = true then (if am_ix (nI a + l5_11) 400 = true then (if (I 74 ((nI (wq r) + (1 : Int32)) + l5_11).toNatClampNeg) = (I 73 (nI a + l5_11).toNatClampNeg) then (am_let (l5_11 + (1 : Int32)) (fun (l5_22 : Int32) => some (.inl (l5_22)))) else (some (.inr (l5_11)))) else none) else none)) (0 : Int32) = some z ∧ ∃ i, z = nI i ∧ i ≤ wl (wp r) ∧ (∀ k, k < i → cs (wb (wp r) + k) = B (a + k)) ∧ a + i ≤ e ∧ (a + i = e ∨ (a + i < e ∧ (i = wl (wp r) ∨ ¬ cs (wb (wp r) + i) = B (a + i)))) := by
  obtain ⟨t1, t2, t3, t4, t5, t6⟩ := wq_tab r hr
  refine am_it_ex2 (fun i x => x = nI i ∧ (∀ k, k < i → cs (wb (wp r) + k) = B (a + k)) ∧ a + i ≤ e) (fun z => ∃ i, z = nI i ∧ i ≤ wl (wp r) ∧ (∀ k, k < i → cs (wb (wp r) + k) = B (a + k)) ∧ a + i ≤ e ∧ (a + i = e ∨ (a + i < e ∧ (i = wl (wp r) ∨ ¬ cs (wb (wp r) + i) = B (a + i))))) (n := wl (wp r)) (by omega) ?_ ?_ ⟨rfl, fun k hk => by omega, hae⟩
  · rintro i x hi ⟨rfl, hm, hle⟩
    rw [nI_add, nI_1, nI_add]
    by_cases z : a + i = e
    · rw [if_pos (nI_le (by omega) (by omega))]
      exact Or.inr ⟨_, rfl, i, rfl, by omega, hm, hle, Or.inl z⟩
    · rw [if_neg (nI_ge (by omega) (by omega)), if_pos (am_ix_nI (by omega) (by decide)), if_pos (am_ix_nI (by omega) (by decide)), nI_clamp (by omega), nI_clamp (by omega), hW _ (by omega), hB _ (by omega), (t6 i hi).1]
      by_cases h : cs (wb (wp r) + i) = B (a + i)
      · rw [if_pos h, am_let_s]
        refine Or.inl ⟨_, rfl, nI_1 _, fun k hk => ?_, by omega⟩
        by_cases hh : k = i
        · subst hh; exact h
        · exact hm k (by omega)
      · rw [if_neg h]
        exact Or.inr ⟨_, rfl, i, rfl, by omega, hm, hle, Or.inr ⟨by omega, Or.inr h⟩⟩
  · rintro x ⟨rfl, hm, hle⟩
    rw [nI_add, nI_1, nI_add]
    by_cases z : a + wl (wp r) = e
    · rw [if_pos (nI_le (by omega) (by omega))]
      exact ⟨_, rfl, _, rfl, Nat.le_refl _, hm, hle, Or.inl z⟩
    · rw [if_neg (nI_ge (by omega) (by omega)), if_pos (am_ix_nI (by omega) (by decide)), if_pos (am_ix_nI (by omega) (by decide)), nI_clamp (by omega), nI_clamp (by omega), hW _ (by omega), hB _ (by omega), t3, t5, if_neg (fun q => hn _ (by omega) (by omega) q.symm)]
      exact ⟨_, rfl, _, rfl, Nat.le_refl _, hm, hle, Or.inr ⟨by omega, Or.inl rfl⟩⟩
theorem e_wsk {I : am_IT} {r : Nat} {Z : Type} {k : Int32 → Option Z} (hW : ∀ j, j < 85 → I 74 j = rWords.getD j 0) (hr : r < 17) : am_let (nI (wq r) + (1 : Int32)) (fun (l4_24 : Int32) => am_b1 (am_it am_fu (fun (l4_25 : Int32) => if am_ix l4_25 85 = true then (if (I 74 l4_25.toNatClampNeg) = (32 : Int32) then (some (.inr (l4_25)) : Option (Int32 ⊕ Int32)) else (am_let (l4_25 + (1 : Int32)) (fun (l4_34 : Int32) => some (.inl (l4_34))))) else none) l4_24) k) = k (nI (wq (r + 1))) := by
  obtain ⟨t1, t2, t3, t4, t5, t6⟩ := wq_tab r hr
  rw [am_let_s]
  refine it_b1 (fun i => nI (wq r + 1 + i)) (n := wl (wp r)) (e := nI (wq (r + 1))) (by rw [nI_1]) (by omega) (fun i hi => ?_) ?_ rfl
  · show (if am_ix (nI (wq r + 1 + i)) 85 = true then _ else none) = _
    rw [if_pos (am_ix_nI (by omega) (by decide)), nI_clamp (by omega), hW _ (by omega), if_neg (t6 i hi).2, am_let_s, nI_1]
    rfl
  · show (if am_ix (nI (wq r + 1 + wl (wp r))) 85 = true then _ else none) = _
    rw [t3, if_pos (am_ix_nI (by omega) (by decide)), nI_clamp (by omega), hW _ (by omega), if_pos t5]
theorem e_wa {I : am_IT} {B : Nat → Int32} {a e : Nat} (hW : ∀ j, j < 85 → I 74 j = rWords.getD j 0) (hB : ∀ i, i < e → I 73 i = B i) (he : e ≤ 400) (hae : a ≤ e) (hn : ∀ i, a ≤ i → i < e → ¬ B i = 32) : ∃ v, F_X12_wordAt_55 I (nI a) (nI e) = some v ∧ ((∃ r, r < 17 ∧ eW B a e (wp r) ∧ v = nI r) ∨ (v = -1 ∧ ∀ r, r < 17 → ¬ eW B a e (wp r))) := by
  unfold F_X12_wordAt_55
  refine it_lr_ex (R := fun z => ∃ v, z = some v ∧ ((∃ r, r < 17 ∧ eW B a e (wp r) ∧ v = nI r) ∨ (v = -1 ∧ ∀ r, r < 17 → ¬ eW B a e (wp r)))) (fun r x => x = (nI r - 1, nI (wq r)) ∧ ∀ q, q < r → ¬ eW B a e (wp q)) (fun z => (∃ r, r < 17 ∧ eW B a e (wp r) ∧ z = .inr (nI r)) ∨ (z = .inl 0 ∧ ∀ r, r < 17 → ¬ eW B a e (wp r))) (n := 17) (by decide) ?_ ?_ ⟨rfl, fun q hq => by cases hq⟩ ?_
  · rintro r x hr ⟨rfl, hm⟩
    obtain ⟨t1, t2, t3, t4, t5, t6⟩ := wq_tab r hr
    rw [am_u2_s, if_neg (show ¬ (84 : Int32) ≤ nI (wq r) from nI_ge t2 (by decide)), am_let_s, Int32.sub_add_cancel]
    obtain ⟨z, hz, i, rfl, i1, i2, i3, i4⟩ := e_wi hW hB he hae hn hr
    rw [hz, am_b1_s, nI_add, nI_1, nI_add]
    have nx : ∀ (w : ¬ eW B a e (wp r)), ∃ y, (some (.inl (nI r, nI (wq (r + 1)))) : Option ((Int32 × Int32) ⊕ (Int32 ⊕ Int32))) = some (.inl y) ∧ (y = (nI (r + 1) - 1, nI (wq (r + 1))) ∧ ∀ q, q < r + 1 → ¬ eW B a e (wp q)) := by
      intro w
      refine ⟨_, rfl, ?_, fun q hq => ?_⟩
      · rw [nI_dec]
      · by_cases h : q = r
        · subst h; exact w
        · exact hm q (by omega)
    by_cases h1 : a + i = e
    · rw [if_pos (by rw [h1]), if_pos (am_ix_nI (by omega) (by decide)), nI_clamp (by omega), hW _ (by omega)]
      by_cases h2 : i = wl (wp r)
      · subst h2
        rw [t3, if_pos t5]
        exact Or.inr ⟨_, rfl, Or.inl ⟨r, hr, ⟨h1.symm, i2⟩, rfl⟩⟩
      · rw [if_neg (t6 i (by omega)).2]
        refine Or.inl ?_
        rw [← nI_1, e_wsk hW hr]
        exact nx (fun w => by have := w.1; omega)
    · rw [if_neg (fun q => h1 ((nI_eq (by omega) (by omega)).mp q))]
      refine Or.inl ?_
      rw [← nI_1, e_wsk hW hr]
      refine nx (fun w => ?_)
      rcases i4 with i4 | ⟨i4, i5 | i5⟩
      · exact h1 i4
      · have := w.1; omega
      · by_cases h2 : i < wl (wp r)
        · exact i5 (w.2 i h2)
        · have := w.1; omega
  · rintro x ⟨rfl, hm⟩
    rw [am_u2_s, if_pos (show (84 : Int32) ≤ nI (wq 17) by decide)]
    exact ⟨_, rfl, Or.inr ⟨rfl, hm⟩⟩
  · rintro z (⟨r, hr, h, rfl⟩ | ⟨rfl, h⟩)
    · exact ⟨_, rfl, Or.inl ⟨r, hr, h, rfl⟩⟩
    · exact ⟨_, rfl, Or.inr ⟨rfl, h⟩⟩
