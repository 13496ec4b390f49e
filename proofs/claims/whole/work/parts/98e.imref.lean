/-! the image: the reference -/
theorem sk_220 : ∀ l, l < 7 → sk (220 + 2 * l) = (57, l) ∧ sk (220 + 2 * l + 1) = (65, l) := by decide +kernel
theorem sk_234 : ∀ l, l < 28 → sk (234 + 2 * l) = (63, l) ∧ sk (234 + 2 * l + 1) = (64, l) := by decide +kernel
theorem sk_291 : ∀ l, l < 40 → sk (291 + 3 * l) = (67, l) ∧ sk (291 + 3 * l + 1) = (68, l) ∧ sk (291 + 3 * l + 1 + 1) = (69, l) := by decide +kernel
theorem sk_412 : ∀ l, l < 16 → sk (412 + 3 * l) = (75, l) ∧ sk (412 + 3 * l + 1) = (76, l) ∧ sk (412 + 3 * l + 1 + 1) = (77, l) := by decide +kernel
theorem sk_460 : ∀ l, l < 400 → sk (460 + 2 * l) = (78, l) ∧ sk (460 + 2 * l + 1) = (79, l) := by decide +kernel
theorem sk_4 : ∀ l, l < 7 → sk (4 + 1 * l) = (72, l) := by decide +kernel
theorem sk_11 : ∀ l, l < 4 → sk (11 + 1 * l) = (56, l) := by decide +kernel
theorem sk_15 : ∀ l, l < 56 → sk (15 + 1 * l) = (58, l) := by decide +kernel
theorem sk_71 : ∀ l, l < 49 → sk (71 + 1 * l) = (66, l) := by decide +kernel
theorem sk_121 : ∀ l, l < 20 → sk (121 + 4 * l) = (59, l) ∧ sk (121 + 4 * l + 1) = (60, l) ∧ sk (121 + 4 * l + 1 + 1) = (61, l) ∧ sk (121 + 4 * l + 1 + 1 + 1) = (62, l) := by decide +kernel
theorem sk_201 : ∀ l, l < 9 → sk (201 + 2 * l) = (70, l) ∧ sk (201 + 2 * l + 1) = (71, l) := by decide +kernel
theorem e_kpe {tk : Bool} {B J : am_IT} (h0 : PK tk B 219 J) : ∃ K, F_X12_keepsPeople_55 J = some K ∧ PK tk B 411 K := by
  unfold F_X12_keepsPeople_55
  obtain ⟨r, M, e, h1⟩ := ksl (k := 55) (j := 5) h0 (by decide) (by decide)
  rw [e, am_b2_s, am_let_s]
  clear h0 e
  have h0 := h1
  clear h1
  refine it_b1_inv (R := fun z => ∃ K : am_IT, z = some K ∧ PK tk B 411 K)
    (fun l x => ∃ A : am_IT, x = (nI l, A) ∧ PK tk B (220 + 2 * l) A) (fun (A : am_IT) => PK tk B 234 A) (n := 7) (by omega) ?_ ?_ ⟨_, by rw [nI_0], h0⟩ ?_
  · rintro l x hl ⟨A, rfl, a0⟩
    have hx : am_ix (nI l) 7 = true := am_ix_nI (by omega) (by decide)
    rw [am_u2_s, if_neg (show ¬ (7 : Int32) ≤ nI l from nI_ge (a := l) (b := 7) hl (by decide)), if_pos hx, nI_clamp (by omega)]
    obtain ⟨r0, M0, e0, a1⟩ := ksl (k := 57) (j := l) a0 (sk_220 l hl).1 (by omega)
    rw [e0, am_b2_s, if_pos hx, am_let_s, if_pos hx]
    obtain ⟨r1, M1, e1, a2⟩ := ksl (k := 65) (j := l) a1 (sk_220 l hl).2 (by omega)
    rw [e1, am_b2_s, if_pos hx, am_let_s, am_let_s, nI_1]
    exact ⟨_, rfl, _, rfl, by rw [show 220 + 2 * (l + 1) = 220 + 2 * l + 1 + 1 by omega]; exact a2⟩
  · rintro x ⟨A, rfl, a0⟩
    exact ⟨A, by rw [am_u2_s, if_pos (show (7 : Int32) ≤ nI 7 by decide)], a0⟩
  clear h0
  rintro A220 h0
  refine it_b1_inv (R := fun z => ∃ K : am_IT, z = some K ∧ PK tk B 411 K)
    (fun l x => ∃ A : am_IT, x = (nI l, A) ∧ PK tk B (234 + 2 * l) A) (fun (A : am_IT) => PK tk B 290 A) (n := 28) (by omega) ?_ ?_ ⟨_, by rw [nI_0], h0⟩ ?_
  · rintro l x hl ⟨A, rfl, a0⟩
    have hx : am_ix (nI l) 28 = true := am_ix_nI (by omega) (by decide)
    rw [am_u2_s, if_neg (show ¬ (28 : Int32) ≤ nI l from nI_ge (a := l) (b := 28) hl (by decide)), if_pos hx, nI_clamp (by omega)]
    obtain ⟨r0, M0, e0, a1⟩ := ksl (k := 63) (j := l) a0 (sk_234 l hl).1 (by omega)
    rw [e0, am_b2_s, if_pos hx, am_let_s, if_pos hx]
    obtain ⟨r1, M1, e1, a2⟩ := ksl (k := 64) (j := l) a1 (sk_234 l hl).2 (by omega)
    rw [e1, am_b2_s, if_pos hx, am_let_s, am_let_s, nI_1]
    exact ⟨_, rfl, _, rfl, by rw [show 234 + 2 * (l + 1) = 234 + 2 * l + 1 + 1 by omega]; exact a2⟩
  · rintro x ⟨A, rfl, a0⟩
    exact ⟨A, by rw [am_u2_s, if_pos (show (28 : Int32) ≤ nI 28 by decide)], a0⟩
  clear h0
  rintro A234 h0
  obtain ⟨r, M, e, h1⟩ := ksl (k := 55) (j := 18) h0 (by decide) (by decide)
  rw [e, am_b2_s, am_let_s]
  clear h0 e
  have h0 := h1
  clear h1
  refine it_b1_inv (R := fun z => ∃ K : am_IT, z = some K ∧ PK tk B 411 K)
    (fun l x => ∃ A : am_IT, x = (nI l, A) ∧ PK tk B (291 + 3 * l) A) (fun (A : am_IT) => PK tk B 411 A) (n := 40) (by omega) ?_ ?_ ⟨_, by rw [nI_0], h0⟩ ?_
  · rintro l x hl ⟨A, rfl, a0⟩
    have hx : am_ix (nI l) 40 = true := am_ix_nI (by omega) (by decide)
    rw [am_u2_s, if_neg (show ¬ (40 : Int32) ≤ nI l from nI_ge (a := l) (b := 40) hl (by decide)), if_pos hx, nI_clamp (by omega)]
    obtain ⟨r0, M0, e0, a1⟩ := ksl (k := 67) (j := l) a0 (sk_291 l hl).1 (by omega)
    rw [e0, am_b2_s, if_pos hx, am_let_s, if_pos hx]
    obtain ⟨r1, M1, e1, a2⟩ := ksl (k := 68) (j := l) a1 (sk_291 l hl).2.1 (by omega)
    rw [e1, am_b2_s, if_pos hx, am_let_s, if_pos hx]
    obtain ⟨r2, M2, e2, a3⟩ := ksl (k := 69) (j := l) a2 (sk_291 l hl).2.2 (by omega)
    rw [e2, am_b2_s, if_pos hx, am_let_s, am_let_s, nI_1]
    exact ⟨_, rfl, _, rfl, by rw [show 291 + 3 * (l + 1) = 291 + 3 * l + 1 + 1 + 1 by omega]; exact a3⟩
  · rintro x ⟨A, rfl, a0⟩
    exact ⟨A, by rw [am_u2_s, if_pos (show (40 : Int32) ≤ nI 40 by decide)], a0⟩
  clear h0
  rintro A291 h0
  exact ⟨_, rfl, h0⟩
theorem e_kru {tk : Bool} {B J : am_IT} (h0 : PK tk B 411 J) : ∃ K, F_X12_keepsRule_55 J = some K ∧ PK tk B 1260 K := by
  unfold F_X12_keepsRule_55
  obtain ⟨r, M, e, h1⟩ := ksl (k := 55) (j := 32) h0 (by decide) (by decide)
  rw [e, am_b2_s, am_let_s]
  clear h0 e
  have h0 := h1
  clear h1
  refine it_b1_inv (R := fun z => ∃ K : am_IT, z = some K ∧ PK tk B 1260 K)
    (fun l x => ∃ A : am_IT, x = (nI l, A) ∧ PK tk B (412 + 3 * l) A) (fun (A : am_IT) => PK tk B 460 A) (n := 16) (by omega) ?_ ?_ ⟨_, by rw [nI_0], h0⟩ ?_
  · rintro l x hl ⟨A, rfl, a0⟩
    have hx : am_ix (nI l) 32 = true := am_ix_nI (by omega) (by decide)
    rw [am_u2_s, if_neg (show ¬ (16 : Int32) ≤ nI l from nI_ge (a := l) (b := 16) hl (by decide)), if_pos hx, nI_clamp (by omega)]
    obtain ⟨r0, M0, e0, a1⟩ := ksl (k := 75) (j := l) a0 (sk_412 l hl).1 (by omega)
    rw [e0, am_b2_s, if_pos hx, am_let_s, if_pos hx]
    obtain ⟨r1, M1, e1, a2⟩ := ksl (k := 76) (j := l) a1 (sk_412 l hl).2.1 (by omega)
    rw [e1, am_b2_s, if_pos hx, am_let_s, if_pos hx]
    obtain ⟨r2, M2, e2, a3⟩ := ksl (k := 77) (j := l) a2 (sk_412 l hl).2.2 (by omega)
    rw [e2, am_b2_s, if_pos hx, am_let_s, am_let_s, nI_1]
    exact ⟨_, rfl, _, rfl, by rw [show 412 + 3 * (l + 1) = 412 + 3 * l + 1 + 1 + 1 by omega]; exact a3⟩
  · rintro x ⟨A, rfl, a0⟩
    exact ⟨A, by rw [am_u2_s, if_pos (show (16 : Int32) ≤ nI 16 by decide)], a0⟩
  clear h0
  rintro A412 h0
  refine it_b1_inv (R := fun z => ∃ K : am_IT, z = some K ∧ PK tk B 1260 K)
    (fun l x => ∃ A : am_IT, x = (nI l, A) ∧ PK tk B (460 + 2 * l) A) (fun (A : am_IT) => PK tk B 1260 A) (n := 400) (by omega) ?_ ?_ ⟨_, by rw [nI_0], h0⟩ ?_
  · rintro l x hl ⟨A, rfl, a0⟩
    have hx : am_ix (nI l) 800 = true := am_ix_nI (by omega) (by decide)
    rw [am_u2_s, if_neg (show ¬ (400 : Int32) ≤ nI l from nI_ge (a := l) (b := 400) hl (by decide)), if_pos hx, nI_clamp (by omega)]
    obtain ⟨r0, M0, e0, a1⟩ := ksl (k := 78) (j := l) a0 (sk_460 l hl).1 (by omega)
    rw [e0, am_b2_s, if_pos hx, am_let_s, if_pos hx]
    obtain ⟨r1, M1, e1, a2⟩ := ksl (k := 79) (j := l) a1 (sk_460 l hl).2 (by omega)
    rw [e1, am_b2_s, if_pos hx, am_let_s, am_let_s, nI_1]
    exact ⟨_, rfl, _, rfl, by rw [show 460 + 2 * (l + 1) = 460 + 2 * l + 1 + 1 by omega]; exact a2⟩
  · rintro x ⟨A, rfl, a0⟩
    exact ⟨A, by rw [am_u2_s, if_pos (show (400 : Int32) ≤ nI 400 by decide)], a0⟩
  clear h0
  rintro A460 h0
  exact ⟨_, rfl, h0⟩
theorem e_imr {tk : Bool} {B I : am_IT} {a1 : Int32} (hB : B = up2 (up2 (up2 (up2 I 55 0 0) 55 64 a1) 55 65 1) 55 66 0) (ht : b2i tk = a1) (hk : a1 = 0 → ¬ I 55 65 = 0) : ∃ K, F_X12_image_55 I a1 = some ((1 : Int32), K) ∧ PK tk B 1260 K := by
  have h0 : PK tk B 0 B := by
    refine ⟨?_, ?_, fun _ => ⟨fun s hs => absurd hs (Nat.not_lt_zero s), fun _ _ _ _ => rfl⟩, fun _ => ⟨fun s hs => absurd hs (Nat.not_lt_zero s), fun _ _ _ _ => rfl⟩⟩
    · rw [hB, up2_s]; rfl
    · rw [hB, up2_j _ _ (by decide), up2_j _ _ (by decide), up2_s]; exact ht.symm
  have ha : a1 = 0 ∨ a1 = 1 := by rw [← ht]; cases tk; exact Or.inl rfl; exact Or.inr rfl
  unfold F_X12_image_55
  rw [am_let_s]
  by_cases z : a1 = 0
  · rw [if_pos z, if_neg (show ¬ (up2 I 55 0 0) 55 65 = 0 from hk z), if_pos ha, am_let_s, am_let_s, am_let_s, ← hB]
    obtain ⟨r, M, e, h1⟩ := ksl (k := 55) (j := 1) h0 (by decide) (by decide)
    rw [e, am_b2_s, am_let_s]
    clear h0 e
    have h0 := h1
    clear h1
    obtain ⟨r, M, e, h1⟩ := ksl (k := 55) (j := 2) h0 (by decide) (by decide)
    rw [e, am_b2_s, am_let_s]
    clear h0 e
    have h0 := h1
    clear h1
    obtain ⟨r, M, e, h1⟩ := ksl (k := 55) (j := 13) h0 (by decide) (by decide)
    rw [e, am_b2_s, am_let_s]
    clear h0 e
    have h0 := h1
    clear h1
    obtain ⟨r, M, e, h1⟩ := ksl (k := 55) (j := 4) h0 (by decide) (by decide)
    rw [e, am_b2_s, am_let_s]
    clear h0 e
    have h0 := h1
    clear h1
    refine it_b1_inv (R := fun z => ∃ K : am_IT, z = some ((1 : Int32), K) ∧ PK tk B 1260 K)
      (fun l x => ∃ A : am_IT, x = (nI l, A) ∧ PK tk B (4 + 1 * l) A) (fun (A : am_IT) => PK tk B 11 A) (n := 7) (by omega) ?_ ?_ ⟨_, by rw [nI_0], h0⟩ ?_
    · rintro l x hl ⟨A, rfl, a0⟩
      have hx : am_ix (nI l) 35 = true := am_ix_nI (by omega) (by decide)
      rw [am_u2_s, if_neg (show ¬ (7 : Int32) ≤ nI l from nI_ge (a := l) (b := 7) hl (by decide)), show (0 : Int32) + nI l = nI l from Int32.zero_add _, if_pos hx, nI_clamp (by omega)]
      obtain ⟨r0, M0, e0, a1⟩ := ksl (k := 72) (j := l) a0 (sk_4 l hl) (by omega)
      rw [e0, am_b2_s, if_pos hx, am_let_s, am_let_s, nI_1]
      exact ⟨_, rfl, _, rfl, by rw [show 4 + 1 * (l + 1) = 4 + 1 * l + 1 by omega]; exact a1⟩
    · rintro x ⟨A, rfl, a0⟩
      exact ⟨A, by rw [am_u2_s, if_pos (show (7 : Int32) ≤ nI 7 by decide)], a0⟩
    clear h0
    rintro A4 h0
    refine it_b1_inv (R := fun z => ∃ K : am_IT, z = some ((1 : Int32), K) ∧ PK tk B 1260 K)
      (fun l x => ∃ A : am_IT, x = (nI l, A) ∧ PK tk B (11 + 1 * l) A) (fun (A : am_IT) => PK tk B 15 A) (n := 4) (by omega) ?_ ?_ ⟨_, by rw [nI_0], h0⟩ ?_
    · rintro l x hl ⟨A, rfl, a0⟩
      have hx : am_ix (nI l) 4 = true := am_ix_nI (by omega) (by decide)
      rw [am_u2_s, if_neg (show ¬ (4 : Int32) ≤ nI l from nI_ge (a := l) (b := 4) hl (by decide)), if_pos hx, nI_clamp (by omega)]
      obtain ⟨r0, M0, e0, a1⟩ := ksl (k := 56) (j := l) a0 (sk_11 l hl) (by omega)
      rw [e0, am_b2_s, if_pos hx, am_let_s, am_let_s, nI_1]
      exact ⟨_, rfl, _, rfl, by rw [show 11 + 1 * (l + 1) = 11 + 1 * l + 1 by omega]; exact a1⟩
    · rintro x ⟨A, rfl, a0⟩
      exact ⟨A, by rw [am_u2_s, if_pos (show (4 : Int32) ≤ nI 4 by decide)], a0⟩
    clear h0
    rintro A11 h0
    refine it_b1_inv (R := fun z => ∃ K : am_IT, z = some ((1 : Int32), K) ∧ PK tk B 1260 K)
      (fun l x => ∃ A : am_IT, x = (nI l, A) ∧ PK tk B (15 + 1 * l) A) (fun (A : am_IT) => PK tk B 71 A) (n := 56) (by omega) ?_ ?_ ⟨_, by rw [nI_0], h0⟩ ?_
    · rintro l x hl ⟨A, rfl, a0⟩
      have hx : am_ix (nI l) 56 = true := am_ix_nI (by omega) (by decide)
      rw [am_u2_s, if_neg (show ¬ (56 : Int32) ≤ nI l from nI_ge (a := l) (b := 56) hl (by decide)), if_pos hx, nI_clamp (by omega)]
      obtain ⟨r0, M0, e0, a1⟩ := ksl (k := 58) (j := l) a0 (sk_15 l hl) (by omega)
      rw [e0, am_b2_s, if_pos hx, am_let_s, am_let_s, nI_1]
      exact ⟨_, rfl, _, rfl, by rw [show 15 + 1 * (l + 1) = 15 + 1 * l + 1 by omega]; exact a1⟩
    · rintro x ⟨A, rfl, a0⟩
      exact ⟨A, by rw [am_u2_s, if_pos (show (56 : Int32) ≤ nI 56 by decide)], a0⟩
    clear h0
    rintro A15 h0
    refine it_b1_inv (R := fun z => ∃ K : am_IT, z = some ((1 : Int32), K) ∧ PK tk B 1260 K)
      (fun l x => ∃ A : am_IT, x = (nI l, A) ∧ PK tk B (71 + 1 * l) A) (fun (A : am_IT) => PK tk B 120 A) (n := 49) (by omega) ?_ ?_ ⟨_, by rw [nI_0], h0⟩ ?_
    · rintro l x hl ⟨A, rfl, a0⟩
      have hx : am_ix (nI l) 49 = true := am_ix_nI (by omega) (by decide)
      rw [am_u2_s, if_neg (show ¬ (49 : Int32) ≤ nI l from nI_ge (a := l) (b := 49) hl (by decide)), if_pos hx, nI_clamp (by omega)]
      obtain ⟨r0, M0, e0, a1⟩ := ksl (k := 66) (j := l) a0 (sk_71 l hl) (by omega)
      rw [e0, am_b2_s, if_pos hx, am_let_s, am_let_s, nI_1]
      exact ⟨_, rfl, _, rfl, by rw [show 71 + 1 * (l + 1) = 71 + 1 * l + 1 by omega]; exact a1⟩
    · rintro x ⟨A, rfl, a0⟩
      exact ⟨A, by rw [am_u2_s, if_pos (show (49 : Int32) ≤ nI 49 by decide)], a0⟩
    clear h0
    rintro A71 h0
    obtain ⟨r, M, e, h1⟩ := ksl (k := 55) (j := 8) h0 (by decide) (by decide)
    rw [e, am_b2_s, am_let_s]
    clear h0 e
    have h0 := h1
    clear h1
    refine it_b1_inv (R := fun z => ∃ K : am_IT, z = some ((1 : Int32), K) ∧ PK tk B 1260 K)
      (fun l x => ∃ A : am_IT, x = (nI l, A) ∧ PK tk B (121 + 4 * l) A) (fun (A : am_IT) => PK tk B 201 A) (n := 20) (by omega) ?_ ?_ ⟨_, by rw [nI_0], h0⟩ ?_
    · rintro l x hl ⟨A, rfl, a0⟩
      have hx : am_ix (nI l) 20 = true := am_ix_nI (by omega) (by decide)
      rw [am_u2_s, if_neg (show ¬ (20 : Int32) ≤ nI l from nI_ge (a := l) (b := 20) hl (by decide)), if_pos hx, nI_clamp (by omega)]
      obtain ⟨r0, M0, e0, a1⟩ := ksl (k := 59) (j := l) a0 (sk_121 l hl).1 (by omega)
      rw [e0, am_b2_s, if_pos hx, am_let_s, if_pos hx]
      obtain ⟨r1, M1, e1, a2⟩ := ksl (k := 60) (j := l) a1 (sk_121 l hl).2.1 (by omega)
      rw [e1, am_b2_s, if_pos hx, am_let_s, if_pos hx]
      obtain ⟨r2, M2, e2, a3⟩ := ksl (k := 61) (j := l) a2 (sk_121 l hl).2.2.1 (by omega)
      rw [e2, am_b2_s, if_pos hx, am_let_s, if_pos hx]
      obtain ⟨r3, M3, e3, a4⟩ := ksl (k := 62) (j := l) a3 (sk_121 l hl).2.2.2 (by omega)
      rw [e3, am_b2_s, if_pos hx, am_let_s, am_let_s, nI_1]
      exact ⟨_, rfl, _, rfl, by rw [show 121 + 4 * (l + 1) = 121 + 4 * l + 1 + 1 + 1 + 1 by omega]; exact a4⟩
    · rintro x ⟨A, rfl, a0⟩
      exact ⟨A, by rw [am_u2_s, if_pos (show (20 : Int32) ≤ nI 20 by decide)], a0⟩
    clear h0
    rintro A121 h0
    refine it_b1_inv (R := fun z => ∃ K : am_IT, z = some ((1 : Int32), K) ∧ PK tk B 1260 K)
      (fun l x => ∃ A : am_IT, x = (nI l, A) ∧ PK tk B (201 + 2 * l) A) (fun (A : am_IT) => PK tk B 219 A) (n := 9) (by omega) ?_ ?_ ⟨_, by rw [nI_0], h0⟩ ?_
    · rintro l x hl ⟨A, rfl, a0⟩
      have hx : am_ix (nI l) 9 = true := am_ix_nI (by omega) (by decide)
      rw [am_u2_s, if_neg (show ¬ (9 : Int32) ≤ nI l from nI_ge (a := l) (b := 9) hl (by decide)), if_pos hx, nI_clamp (by omega)]
      obtain ⟨r0, M0, e0, a1⟩ := ksl (k := 70) (j := l) a0 (sk_201 l hl).1 (by omega)
      rw [e0, am_b2_s, if_pos hx, am_let_s, if_pos hx]
      obtain ⟨r1, M1, e1, a2⟩ := ksl (k := 71) (j := l) a1 (sk_201 l hl).2 (by omega)
      rw [e1, am_b2_s, if_pos hx, am_let_s, am_let_s, nI_1]
      exact ⟨_, rfl, _, rfl, by rw [show 201 + 2 * (l + 1) = 201 + 2 * l + 1 + 1 by omega]; exact a2⟩
    · rintro x ⟨A, rfl, a0⟩
      exact ⟨A, by rw [am_u2_s, if_pos (show (9 : Int32) ≤ nI 9 by decide)], a0⟩
    clear h0
    rintro A201 h0
    obtain ⟨K1, e1, h1⟩ := e_kpe h0
    obtain ⟨K2, e2, h2⟩ := e_kru h1
    exact ⟨K2, by rw [e1, am_b1_s, e2, am_b1_s], h2⟩
  · rw [if_neg z, if_pos ha, am_let_s, am_let_s, am_let_s, ← hB]
    obtain ⟨r, M, e, h1⟩ := ksl (k := 55) (j := 1) h0 (by decide) (by decide)
    rw [e, am_b2_s, am_let_s]
    clear h0 e
    have h0 := h1
    clear h1
    obtain ⟨r, M, e, h1⟩ := ksl (k := 55) (j := 2) h0 (by decide) (by decide)
    rw [e, am_b2_s, am_let_s]
    clear h0 e
    have h0 := h1
    clear h1
    obtain ⟨r, M, e, h1⟩ := ksl (k := 55) (j := 13) h0 (by decide) (by decide)
    rw [e, am_b2_s, am_let_s]
    clear h0 e
    have h0 := h1
    clear h1
    obtain ⟨r, M, e, h1⟩ := ksl (k := 55) (j := 4) h0 (by decide) (by decide)
    rw [e, am_b2_s, am_let_s]
    clear h0 e
    have h0 := h1
    clear h1
    refine it_b1_inv (R := fun z => ∃ K : am_IT, z = some ((1 : Int32), K) ∧ PK tk B 1260 K)
      (fun l x => ∃ A : am_IT, x = (nI l, A) ∧ PK tk B (4 + 1 * l) A) (fun (A : am_IT) => PK tk B 11 A) (n := 7) (by omega) ?_ ?_ ⟨_, by rw [nI_0], h0⟩ ?_
    · rintro l x hl ⟨A, rfl, a0⟩
      have hx : am_ix (nI l) 35 = true := am_ix_nI (by omega) (by decide)
      rw [am_u2_s, if_neg (show ¬ (7 : Int32) ≤ nI l from nI_ge (a := l) (b := 7) hl (by decide)), show (0 : Int32) + nI l = nI l from Int32.zero_add _, if_pos hx, nI_clamp (by omega)]
      obtain ⟨r0, M0, e0, a1⟩ := ksl (k := 72) (j := l) a0 (sk_4 l hl) (by omega)
      rw [e0, am_b2_s, if_pos hx, am_let_s, am_let_s, nI_1]
      exact ⟨_, rfl, _, rfl, by rw [show 4 + 1 * (l + 1) = 4 + 1 * l + 1 by omega]; exact a1⟩
    · rintro x ⟨A, rfl, a0⟩
      exact ⟨A, by rw [am_u2_s, if_pos (show (7 : Int32) ≤ nI 7 by decide)], a0⟩
    clear h0
    rintro A4 h0
    refine it_b1_inv (R := fun z => ∃ K : am_IT, z = some ((1 : Int32), K) ∧ PK tk B 1260 K)
      (fun l x => ∃ A : am_IT, x = (nI l, A) ∧ PK tk B (11 + 1 * l) A) (fun (A : am_IT) => PK tk B 15 A) (n := 4) (by omega) ?_ ?_ ⟨_, by rw [nI_0], h0⟩ ?_
    · rintro l x hl ⟨A, rfl, a0⟩
      have hx : am_ix (nI l) 4 = true := am_ix_nI (by omega) (by decide)
      rw [am_u2_s, if_neg (show ¬ (4 : Int32) ≤ nI l from nI_ge (a := l) (b := 4) hl (by decide)), if_pos hx, nI_clamp (by omega)]
      obtain ⟨r0, M0, e0, a1⟩ := ksl (k := 56) (j := l) a0 (sk_11 l hl) (by omega)
      rw [e0, am_b2_s, if_pos hx, am_let_s, am_let_s, nI_1]
      exact ⟨_, rfl, _, rfl, by rw [show 11 + 1 * (l + 1) = 11 + 1 * l + 1 by omega]; exact a1⟩
    · rintro x ⟨A, rfl, a0⟩
      exact ⟨A, by rw [am_u2_s, if_pos (show (4 : Int32) ≤ nI 4 by decide)], a0⟩
    clear h0
    rintro A11 h0
    refine it_b1_inv (R := fun z => ∃ K : am_IT, z = some ((1 : Int32), K) ∧ PK tk B 1260 K)
      (fun l x => ∃ A : am_IT, x = (nI l, A) ∧ PK tk B (15 + 1 * l) A) (fun (A : am_IT) => PK tk B 71 A) (n := 56) (by omega) ?_ ?_ ⟨_, by rw [nI_0], h0⟩ ?_
    · rintro l x hl ⟨A, rfl, a0⟩
      have hx : am_ix (nI l) 56 = true := am_ix_nI (by omega) (by decide)
      rw [am_u2_s, if_neg (show ¬ (56 : Int32) ≤ nI l from nI_ge (a := l) (b := 56) hl (by decide)), if_pos hx, nI_clamp (by omega)]
      obtain ⟨r0, M0, e0, a1⟩ := ksl (k := 58) (j := l) a0 (sk_15 l hl) (by omega)
      rw [e0, am_b2_s, if_pos hx, am_let_s, am_let_s, nI_1]
      exact ⟨_, rfl, _, rfl, by rw [show 15 + 1 * (l + 1) = 15 + 1 * l + 1 by omega]; exact a1⟩
    · rintro x ⟨A, rfl, a0⟩
      exact ⟨A, by rw [am_u2_s, if_pos (show (56 : Int32) ≤ nI 56 by decide)], a0⟩
    clear h0
    rintro A15 h0
    refine it_b1_inv (R := fun z => ∃ K : am_IT, z = some ((1 : Int32), K) ∧ PK tk B 1260 K)
      (fun l x => ∃ A : am_IT, x = (nI l, A) ∧ PK tk B (71 + 1 * l) A) (fun (A : am_IT) => PK tk B 120 A) (n := 49) (by omega) ?_ ?_ ⟨_, by rw [nI_0], h0⟩ ?_
    · rintro l x hl ⟨A, rfl, a0⟩
      have hx : am_ix (nI l) 49 = true := am_ix_nI (by omega) (by decide)
      rw [am_u2_s, if_neg (show ¬ (49 : Int32) ≤ nI l from nI_ge (a := l) (b := 49) hl (by decide)), if_pos hx, nI_clamp (by omega)]
      obtain ⟨r0, M0, e0, a1⟩ := ksl (k := 66) (j := l) a0 (sk_71 l hl) (by omega)
      rw [e0, am_b2_s, if_pos hx, am_let_s, am_let_s, nI_1]
      exact ⟨_, rfl, _, rfl, by rw [show 71 + 1 * (l + 1) = 71 + 1 * l + 1 by omega]; exact a1⟩
    · rintro x ⟨A, rfl, a0⟩
      exact ⟨A, by rw [am_u2_s, if_pos (show (49 : Int32) ≤ nI 49 by decide)], a0⟩
    clear h0
    rintro A71 h0
    obtain ⟨r, M, e, h1⟩ := ksl (k := 55) (j := 8) h0 (by decide) (by decide)
    rw [e, am_b2_s, am_let_s]
    clear h0 e
    have h0 := h1
    clear h1
    refine it_b1_inv (R := fun z => ∃ K : am_IT, z = some ((1 : Int32), K) ∧ PK tk B 1260 K)
      (fun l x => ∃ A : am_IT, x = (nI l, A) ∧ PK tk B (121 + 4 * l) A) (fun (A : am_IT) => PK tk B 201 A) (n := 20) (by omega) ?_ ?_ ⟨_, by rw [nI_0], h0⟩ ?_
    · rintro l x hl ⟨A, rfl, a0⟩
      have hx : am_ix (nI l) 20 = true := am_ix_nI (by omega) (by decide)
      rw [am_u2_s, if_neg (show ¬ (20 : Int32) ≤ nI l from nI_ge (a := l) (b := 20) hl (by decide)), if_pos hx, nI_clamp (by omega)]
      obtain ⟨r0, M0, e0, a1⟩ := ksl (k := 59) (j := l) a0 (sk_121 l hl).1 (by omega)
      rw [e0, am_b2_s, if_pos hx, am_let_s, if_pos hx]
      obtain ⟨r1, M1, e1, a2⟩ := ksl (k := 60) (j := l) a1 (sk_121 l hl).2.1 (by omega)
      rw [e1, am_b2_s, if_pos hx, am_let_s, if_pos hx]
      obtain ⟨r2, M2, e2, a3⟩ := ksl (k := 61) (j := l) a2 (sk_121 l hl).2.2.1 (by omega)
      rw [e2, am_b2_s, if_pos hx, am_let_s, if_pos hx]
      obtain ⟨r3, M3, e3, a4⟩ := ksl (k := 62) (j := l) a3 (sk_121 l hl).2.2.2 (by omega)
      rw [e3, am_b2_s, if_pos hx, am_let_s, am_let_s, nI_1]
      exact ⟨_, rfl, _, rfl, by rw [show 121 + 4 * (l + 1) = 121 + 4 * l + 1 + 1 + 1 + 1 by omega]; exact a4⟩
    · rintro x ⟨A, rfl, a0⟩
      exact ⟨A, by rw [am_u2_s, if_pos (show (20 : Int32) ≤ nI 20 by decide)], a0⟩
    clear h0
    rintro A121 h0
    refine it_b1_inv (R := fun z => ∃ K : am_IT, z = some ((1 : Int32), K) ∧ PK tk B 1260 K)
      (fun l x => ∃ A : am_IT, x = (nI l, A) ∧ PK tk B (201 + 2 * l) A) (fun (A : am_IT) => PK tk B 219 A) (n := 9) (by omega) ?_ ?_ ⟨_, by rw [nI_0], h0⟩ ?_
    · rintro l x hl ⟨A, rfl, a0⟩
      have hx : am_ix (nI l) 9 = true := am_ix_nI (by omega) (by decide)
      rw [am_u2_s, if_neg (show ¬ (9 : Int32) ≤ nI l from nI_ge (a := l) (b := 9) hl (by decide)), if_pos hx, nI_clamp (by omega)]
      obtain ⟨r0, M0, e0, a1⟩ := ksl (k := 70) (j := l) a0 (sk_201 l hl).1 (by omega)
      rw [e0, am_b2_s, if_pos hx, am_let_s, if_pos hx]
      obtain ⟨r1, M1, e1, a2⟩ := ksl (k := 71) (j := l) a1 (sk_201 l hl).2 (by omega)
      rw [e1, am_b2_s, if_pos hx, am_let_s, am_let_s, nI_1]
      exact ⟨_, rfl, _, rfl, by rw [show 201 + 2 * (l + 1) = 201 + 2 * l + 1 + 1 by omega]; exact a2⟩
    · rintro x ⟨A, rfl, a0⟩
      exact ⟨A, by rw [am_u2_s, if_pos (show (9 : Int32) ≤ nI 9 by decide)], a0⟩
    clear h0
    rintro A201 h0
    obtain ⟨K1, e1, h1⟩ := e_kpe h0
    obtain ⟨K2, e2, h2⟩ := e_kru h1
    exact ⟨K2, by rw [e1, am_b1_s, e2, am_b1_s], h2⟩
