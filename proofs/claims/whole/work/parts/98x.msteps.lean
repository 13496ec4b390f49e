/-! text: the reference's steps in a condition -/
theorem b_many {B : Nat → Int32} {n m : Nat} {T : Nat → Int32} {S E : Nat → Nat} {H : am_IT} {k b : Nat} {R : List (Nat × Nat)} {P : List Nat} {I : am_IT} (A : mA B n m T S E H k R P 8 I) (h : T k = 260 ∨ T k = 40) : ∃ I', bDue (nI b) 1 I = some (.inr (-1, I')) ∧ mE S H 3 k I' := by
  have K := A.1.2.2.2.1
  have h10 : ¬ (1 : Int32) = 0 := by decide
  have a5 : I 55 39 = 8 := A.2.2.2.2
  obtain ⟨I', e, F⟩ := a_errs A (v := 3) (f := 3) rfl
  refine ⟨I', ?_, F⟩
  unfold bDue
  rcases h with h | h
  · rw [if_neg h10, e_isW K (w := 10) (by decide) (v := 10) rfl, if_pos (show T k = nI (256 + wp 10) from h), am_b1_s, if_neg h10, if_pos a5, e, am_b2_s]
  · rw [if_neg h10, e_isW K (w := 10) (by decide) (v := 10) rfl, if_neg (show ¬ T k = nI (256 + wp 10) by rw [h]; decide), am_b1_s, if_pos rfl, e_isS K (c := 40) rfl, if_pos h, am_b1_s, if_neg h10, if_pos a5, e, am_b2_s]
theorem mA_o {B : Nat → Int32} {n m : Nat} {T : Nat → Int32} {S E : Nat → Nat} {H : am_IT} {k o : Nat} {R : List (Nat × Nat)} {P : List Nat} {I : am_IT} (A : mA B n m T S E H k R P o I) : mA B n m T S E H k R P (o + 1) (up2 I 55 39 (I 55 39 + 1)) := mA_55 A (Or.inl rfl) A.2.2.1 A.2.2.2.1 (by rw [up2_s, A.2.2.2.2, nI_1])
theorem b_not {B : Nat → Int32} {n m : Nat} {T : Nat → Int32} {S E : Nat → Nat} {H : am_IT} {k b o : Nat} {R : List (Nat × Nat)} {P : List Nat} {I : am_IT} (X : nx B n m T S E) (A : mA B n m T S E H k R P o I) (ho : o < 8) (hP : P.length < 40) (h : T k = 260) (hk : k < m) : ∃ I', bDue (nI b) 1 I = some (.inl (nI b, 1, I')) ∧ mA B n m T S E H (k + 1) R (9 :: P) (o + 1) I' := by
  have K := A.1.2.2.2.1
  have h10 : ¬ (1 : Int32) = 0 := by decide
  have a5 : ¬ I 55 39 = 8 := by rw [A.2.2.2.2]; exact fun z => by have := (nI_eq (a := o) (b := 8) (by omega) (by decide)).mp z; omega
  obtain ⟨I1, e1, A1⟩ := a_wait (mA_o A) hP 9 (v := 9) rfl
  obtain ⟨I2, e2, A2⟩ := a_reads X A1 hk
  refine ⟨I2, ?_, A2⟩
  unfold bDue
  rw [if_neg h10, e_isW K (w := 10) (by decide) (v := 10) rfl, if_pos (show T k = nI (256 + wp 10) from h), am_b1_s, if_neg h10, if_neg a5, am_let_s, if_neg h10, am_b1_s, if_neg h10, am_b1_s, e1, am_b1_s, e2, am_b1_s]
theorem b_br {B : Nat → Int32} {n m : Nat} {T : Nat → Int32} {S E : Nat → Nat} {H : am_IT} {k b o : Nat} {R : List (Nat × Nat)} {P : List Nat} {I : am_IT} (X : nx B n m T S E) (A : mA B n m T S E H k R P o I) (ho : o < 8) (hP : P.length < 40) (h : T k = 40) (hk : k < m) : ∃ I', bDue (nI b) 1 I = some (.inl (nI (b + 1), 1, I')) ∧ mA B n m T S E H (k + 1) R (12 :: P) (o + 1) I' := by
  have K := A.1.2.2.2.1
  have h10 : ¬ (1 : Int32) = 0 := by decide
  have a5 : ¬ I 55 39 = 8 := by rw [A.2.2.2.2]; exact fun z => by have := (nI_eq (a := o) (b := 8) (by omega) (by decide)).mp z; omega
  obtain ⟨I1, e1, A1⟩ := a_wait (mA_o A) hP 12 (v := 12) rfl
  obtain ⟨I2, e2, A2⟩ := a_reads X A1 hk
  refine ⟨I2, ?_, A2⟩
  unfold bDue
  rw [if_neg h10, e_isW K (w := 10) (by decide) (v := 10) rfl, if_neg (show ¬ T k = nI (256 + wp 10) by rw [h]; decide), am_b1_s, if_pos rfl, e_isS K (c := 40) rfl, if_pos h, am_b1_s, if_neg h10, if_neg a5, am_let_s, if_pos rfl, am_let_s, am_b1_s, if_pos rfl, am_b1_s, e1, am_b1_s, e2, am_b1_s, nI_1]
def hd9 (P : List Nat) : Prop := ∀ v r, P = v :: r → v = 10 ∨ v = 11 ∨ v = 12
def hd12 (P : List Nat) : Prop := ∀ v r, P = v :: r → v = 12
theorem b_cmp {B : Nat → Int32} {n m : Nat} {T : Nat → Int32} {S E : Nat → Nat} {H : am_IT} {k b o j : Nat} {L : List rOp} {P0 : List Nat} {I : am_IT} (X : nx B n m T S E) (hT : ∀ k, okT (T k)) (hT3 : ∀ k, m ≤ k → T k = 300) (A : mA B n m T S E H k (rRefs L) (List.replicate j 9 ++ P0) o I) (hj : j ≤ o) (h0 : hd9 P0) (hL : (rRefs L).length + j ≤ k) (hP : j + P0.length ≤ 40) (h1 : ¬ T k = 260) (h2 : ¬ T k = 40) : (∃ fq kq I', gc T k L = .inr (fq, kq) ∧ bDue (nI b) 1 I = some (.inr (-1, I')) ∧ mE S H fq kq I') ∨ (∃ k' L' I', gc T k L = .inl (k', L') ∧ bDue (nI b) 1 I = some (.inl (nI b, 0, I')) ∧ mA B n m T S E H k' (rRefs L' ++ List.replicate j (9, 0)) P0 (o - j) I') := by
  have K := A.1.2.2.2.1
  have hm : m ≤ 400 := X.2
  have h10 : ¬ (1 : Int32) = 0 := by decide
  obtain ⟨r, I1, e1, R⟩ := r_cmp X hT hT3 A.1 (by omega)
  cases hg : gc T k L with
  | inr q =>
    obtain ⟨fq, kq⟩ := q
    rw [hg] at R
    obtain ⟨rfl, F1, F2, F3⟩ := R
    refine Or.inl ⟨fq, kq, I1, rfl, ?_, F1, F2, mG_t A.2.1 F3⟩
    unfold bDue
    rw [if_neg h10, e_isW K (w := 10) (by decide) (v := 10) rfl, if_neg (show ¬ T k = nI (256 + wp 10) from h1), am_b1_s, if_pos rfl, e_isS K (c := 40) rfl, if_neg h2, am_b1_s, if_pos rfl, e1, am_b2_s, if_pos rfl]
  | inl q =>
    obtain ⟨k', L'⟩ := q
    rw [hg] at R
    obtain ⟨rfl, M⟩ := R
    obtain ⟨p1, p2, p3⟩ := r_len (gc_p hT hT3 L A.1.1) hg
    have A1 := mA_F A M
    obtain ⟨I2, e2, A2⟩ := a_set (w := 9) (by decide) (fun v r h => by
      have := h0 v r h
      omega) A1 (by omega) hP (fun _ => hj) (v := 9) rfl
    refine Or.inr ⟨k', L', I2, rfl, ?_, A2⟩
    unfold bDue
    rw [if_neg h10, e_isW K (w := 10) (by decide) (v := 10) rfl, if_neg (show ¬ T k = nI (256 + wp 10) from h1), am_b1_s, if_pos rfl, e_isS K (c := 40) rfl, if_neg h2, am_b1_s, if_pos rfl, e1, am_b2_s, if_neg (show ¬ (0 : Int32) = -1 by decide), e2, am_b1_s]
theorem b_an {B : Nat → Int32} {n m : Nat} {T : Nat → Int32} {S E : Nat → Nat} {H : am_IT} {k b o a : Nat} {R : List (Nat × Nat)} {P0 : List Nat} {I : am_IT} (X : nx B n m T S E) (A : mA B n m T S E H k R (List.replicate a 10 ++ P0) o I) (h0 : ∀ v r, P0 = v :: r → v = 11 ∨ v = 12) (hR : R.length + a ≤ 400) (hP : a + P0.length < 40) (h : T k = 259) (hk : k < m) : ∃ I', bDue (nI b) 0 I = some (.inl (nI b, 1, I')) ∧ mA B n m T S E H (k + 1) (R ++ List.replicate a (10, 0)) (10 :: P0) o I' := by
  have K := A.1.2.2.2.1
  have h10 : ¬ (1 : Int32) = 0 := by decide
  obtain ⟨I1, e1, A1⟩ := a_set (w := 10) (by decide) (fun v r h => by
    have := h0 v r h
    omega) A hR (by omega) (fun z => absurd z (by decide)) (v := 10) rfl
  obtain ⟨I2, e2, A2⟩ := a_wait A1 (by omega) 10 (v := 10) rfl
  obtain ⟨I3, e3, A3⟩ := a_reads X A2 hk
  refine ⟨I3, ?_, A3⟩
  unfold bDue
  rw [if_pos rfl, e_isW K (w := 9) (by decide) (v := 9) rfl, if_pos (show T k = nI (256 + wp 9) from h), am_b1_s, if_neg h10, e1, am_b1_s, e2, am_b1_s, e3, am_b1_s]
theorem hd_10 {c : Nat} {P0 : List Nat} (h : hd12 P0) : ∀ v r, List.replicate c 11 ++ P0 = v :: r → ¬ v = 10 ∧ v < 20 := by
  intro v r e
  cases c with
  | zero => have := h v r e; omega
  | succ c =>
    have : (11 : Nat) = v := congrArg (fun l => l.headD 0) e
    omega
theorem b_set2 {B : Nat → Int32} {n m : Nat} {T : Nat → Int32} {S E : Nat → Nat} {H : am_IT} {k o a c : Nat} {R : List (Nat × Nat)} {P0 : List Nat} {I : am_IT} (A : mA B n m T S E H k R (List.replicate a 10 ++ (List.replicate c 11 ++ P0)) o I) (h0 : hd12 P0) (hR : R.length + a + c ≤ 400) (hP : a + (c + P0.length) ≤ 40) : ∃ I1 I2, F_X12_settles_55 I 10 = some I1 ∧ F_X12_settles_55 I1 11 = some I2 ∧ mA B n m T S E H k (R ++ List.replicate a (10, 0) ++ List.replicate c (11, 0)) P0 o I2 := by
  obtain ⟨I1, e1, A1⟩ := a_set (w := 10) (by decide) (hd_10 h0) A (by omega) (by rw [List.length_append, List.length_replicate]; exact hP) (fun z => absurd z (by decide)) (v := 10) rfl
  obtain ⟨I2, e2, A2⟩ := a_set (w := 11) (by decide) (fun v r h => by
    have := h0 v r h
    omega) A1 (by rw [List.length_append, List.length_replicate]; exact hR) (by omega) (fun z => absurd z (by decide)) (v := 11) rfl
  exact ⟨I1, I2, e1, e2, A2⟩
theorem b_oo {B : Nat → Int32} {n m : Nat} {T : Nat → Int32} {S E : Nat → Nat} {H : am_IT} {k b o a c : Nat} {R : List (Nat × Nat)} {P0 : List Nat} {I : am_IT} (X : nx B n m T S E) (A : mA B n m T S E H k R (List.replicate a 10 ++ (List.replicate c 11 ++ P0)) o I) (h0 : hd12 P0) (hR : R.length + a + c ≤ 400) (hP : a + (c + P0.length) < 40) (h : T k = 258) (hk : k < m) : ∃ I', bDue (nI b) 0 I = some (.inl (nI b, 1, I')) ∧ mA B n m T S E H (k + 1) (R ++ List.replicate a (10, 0) ++ List.replicate c (11, 0)) (11 :: P0) o I' := by
  have K := A.1.2.2.2.1
  have h10 : ¬ (1 : Int32) = 0 := by decide
  obtain ⟨I1, I2, e1, e2, A2⟩ := b_set2 A h0 hR (by omega)
  obtain ⟨I3, e3, A3⟩ := a_wait A2 (by omega) 11 (v := 11) rfl
  obtain ⟨I4, e4, A4⟩ := a_reads X A3 hk
  refine ⟨I4, ?_, A4⟩
  unfold bDue
  rw [if_pos rfl, e_isW K (w := 9) (by decide) (v := 9) rfl, if_neg (show ¬ T k = nI (256 + wp 9) by rw [h]; decide), am_b1_s, if_pos rfl, e_isW K (w := 8) (by decide) (v := 8) rfl, if_pos (show T k = nI (256 + wp 8) from h), am_b1_s, if_neg h10, e1, am_b1_s, e2, am_b1_s, e3, am_b1_s, e4, am_b1_s]
theorem b_end0 {B : Nat → Int32} {n m : Nat} {T : Nat → Int32} {S E : Nat → Nat} {H : am_IT} {k o a c : Nat} {R : List (Nat × Nat)} {P0 : List Nat} {I : am_IT} (A : mA B n m T S E H k R (List.replicate a 10 ++ (List.replicate c 11 ++ P0)) o I) (h0 : hd12 P0) (hR : R.length + a + c ≤ 400) (hP : a + (c + P0.length) ≤ 40) (h1 : ¬ T k = 258) (h2 : ¬ T k = 259) : ∃ I', bDue (nI 0) 0 I = some (.inr (0, I')) ∧ mA B n m T S E H k (R ++ List.replicate a (10, 0) ++ List.replicate c (11, 0)) P0 o I' := by
  have K := A.1.2.2.2.1
  obtain ⟨I1, I2, e1, e2, A2⟩ := b_set2 A h0 hR hP
  refine ⟨I2, ?_, A2⟩
  unfold bDue
  rw [if_pos rfl, e_isW K (w := 9) (by decide) (v := 9) rfl, if_neg (show ¬ T k = nI (256 + wp 9) from h2), am_b1_s, if_pos rfl, e_isW K (w := 8) (by decide) (v := 8) rfl, if_neg (show ¬ T k = nI (256 + wp 8) from h1), am_b1_s, if_pos rfl, e1, am_b1_s, e2, am_b1_s, if_pos (show nI 0 = 0 from rfl)]
theorem b_endf {B : Nat → Int32} {n m : Nat} {T : Nat → Int32} {S E : Nat → Nat} {H : am_IT} {k o a b c : Nat} {R : List (Nat × Nat)} {P0 : List Nat} {I : am_IT} (A : mA B n m T S E H k R (List.replicate a 10 ++ (List.replicate c 11 ++ P0)) o I) (h0 : hd12 P0) (hR : R.length + a + c ≤ 400) (hP : a + (c + P0.length) ≤ 40) (h1 : ¬ T k = 258) (h2 : ¬ T k = 259) (hb : b < 100) (h3 : ¬ T k = 41) : ∃ I', bDue (nI (b + 1)) 0 I = some (.inr (-1, I')) ∧ mE S H 1 k I' := by
  have K := A.1.2.2.2.1
  obtain ⟨I1, I2, e1, e2, A2⟩ := b_set2 A h0 hR hP
  obtain ⟨I3, e3, F3⟩ := a_errs A2 (v := 1) (f := 1) rfl
  refine ⟨I3, ?_, F3⟩
  unfold bDue
  rw [if_pos rfl, e_isW K (w := 9) (by decide) (v := 9) rfl, if_neg (show ¬ T k = nI (256 + wp 9) from h2), am_b1_s, if_pos rfl, e_isW K (w := 8) (by decide) (v := 8) rfl, if_neg (show ¬ T k = nI (256 + wp 8) from h1), am_b1_s, if_pos rfl, e1, am_b1_s, e2, am_b1_s, if_neg (show ¬ nI (b + 1) = 0 from fun z => by have := (nI_eq (a := b + 1) (b := 0) (by omega) (by decide)).mp z; omega), e_isS A2.1.2.2.2.1 (c := 41) rfl, if_neg h3, am_b1_s, if_pos rfl, e3, am_b2_s]
theorem b_endb {B : Nat → Int32} {n m : Nat} {T : Nat → Int32} {S E : Nat → Nat} {H : am_IT} {k o a b c j : Nat} {R : List (Nat × Nat)} {P0 : List Nat} {I : am_IT} (X : nx B n m T S E) (A : mA B n m T S E H k R (List.replicate a 10 ++ (List.replicate c 11 ++ (12 :: (List.replicate j 9 ++ P0)))) o I) (h0 : hd9 P0) (hR : R.length + a + c + j ≤ 400) (hP : a + (c + (1 + (j + P0.length))) ≤ 40) (h1 : ¬ T k = 258) (h2 : ¬ T k = 259) (hb : b < 100) (h3 : T k = 41) (hk : k < m) (ho : j + 1 ≤ o) : ∃ I', bDue (nI (b + 1)) 0 I = some (.inl (nI b, 0, I')) ∧ mA B n m T S E H (k + 1) (R ++ List.replicate a (10, 0) ++ List.replicate c (11, 0) ++ List.replicate j (9, 0)) P0 (o - 1 - j) I' := by
  have K := A.1.2.2.2.1
  have h10 : ¬ (1 : Int32) = 0 := by decide
  have hlen : (List.replicate j 9 ++ P0).length = j + P0.length := by rw [List.length_append, List.length_replicate]
  obtain ⟨I1, I2, e1, e2, A2⟩ := b_set2 A (fun v r h => by cases h; rfl) (by omega) (by
    show a + (c + ((List.replicate j 9 ++ P0).length + 1)) ≤ 40
    rw [hlen]; omega)
  have A3 : mA B n m T S E H k _ (List.replicate j 9 ++ P0) o (up2 I2 55 41 (I2 55 41 - 1)) := mA_55 A2 (Or.inr rfl) (by
    rw [up2_s, A2.2.2.1]
    exact nI_dec _) A2.2.2.2.1.2 A2.2.2.2.2
  have A4 : mA B n m T S E H k _ (List.replicate j 9 ++ P0) (o - 1) (up2 (up2 I2 55 41 (I2 55 41 - 1)) 55 39 ((up2 I2 55 41 (I2 55 41 - 1)) 55 39 - 1)) := mA_55 A3 (Or.inl rfl) A3.2.2.1 A3.2.2.2.1 (by
    rw [up2_s, A3.2.2.2.2, show o = o - 1 + 1 by omega, nI_dec]; rfl)
  obtain ⟨I5, e5, A5⟩ := a_set (w := 9) (by decide) (fun v r h => by
    have := h0 v r h
    omega) A4 (by rw [List.length_append, List.length_append, List.length_replicate, List.length_replicate]; exact hR) (by omega) (fun _ => by omega) (v := 9) rfl
  obtain ⟨I6, e6, A6⟩ := a_reads X A5 hk
  refine ⟨I6, ?_, A6⟩
  unfold bDue
  rw [if_pos rfl, e_isW K (w := 9) (by decide) (v := 9) rfl, if_neg (show ¬ T k = nI (256 + wp 9) from h2), am_b1_s, if_pos rfl, e_isW K (w := 8) (by decide) (v := 8) rfl, if_neg (show ¬ T k = nI (256 + wp 8) from h1), am_b1_s, if_pos rfl, e1, am_b1_s, e2, am_b1_s, if_neg (show ¬ nI (b + 1) = 0 from fun z => by have := (nI_eq (a := b + 1) (b := 0) (by omega) (by decide)).mp z; omega), e_isS A2.1.2.2.2.1 (c := 41) rfl, if_pos h3, am_b1_s, if_neg h10, am_let_s, am_let_s, nI_dec, am_let_s, e5, am_b1_s, e6, am_b1_s]
