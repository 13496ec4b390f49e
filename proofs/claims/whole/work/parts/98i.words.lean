/-! text: bytes and words -/
def kd (x : Int32) : Int32 := if x = 32 ∨ x = 10 then 1 else if (97 ≤ x ∧ x ≤ 122) ∨ (65 ≤ x ∧ x ≤ 90) then 2 else if 48 ≤ x ∧ x ≤ 57 then 3 else 0
def cs (i : Nat) : Int32 := am_sc 0 i
def wb (j : Nat) : Nat := [0, 3, 8, 11, 15, 19, 24, 31, 37, 41, 46, 51, 56, 62, 66, 72, 79, 84].getD j 0
def wf (j : Nat) : Nat := [2, 7, 10, 14, 18, 23, 30, 36, 40, 45, 50, 55, 61, 65, 71, 78, 83].getD j 0
def wq (r : Nat) : Nat := [0, 3, 8, 15, 21, 25, 30, 35, 40, 43, 47, 51, 56, 62, 66, 72, 79, 84].getD r 0
/-- the class's number of the reference's r-th word -/
def wp (r : Nat) : Nat := [0, 5, 6, 7, 8, 9, 10, 1, 2, 3, 4, 11, 12, 13, 14, 15, 16].getD r 0
def wl (j : Nat) : Nat := wf j - wb j
def wj (i : Nat) : Nat := (List.range i).countP (fun q => cs q == 32)
def isMk (x : Int32) : Bool := x == 59 || x == 43 || x == 45 || x == 42 || x == 47 || x == 40 || x == 41 || x == 60 || x == 61 || x == 62
theorem e_kd (I : am_IT) {x : Int32} (h : vb 256 x) : F_X7_kindOf I x = some (kd x) := by
  obtain ⟨k, hk, rfl⟩ := h
  have : ∀ k, k < 256 → F_X7_kindOf (fun _ _ => 0) (nI k) = some (kd (nI k)) := by decide +kernel
  exact this k hk
theorem e_let (I : am_IT) {x : Int32} (h : vb 256 x) : F_X12_isLetter_55 I x = some (if kd x = 2 then 1 else 0) := by
  obtain ⟨k, hk, rfl⟩ := h
  have : ∀ k, k < 256 → F_X12_isLetter_55 (fun _ _ => 0) (nI k) = some (if kd (nI k) = 2 then 1 else 0) := by decide +kernel
  exact this k hk
theorem e_dig (I : am_IT) {x : Int32} (h : vb 256 x) : F_X12_isDigit_55 I x = some (if kd x = 3 then 1 else 0) := by
  obtain ⟨k, hk, rfl⟩ := h
  have : ∀ k, k < 256 → F_X12_isDigit_55 (fun _ _ => 0) (nI k) = some (if kd (nI k) = 3 then 1 else 0) := by decide +kernel
  exact this k hk
theorem e_mk (I : am_IT) {x : Int32} (h : vb 256 x) : F_X12_isMarkSign_55 I x = some (if isMk x = true then 1 else 0) := by
  obtain ⟨k, hk, rfl⟩ := h
  have : ∀ k, k < 256 → F_X12_isMarkSign_55 (fun _ _ => 0) (nI k) = some (if isMk (nI k) = true then 1 else 0) := by decide +kernel
  exact this k hk
theorem e_let1 (I : am_IT) : F_X12_isLetter_55 I (-1) = some 0 := rfl
theorem e_dig1 (I : am_IT) : F_X12_isDigit_55 I (-1) = some 0 := rfl
theorem e_cs (I : am_IT) {i : Nat} (h : i < 84) : F_J0_charAt_5068e_1000000 I (nI i) = some (cs i) := by
  have : ∀ i, i < 84 → F_J0_charAt_5068e_1000000 (fun _ _ => 0) (nI i) = some (cs i) := by decide +kernel
  exact this i h
theorem e_cl (I : am_IT) : F_J0_length_8abf5_1000000 I = some 84 := by
  have : F_J0_length_8abf5_1000000 (fun _ _ => 0) = some 84 := by decide +kernel
  exact this
theorem e_sg (I : am_IT) {x : Int32} (h : vb 256 x) : ∃ r, F_J0_indexOf_0f7a4_1000001 I ((x.toUInt32 % 65536).toInt32) = some r ∧ (r < 0 ↔ isMk x = false) := by
  obtain ⟨k, hk, rfl⟩ := h
  have : ∀ k, k < 256 → (match F_J0_indexOf_0f7a4_1000001 (fun _ _ => 0) (((nI k).toUInt32 % 65536).toInt32) with | none => false | some r => decide (r < 0) == !(isMk (nI k))) = true := by decide +kernel
  have q := this k hk
  have e : F_J0_indexOf_0f7a4_1000001 I (((nI k).toUInt32 % 65536).toInt32) = F_J0_indexOf_0f7a4_1000001 (fun _ _ => 0) (((nI k).toUInt32 % 65536).toInt32) := rfl
  rw [e]
  revert q
  generalize F_J0_indexOf_0f7a4_1000001 (fun _ _ => 0) (((nI k).toUInt32 % 65536).toInt32) = o
  intro q
  cases o with
  | none => cases q
  | some r =>
    refine ⟨r, rfl, ?_⟩
    by_cases h1 : r < 0
    · simp only [h1, decide_true] at q
      simp only [h1, true_iff]
      revert q
      cases isMk (nI k) <;> intro q <;> first | rfl | cases q
    · simp only [h1, decide_false] at q
      simp only [h1, false_iff]
      revert q
      cases isMk (nI k) <;> intro q <;> first | exact (fun z => absurd z (by decide)) | exact absurd q (by decide)
/-- the run from a to e is the j-th word -/
def eW (B : Nat → Int32) (a e j : Nat) : Prop := e = a + wl j ∧ ∀ i, i < wl j → cs (wb j + i) = B (a + i)
theorem eW_1 {B : Nat → Int32} {a e j k : Nat} (hj : j < 17) (hk : k < 17) (h1 : eW B a e j) (h2 : eW B a e k) : j = k := by
  have hl : wl j = wl k := by have := h1.1; have := h2.1; omega
  have hc : ∀ i, i < wl j → cs (wb j + i) = cs (wb k + i) := fun i hi => (h1.2 i hi).trans (h2.2 i (hl ▸ hi)).symm
  have key : ∀ j, j < 17 → ∀ k, k < 17 → wl j = wl k → (List.range (wl j)).all (fun i => cs (wb j + i) == cs (wb k + i)) = true → j = k := by decide +kernel
  refine key j hj k hk hl (List.all_eq_true.mpr (fun i hi => ?_))
  rw [hc i (List.mem_range.mp hi)]
  exact beq_self_eq_true _
theorem w_tab : ∀ i, i < 84 → wj i < 17 ∧ wb (wj i) ≤ i ∧ i ≤ wf (wj i) ∧ (cs i = 32 → wf (wj i) = i ∧ wj (i + 1) = wj i + 1 ∧ wb (wj i + 1) = i + 1) ∧ (¬ cs i = 32 → wj (i + 1) = wj i) := by decide +kernel
theorem w_t2 : ∀ j, j < 17 → wb j ≤ wf j ∧ wf j < 84 ∧ 0 < wl j := by decide +kernel
theorem e_isK {I : am_IT} {B : Nat → Int32} {a e j : Nat} (hj : j < 17) (hB : ∀ i, i < e → I 54 i = B i) (he : e ≤ 400) (hl : e = a + wl j) : ∃ r, F_X7_isKeyword_54 I (nI (wb j)) (nI (wf j)) (nI a) = some r ∧ ((r = 1 ∧ eW B a e j) ∨ (r = 0 ∧ ¬ eW B a e j)) := by
  obtain ⟨t1, t2, t3⟩ := w_t2 j hj
  have t4 : wl j = wf j - wb j := rfl
  unfold F_X7_isKeyword_54
  refine it_lr_ex (R := fun z => ∃ r, z = some r ∧ ((r = 1 ∧ eW B a e j) ∨ (r = 0 ∧ ¬ eW B a e j))) (fun n x => x = nI (wb j + n) ∧ ∀ i, i < n → cs (wb j + i) = B (a + i)) (fun z => (z = .inl 0 ∧ eW B a e j) ∨ (z = .inr 0 ∧ ¬ eW B a e j)) (n := wl j) (by omega) ?_ ?_ ⟨by rw [Nat.add_zero], fun i hi => by omega⟩ ?_
  · rintro i x hi ⟨rfl, hm⟩
    rw [if_neg (nI_ge (by omega) (by omega)), e_cs I (by omega), am_b1_s, nI_add, pk_sub (by omega), show a + (wb j + i) - wb j = a + i by omega, if_pos (am_ix_nI (by omega) (by decide)), nI_clamp (by omega), hB _ (by omega)]
    by_cases h : cs (wb j + i) = B (a + i)
    · rw [if_pos h, am_let_s]
      refine Or.inl ⟨_, rfl, nI_1 _, fun i' hi' => ?_⟩
      by_cases hh : i' = i
      · subst hh; exact h
      · exact hm i' (by omega)
    · rw [if_neg h]
      exact Or.inr ⟨_, rfl, Or.inr ⟨rfl, fun z => h (z.2 i hi)⟩⟩
  · rintro x ⟨rfl, hm⟩
    rw [if_pos (nI_le (by omega) (by omega))]
    exact ⟨_, rfl, Or.inl ⟨rfl, hl, hm⟩⟩
  · rintro z (⟨rfl, h⟩ | ⟨rfl, h⟩)
    · exact ⟨1, rfl, Or.inl ⟨rfl, h⟩⟩
    · exact ⟨0, rfl, Or.inr ⟨rfl, h⟩⟩
theorem e_key {I : am_IT} {B : Nat → Int32} {a e : Nat} (hB : ∀ i, i < e → I 54 i = B i) (he : e ≤ 400) (hae : a ≤ e) : ∃ t, F_X7_keywordAt_54 I (nI a) (nI e) = some t ∧ ((∃ j, j < 17 ∧ eW B a e j ∧ t = nI (256 + j)) ∨ (t = 301 ∧ ∀ j, j < 17 → ¬ eW B a e j)) := by
  unfold F_X7_keywordAt_54
  refine it_lr_ex (R := fun z => ∃ t, z = some t ∧ ((∃ j, j < 17 ∧ eW B a e j ∧ t = nI (256 + j)) ∨ (t = 301 ∧ ∀ j, j < 17 → ¬ eW B a e j))) (fun i x => x = (nI (256 + wj i), nI (wb (wj i)), nI i) ∧ ∀ j, j < wj i → ¬ eW B a e j) (fun z => (∃ j, j < 17 ∧ eW B a e j ∧ z = .inr (nI (256 + j))) ∨ (z = .inl 0 ∧ ∀ j, j < 17 → ¬ eW B a e j)) (n := 84) (by decide) ?_ ?_ ⟨rfl, fun i hi => by cases hi⟩ ?_
  · rintro i x hi ⟨rfl, hm⟩
    obtain ⟨h1, h2, h3, h4, h5⟩ := w_tab i hi
    rw [am_u3_s, e_cl, am_b1_s, if_neg (show ¬ (84 : Int32) ≤ nI i from nI_ge hi (by decide)), e_cs I hi, am_b1_s]
    by_cases hc : cs i = 32
    · obtain ⟨h6, h7, h8⟩ := h4 hc
      have nx : ∀ (q : ¬ eW B a e (wj i)), ∃ y, am_let (nI (256 + wj i) + (1 : Int32)) (fun (l3_25 : Int32) => am_let (nI i + (1 : Int32)) (fun (l4_26 : Int32) => am_let (nI i + (1 : Int32)) (fun (l5_27 : Int32) => (some (.inl (l3_25, l4_26, l5_27)) : Option ((Int32 × Int32 × Int32) ⊕ (Int32 ⊕ Int32)))))) = some (.inl y) ∧ (y = (nI (256 + wj (i + 1)), nI (wb (wj (i + 1))), nI (i + 1)) ∧ ∀ j, j < wj (i + 1) → ¬ eW B a e j) := by
        intro q
        refine ⟨_, rfl, ?_, fun j hj => ?_⟩
        · rw [h7, h8, nI_1, nI_1]; rfl
        · rw [h7] at hj
          by_cases z : j = wj i
          · subst z; exact q
          · exact hm j (by omega)
      rw [if_pos hc, pk_sub (by omega), pk_sub hae]
      by_cases hq : i - wb (wj i) = e - a
      · have hel : e = a + wl (wj i) := by
          have : wl (wj i) = wf (wj i) - wb (wj i) := rfl
          omega
        obtain ⟨r, hr, hs⟩ := e_isK (I := I) (B := B) h1 hB he hel
        rw [h6] at hr
        rw [if_pos (by rw [hq]), hr, am_b1_s]
        rcases hs with ⟨rfl, hs⟩ | ⟨rfl, hs⟩
        · rw [if_neg (show ¬ (1 : Int32) = 0 by decide)]
          exact Or.inr ⟨_, rfl, Or.inl ⟨wj i, h1, hs, rfl⟩⟩
        · rw [if_pos rfl]
          exact Or.inl (nx hs)
      · rw [if_neg (fun z => hq ((nI_eq (by omega) (by omega)).mp z))]
        refine Or.inl (nx (fun z => hq ?_))
        have := z.1
        have : wl (wj i) = wf (wj i) - wb (wj i) := rfl
        omega
    · rw [if_neg hc, am_let_s]
      refine Or.inl ⟨_, rfl, ?_, ?_⟩
      · rw [h5 hc, nI_1]
      · rw [h5 hc]; exact hm
  · rintro x ⟨rfl, hm⟩
    rw [am_u3_s, e_cl, am_b1_s, if_pos (show (84 : Int32) ≤ nI 84 from nI_le (Nat.le_refl _) (by decide))]
    exact ⟨_, rfl, Or.inr ⟨rfl, hm⟩⟩
  · rintro z (⟨j, hj, h, rfl⟩ | ⟨rfl, h⟩)
    · exact ⟨_, rfl, Or.inl ⟨j, hj, h, rfl⟩⟩
    · exact ⟨_, rfl, Or.inr ⟨rfl, h⟩⟩
