theorem e_fill_2 (I : am_IT) (v : Int32) : F_J7_fill_53178_2 I v = some (fl2 I 2 4 v) := by
  unfold F_J7_fill_53178_2
  rw [it_fill (m := 4) 2 4 v I rfl (by decide)]
  rfl
theorem e_fill_5 (I : am_IT) (v : Int32) : F_J7_fill_53178_5 I v = some (fl2 I 5 56 v) := by
  unfold F_J7_fill_53178_5
  rw [it_fill (m := 56) 5 56 v I rfl (by decide)]
  rfl
theorem e_fill_7 (I : am_IT) (v : Int32) : F_J7_fill_53178_7 I v = some (fl2 I 7 28 v) := by
  unfold F_J7_fill_53178_7
  rw [it_fill (m := 28) 7 28 v I rfl (by decide)]
  rfl
theorem e_fill_8 (I : am_IT) (v : Int32) : F_J7_fill_53178_8 I v = some (fl2 I 8 28 v) := by
  unfold F_J7_fill_53178_8
  rw [it_fill (m := 28) 8 28 v I rfl (by decide)]
  rfl
theorem e_fill_9 (I : am_IT) (v : Int32) : F_J7_fill_53178_9 I v = some (fl2 I 9 7 v) := by
  unfold F_J7_fill_53178_9
  rw [it_fill (m := 7) 9 7 v I rfl (by decide)]
  rfl
theorem e_fill_10 (I : am_IT) (v : Int32) : F_J7_fill_53178_10 I v = some (fl2 I 10 49 v) := by
  unfold F_J7_fill_53178_10
  rw [it_fill (m := 49) 10 49 v I rfl (by decide)]
  rfl
theorem e_fill_16 (I : am_IT) (v : Int32) : F_J7_fill_53178_16 I v = some (fl2 I 16 112 v) := by
  unfold F_J7_fill_53178_16
  rw [it_fill (m := 112) 16 112 v I rfl (by decide)]
  rfl
theorem e_fill_19 (I : am_IT) (v : Int32) : F_J7_fill_53178_19 I v = some (fl2 I 19 9 v) := by
  unfold F_J7_fill_53178_19
  rw [it_fill (m := 9) 19 9 v I rfl (by decide)]
  rfl
theorem e_fill_20 (I : am_IT) (v : Int32) : F_J7_fill_53178_20 I v = some (fl2 I 20 81 v) := by
  unfold F_J7_fill_53178_20
  rw [it_fill (m := 81) 20 81 v I rfl (by decide)]
  rfl
theorem e_fill_32 (I : am_IT) (v : Int32) : F_J7_fill_53178_32 I v = some (fl2 I 32 28 v) := by
  unfold F_J7_fill_53178_32
  rw [it_fill (m := 28) 32 28 v I rfl (by decide)]
  rfl
theorem e_fill_33 (I : am_IT) (v : Int32) : F_J7_fill_53178_33 I v = some (fl2 I 33 49 v) := by
  unfold F_J7_fill_53178_33
  rw [it_fill (m := 49) 33 49 v I rfl (by decide)]
  rfl
theorem op_0 : am_op0 RI := by
  rintro b I a1 ⟨c, w, p, t, y, d, ln, n, ⟨hb, ⟨s1, s2, s3⟩, hr⟩, ht, hm, hk⟩
  refine ⟨I 1 1, up2 I 1 1 a1, up2 (up2 (up2 I 1 1 a1) 55 0 0) 55 1 a1, rfl, ?_, c, w, p, t, y, d, ln, n, ⟨hb, ⟨s1, rfl, s3⟩, hr⟩, ht, hm, hk⟩
  show some ((up2 (up2 I 1 1 a1) 55 0 0) 55 1, _) = _
  rw [s2]
  rfl
/-- guards -/
def gd (a : Int32) (n : Nat) : Int32 := if a < 0 then 0 else if nI n ≤ a then 0 else 1
theorem gd_cases (a : Int32) {n : Nat} (hn : n < 2 ^ 31) : gd a n = 0 ∨ (gd a n = 1 ∧ ∃ j, j < n ∧ a = nI j) := by
  unfold gd
  rcases tri a hn with h | ⟨h, h2⟩ | ⟨j, hj, e, h, h2, h3⟩
  · exact Or.inl (if_pos h)
  · exact Or.inl (by rw [if_neg h, if_pos h2])
  · exact Or.inr ⟨by rw [if_neg h, if_neg h2], j, hj, e⟩
def gr (a lo hi : Int32) : Int32 := if a < lo then 0 else if hi < a then 0 else 1
theorem gr_cases (a : Int32) {m : Int32} {n : Nat} (hm : m = nI n) (hn : n < 2 ^ 31) : gr a 0 m = 0 ∨ (gr a 0 m = 1 ∧ ∃ j, j ≤ n ∧ a = nI j) := by
  unfold gr
  rcases tri0 a hm hn with h | ⟨h, h2⟩ | ⟨j, hj, e, h, h2, h3⟩
  · exact Or.inl (if_pos h)
  · exact Or.inl (by rw [if_neg h, if_pos h2])
  · exact Or.inr ⟨by rw [if_neg h, if_neg h2], j, hj, e⟩
theorem ite_s {c : Prop} {hc : Decidable c} {A : Type} (a b : A) : (@ite _ c hc (some a) (some b)) = some (@ite _ c hc a b) := by
  by_cases h : c
  · rw [if_pos h, if_pos h]
  · rw [if_neg h, if_neg h]
theorem gC1 {I : am_IT} {n : Nat} (h : I 1 0 = nI n) (a : Int32) : F_X9_hasColour_1 I a = some (gd a n) := by unfold F_X9_hasColour_1 gd; rw [h, ite_s, ite_s]
theorem gW1 {I : am_IT} {n : Nat} (h : I 1 3 = nI n) (a : Int32) : F_X9_hasWall_1 I a = some (gd a n) := by unfold F_X9_hasWall_1 gd; rw [h, ite_s, ite_s]
theorem gP1 {I : am_IT} {n : Nat} (h : I 1 4 = nI n) (a : Int32) : F_X9_hasPerson_1 I a = some (gd a n) := by unfold F_X9_hasPerson_1 gd; rw [h, ite_s, ite_s]
theorem gC2 {I : am_IT} {n : Nat} (h : I 55 2 = nI n) (a : Int32) : F_X12_isColour_55 I a = some (gd a n) := by unfold F_X12_isColour_55 gd; rw [h, ite_s, ite_s]
theorem gW2 {I : am_IT} {n : Nat} (h : I 55 4 = nI n) (a : Int32) : F_X12_isWall_55 I a = some (gd a n) := by unfold F_X12_isWall_55 gd; rw [h, ite_s, ite_s]
theorem gP2 {I : am_IT} {n : Nat} (h : I 55 5 = nI n) (a : Int32) : F_X12_isOne_55 I a = some (gd a n) := by unfold F_X12_isOne_55 gd; rw [h, ite_s, ite_s]
theorem gR1 (I : am_IT) (a lo hi : Int32) : F_X11_isWithin I a lo hi = some (gr a lo hi) := by unfold F_X11_isWithin gr; rw [ite_s, ite_s]
theorem gR2 (I : am_IT) (a lo hi : Int32) : F_X12_isIn_55 I a lo hi = some (gr a lo hi) := by unfold F_X12_isIn_55 gr; rw [ite_s, ite_s]
theorem gH1 (I : am_IT) (a : Int32) : F_X11_isHouse I a = some (gr a 0 7) := by unfold F_X11_isHouse; rw [gR1]; rfl
theorem gQ1 (I : am_IT) (a : Int32) : F_X11_isPlace I a = some (gr a 0 8) := by unfold F_X11_isPlace; rw [gR1]; rfl
theorem gr_gd (a : Int32) {m : Int32} {n : Nat} (hm : m = nI n) (hn : n + 1 < 2 ^ 31) : gr a 0 m = gd a (n + 1) := by
  unfold gr gd
  by_cases h : a < 0
  · rw [if_pos h, if_pos h]
  · rw [if_neg h, if_neg h]
    have h0 : ∃ k, k < 2 ^ 31 ∧ a = nI k := nI_of h
    obtain ⟨k, hk, rfl⟩ := h0
    rw [hm]
    by_cases q : n < k
    · rw [if_pos (nI_lt q hk), if_pos ((nI_leI (by omega) hk).mpr (by omega))]
    · rw [if_neg (fun z => q ((nI_ltI (by omega) hk).mp z)), if_neg (fun z => q (by have := (nI_leI (a := n + 1) (b := k) (by omega) hk).mp z; omega))]
theorem gH2 (I : am_IT) (a : Int32) : F_X12_isHouse_55 I a = some (gd a 8) := by unfold F_X12_isHouse_55 gd; rw [ite_s, ite_s]; rfl
theorem gQ2 (I : am_IT) (a : Int32) : F_X12_isPlace_55 I a = some (gd a 9) := by unfold F_X12_isPlace_55 gd; rw [ite_s, ite_s]; rfl
theorem gH1' (I : am_IT) (a : Int32) : F_X11_isHouse I a = some (gd a 8) := by rw [gH1, gr_gd a (m := 7) (n := 7) rfl (by decide)]
theorem gQ1' (I : am_IT) (a : Int32) : F_X11_isPlace I a = some (gd a 9) := by rw [gQ1, gr_gd a (m := 8) (n := 8) rfl (by decide)]
theorem upd_at {f g : Nat → Int32} {P : Nat → Int32 → Int32 → Prop} {j i : Nat} {v : Int32} (h : P i (f i) (g i)) (hv : P j v v) : P i (if i = j then v else f i) (if i = j then v else g i) := by
  by_cases q : i = j
  · subst q; rw [if_pos rfl, if_pos rfl]; exact hv
  · rw [if_neg q, if_neg q]; exact h
theorem up2_r (I : am_IT) (k j i : Nat) (v : Int32) : up2 I k j v k i = if i = j then v else I k i := by simp [up2]
