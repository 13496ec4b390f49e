/-! queries: what they write doesn't matter to the relation -/
def mtC (k : Nat) : Bool := [1, 2, 3, 4, 5, 6, 7, 8, 9, 10, 11, 12, 13, 14, 15, 16, 18, 19, 20, 54, 56, 57, 58, 59, 60, 61, 62, 63, 64, 65, 66, 67, 68, 69, 70, 71, 73, 74, 93, 94, 95, 96, 97, 98, 99, 100, 101, 102, 103, 104, 105, 106, 107, 108, 109, 110, 111, 112, 113, 114, 115].contains k
def mt (k j : Nat) : Bool := mtC k || (k == 0 && (j == 9 || j == 10 || j == 11)) || (k == 55 && [2, 1, 13, 4, 5, 8, 32, 18, 26, 44, 45, 49, 65].contains j) || (k == 72 && decide (j < 7)) || ((k == 75 || k == 76 || k == 77) && decide (j < 16)) || ((k == 78 || k == 79) && decide (j < 400))
def sm (I J : am_IT) : Prop := ∀ k j, mt k j = true → J k j = I k j
theorem sm_r (I : am_IT) : sm I I := fun _ _ _ => rfl
theorem sm_t {I J K : am_IT} (h : sm I J) (g : sm J K) : sm I K := fun k j m => (g k j m).trans (h k j m)
theorem sm_u {I : am_IT} {k j : Nat} (v : Int32) (h : mt k j = false) : sm I (up2 I k j v) := by
  intro a i m
  unfold up2
  rw [if_neg]
  rintro ⟨rfl, rfl⟩
  rw [h] at m; exact absurd m (by decide)
theorem sm_s {I : am_IT} {k : Nat} (f : Nat → Int32) (h : ∀ j, mt k j = true → f j = I k j) : sm I (st2 I k f) := by
  intro a i m
  unfold st2
  by_cases e : a = k
  · subst e; rw [if_pos rfl]; exact h i m
  · rw [if_neg e]
theorem sm_c {I J : am_IT} (h : sm I J) {k : Nat} (hk : mtC k = true) : J k = I k := funext (fun j => h k j (by unfold mt; rw [hk]; rfl))
theorem rRule_sm {ln : Nat} {sc : Int32} {me se st lw lf lt op ar lw2 lf2 lt2 op2 ar2 : Nat → Int32} (hln : ln ≤ 16) (h1 : ∀ j, j < 16 → lw2 j = lw j) (h2 : ∀ j, j < 16 → lf2 j = lf j) (h3 : ∀ j, j < 16 → lt2 j = lt j) (h4 : ∀ j, j < 400 → op2 j = op j) (h5 : ∀ j, j < 400 → ar2 j = ar j) (h : rRule ln sc me se st lw lf lt op ar) : rRule ln sc me se st lw2 lf2 lt2 op2 ar2 := by
  obtain ⟨ls, e, q1, q2, q3, q4, q5, q6⟩ := h
  refine ⟨ls, e, ?_, q2, q3, q4, q5, ?_⟩
  · intro l m code hl
    have hlt : l < ls.length := by
      rcases Nat.lt_or_ge l ls.length with h | h
      · exact h
      · rw [List.getElem?_eq_none h] at hl; cases hl
    obtain ⟨a1, a2, a3, a4, a5, a6, a7, a8⟩ := q1 l m code hl
    exact ⟨a1, a2, (h1 l (by omega)).trans a3, a4, a5, a6, (h2 l (by omega)).trans a7, (h3 l (by omega)).trans a8⟩
  · intro k a c hk
    have hlt : k < 400 := by
      rcases Nat.lt_or_ge k (rRefs (ls.flatMap (fun q => q.2))).length with h | h
      · omega
      · rw [List.getElem?_eq_none h] at hk; cases hk
    obtain ⟨a1, a2⟩ := q6 k a c hk
    exact ⟨(h4 k hlt).trans a1, fun hh => (h5 k hlt).trans (a2 hh)⟩
theorem RI_sm {b : Bool} {I J : am_IT} (h : sm I J) (hR : RI b I) : RI b J := by
  obtain ⟨c, w, p, t, y, d, ln, n, ⟨hb, hs, rpo, rpa, rho, rvi, rtr, rta, rsa, rbe, rne, rde, rlo, rli, rru⟩, rtp, rmi, rke⟩ := hR
  have hb0 := hb
  obtain ⟨b1, b2, b3, b4, b5, b6, b7, b8⟩ := hb0
  refine ⟨c, w, p, t, y, d, ln, n, ⟨hb, ?_, ?_⟩, ?_, ?_, ?_⟩
  · unfold rSc
    rw [sm_c h (k := 1) rfl, sm_c h (k := 11) rfl, sm_c h (k := 15) rfl, h 55 2 rfl, h 55 1 rfl, h 55 13 rfl, h 55 4 rfl, h 55 5 rfl, h 55 8 rfl, h 55 32 rfl, h 55 18 rfl]
    exact hs
  · unfold rRest
    rw [sm_c h (k := 2) rfl, sm_c h (k := 56) rfl, sm_c h (k := 3) rfl, sm_c h (k := 4) rfl, sm_c h (k := 57) rfl, sm_c h (k := 5) rfl, sm_c h (k := 58) rfl, sm_c h (k := 6) rfl, sm_c h (k := 59) rfl, sm_c h (k := 60) rfl, sm_c h (k := 61) rfl, sm_c h (k := 62) rfl, sm_c h (k := 7) rfl, sm_c h (k := 63) rfl, sm_c h (k := 8) rfl, sm_c h (k := 64) rfl, sm_c h (k := 9) rfl, sm_c h (k := 65) rfl, sm_c h (k := 10) rfl, sm_c h (k := 66) rfl, sm_c h (k := 16) rfl, sm_c h (k := 67) rfl, sm_c h (k := 68) rfl, sm_c h (k := 69) rfl, sm_c h (k := 19) rfl, sm_c h (k := 70) rfl, sm_c h (k := 20) rfl, sm_c h (k := 71) rfl, sm_c h (k := 11) rfl, sm_c h (k := 12) rfl, sm_c h (k := 13) rfl, sm_c h (k := 14) rfl]
    refine ⟨rpo, ?_, rho, rvi, rtr, rta, rsa, rbe, rne, rde, rlo, rli, ?_⟩
    · intro j hj
      rw [h 72 j (by unfold mt; rw [show decide (j < 7) = true from decide_eq_true (by omega)]; rfl)]
      exact rpa j hj
    · refine rRule_sm b8 ?_ ?_ ?_ ?_ ?_ rru
      · exact fun j hj => h 75 j (by unfold mt; rw [show decide (j < 16) = true from decide_eq_true hj]; rfl)
      · exact fun j hj => h 76 j (by unfold mt; rw [show decide (j < 16) = true from decide_eq_true hj]; rfl)
      · exact fun j hj => h 77 j (by unfold mt; rw [show decide (j < 16) = true from decide_eq_true hj]; rfl)
      · exact fun j hj => h 78 j (by unfold mt; rw [show decide (j < 400) = true from decide_eq_true hj]; rfl)
      · exact fun j hj => h 79 j (by unfold mt; rw [show decide (j < 400) = true from decide_eq_true hj]; rfl)
  · unfold rTape
    rw [h 0 9 rfl, h 55 26 rfl, sm_c h (k := 54) rfl, sm_c h (k := 73) rfl]
    exact rtp
  · unfold rMisc
    rw [h 0 10 rfl, h 0 11 rfl, h 55 44 rfl, h 55 45 rfl, h 55 49 rfl, h 55 65 rfl, sm_c h (k := 74) rfl]
    exact rmi
  · intro hbt
    obtain ⟨c', w', p', t', y', d', ln', hk⟩ := rke hbt
    refine ⟨c', w', p', t', y', d', ln', ?_⟩
    have e1 : ∀ k, k < 22 → 1 ≤ k → kT J k = kT I k := by
      intro k hk2 hk1
      unfold kT
      exact sm_c h ((by decide : ∀ k, k < 22 → 1 ≤ k → mtC (93 + k) = true) k hk2 hk1)
    have e2 : kM J = kM I := by
      unfold kM
      rw [sm_c h (k := 93) rfl]
    rw [e2]
    unfold rt rSc rRest at hk ⊢
    rw [e1 1 (by decide) (by decide), e1 2 (by decide) (by decide), e1 3 (by decide) (by decide), e1 4 (by decide) (by decide), e1 5 (by decide) (by decide), e1 6 (by decide) (by decide), e1 7 (by decide) (by decide), e1 8 (by decide) (by decide), e1 9 (by decide) (by decide), e1 10 (by decide) (by decide), e1 11 (by decide) (by decide), e1 12 (by decide) (by decide), e1 13 (by decide) (by decide), e1 14 (by decide) (by decide), e1 15 (by decide) (by decide), e1 16 (by decide) (by decide), e1 19 (by decide) (by decide), e1 20 (by decide) (by decide)]
    exact hk
/-- loops whose state is known by what holds of it -/
theorem am_it_inv {X E : Type} {f : X → Option (X ⊕ E)} (Inv : Nat → X → Prop) (Post : E → Prop) {n : Nat} (hn : n < 1000000) (hs : ∀ i x, i < n → Inv i x → ∃ y, f x = some (.inl y) ∧ Inv (i + 1) y) (he : ∀ x, Inv n x → ∃ e, f x = some (.inr e) ∧ Post e) {x0 : X} (h0 : Inv 0 x0) : ∃ e, am_it am_fu f x0 = some e ∧ Post e := by
  have go : ∀ (m i : Nat) (x : X), i ≤ n → n < i + m → Inv i x → ∃ e, am_it m f x = some e ∧ Post e := by
    intro m
    induction m with
    | zero => intro i x h1 h2; omega
    | succ m ih =>
      intro i x h1 h2 hi
      unfold am_it
      by_cases h : i = n
      · subst h
        obtain ⟨e, he1, he2⟩ := he x hi
        rw [he1]; exact ⟨e, rfl, he2⟩
      · obtain ⟨z, hz1, hz2⟩ := hs i x (by omega) hi
        rw [hz1]
        exact ih (i + 1) z (by omega) (by omega) hz2
  exact go am_fu 0 x0 (Nat.zero_le _) (by show n < 0 + 1000000; omega) h0
