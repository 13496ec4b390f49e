theorem cN_c {y z : Nat → Int32} : ∀ {i : Nat}, (∀ j, j < i → y j = z j) → cN y i = cN z i ∧ fS y i = fS z i ∧ fX y i = fX z i
  | 0, _ => ⟨rfl, rfl, rfl⟩
  | i + 1, h => by
    obtain ⟨e1, e2, e3⟩ := cN_c (y := y) (z := z) (i := i) (fun j hj => h j (by omega))
    unfold cN fS fX
    rw [e1, e2, e3, h i (by omega)]
    exact ⟨rfl, rfl, rfl⟩
theorem pS_c {y z : Nat → Int32} {s r : Nat → Nat → Int32} {c m k : Nat} (hc : 2 ≤ c) (hc4 : c ≤ 4) (hk : k < 4) : ∀ {i : Nat}, (∀ j, j < i → y j = z j) → (∀ j k, j < i → k < 4 → s j k = r j k) → pS y s c m k i = pS z r c m k i
  | 0, _, _ => rfl
  | i + 1, h, g => by
    have e := pS_c (y := y) (z := z) (s := s) (r := r) (m := m) hc hc4 hk (i := i) (fun j hj => h j (by omega)) (fun j k hj hk => g j k (by omega) hk)
    have ef : fv (s i) (c - 1) = fv (r i) (c - 1) := fv_c (fun j hj => g i j (by omega) (by omega))
    unfold pS
    rw [e, ef, h i (by omega), g i k (by omega) hk]
theorem dC_c {ls : List (Nat × List rOp)} {pt : Int32} {y z : Nat → Int32} {s r : Nat → Nat → Int32} {c p u yr : Nat} (hc : 2 ≤ c) (hc4 : c ≤ 4) (h : ∀ j, j < p → y j = z j) (g : ∀ j k, j < p → k < 4 → s j k = r j k) : dC ls pt y s c p u yr = dC ls pt z r c p u yr := by
  obtain ⟨e1, e2, e3⟩ := cN_c h
  unfold dC
  rw [e1, e2, e3]
  by_cases z0 : cN z p = 0
  · rw [if_pos z0, if_pos z0]
  · rw [if_neg z0, if_neg z0]
    have hp : 1 ≤ p := by have := cN_le z p; omega
    unfold dW
    have ew : fv y (p - 1) = fv z (p - 1) := fv_c (fun j hj => h j (by omega))
    have hl := fv_le z (p - 1)
    have hq : (yr + u) % p < p := Nat.mod_lt _ hp
    rw [ew, h _ hq, fv_c (s := s (fv z (p - 1))) (r := r (fv z (p - 1))) (fun j hj => g _ j (by omega) (by omega)), fv_c (s := s ((yr + u) % p)) (r := r ((yr + u) % p)) (fun j hj => g _ j hq (by omega)), fv_c (s := fun k => pS y s c (pkM (fF u (nI (cN z p)) (fS z p) (fX z p) pt (nI yr)) ls) k p) (r := fun k => pS z r c (pkM (fF u (nI (cN z p)) (fS z p) (fX z p) pt (nI yr)) ls) k p) (fun j hj => pS_c hc hc4 (by omega) h g)]
theorem dC_b {ls : List (Nat × List rOp)} {pt : Int32} {y : Nat → Int32} {s : Nat → Nat → Int32} {c p u yr : Nat} (hc : 2 ≤ c) (hpt : vb c pt) : vb c (dC ls pt y s c p u yr) := by
  have hf : ∀ f, vb c (nI (fv f (c - 1))) := fun f => ⟨fv f (c - 1), by have := fv_le f (c - 1); omega, rfl⟩
  unfold dC dW
  split
  · exact hpt
  · split
    · exact hf _
    · split
      · split
        · exact hpt
        · exact hf _
      · split
        · exact hpt
        · exact hf _
/-- both see the same yards -/
theorem yC_yW {I : am_IT} {p w y t u : Nat} (hw : w ≤ 7) (hu : u < 7) (rho : rHouse p (I 4) (I 57)) (rvi : rView (I 5) (I 58)) (rtr : rTree w y t (I 6) (I 59) (I 60) (I 61) (I 62)) (hy : I 1 2 = I 55 13) : ∀ j, j < p → yC I t u j = yW I t u j := by
  intro j hj
  obtain ⟨h, hh, e4, e57, eh⟩ := hse rho hj
  unfold yC yW
  rw [e4, nI_clamp (by omega), eh, mC_Y hw rvi rtr hy hh hu]
