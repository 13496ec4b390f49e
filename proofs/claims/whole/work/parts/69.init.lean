/-- the constructors, run -/
def runI : Option (am_PT × am_IT) := match F_X11_init_0 (zr am_P0 0 none) (zr am_I0 0 0) with
  | some (P1, I1) => F_X12_init_55 (zr P1 55 none) (zr I1 55 0)
  | none => none
def chkZ : List (Nat × Nat) := [(2, 4), (56, 4), (5, 56), (58, 56), (7, 28), (8, 28), (9, 7), (10, 49), (66, 49), (16, 112), (19, 9), (70, 9), (71, 9), (20, 81)]
def chk (P : am_PT) (I : am_IT) : Bool := chkZ.all (fun q => (List.range q.2).all (fun j => decide (I q.1 j = 0))) && (List.range 85).all (fun j => decide (I 74 j = rWords.getD j 0)) &&
  decide (I 1 0 = 3 ∧ I 55 2 = 3 ∧ I 1 1 = I 55 1 ∧ I 1 2 = 0 ∧ I 55 13 = 0 ∧ I 1 3 = 0 ∧ I 55 4 = 0 ∧ I 1 4 = 0 ∧ I 55 5 = 0 ∧ I 1 5 = 0 ∧ I 55 8 = 0 ∧ I 11 0 = 0 ∧ I 55 32 = 0 ∧ I 15 0 = 0 ∧ I 55 18 = 0) &&
  decide (I 11 1 = 0 ∧ I 0 9 = 0 ∧ I 55 26 = 0 ∧ I 0 10 = I 55 44 ∧ I 0 11 = I 55 45 ∧ I 55 49 = -1 ∧ I 55 65 = 0) && decide (P 0 12 = none) && am_plb 94 P
set_option maxRecDepth 100000 in
theorem runI_1 : (match runI with
  | some (P2, I2) => chk P2 I2
  | none => false) = true := by decide +kernel
theorem chk_z {I : am_IT} (h : chkZ.all (fun q => (List.range q.2).all (fun j => decide (I q.1 j = 0))) = true) {k n : Nat} (hm : (k, n) ∈ chkZ) {j : Nat} (hj : j < n) : I k j = 0 :=
  of_decide_eq_true (List.all_eq_true.mp (List.all_eq_true.mp h (k, n) hm) j (List.mem_range.mpr hj))
theorem chk_RI {P : am_PT} {I : am_IT} (h : chk P I = true) : RI false I ∧ P 0 12 = none ∧ am_plb 94 P = true := by
  unfold chk at h
  simp only [Bool.and_eq_true] at h
  obtain ⟨⟨⟨⟨⟨hz, hw⟩, hs⟩, hm⟩, hp⟩, hq⟩ := h
  have hs' := of_decide_eq_true hs
  have hm' := of_decide_eq_true hm
  obtain ⟨s1, s2, s3, s4, s5, s6, s7, s8, s9, s10, s11, s12, s13, s14, s15⟩ := hs'
  obtain ⟨m1, m2, m3, m4, m5, m6, m7⟩ := hm'
  have z := fun {k n : Nat} (hk : (k, n) ∈ chkZ) {j : Nat} (hj : j < n) => chk_z hz hk hj
  have v0 : ∀ n, 0 < n → vb n (0 : Int32) := fun n hn => ⟨0, hn, rfl⟩
  refine ⟨⟨3, 0, 0, 0, 0, 0, 0, 0, ⟨⟨by decide, by decide, by decide, by decide, by decide, by decide, by decide, by decide⟩, ⟨⟨s1, s2⟩, s3, ⟨s4, s5⟩, ⟨s6, s7⟩, ⟨s8, s9⟩, ⟨s10, s11⟩, ⟨s12, s13⟩, ⟨s14, s15⟩⟩, ?_⟩, ⟨by decide, m2, m3, fun j hj => absurd hj (Nat.not_lt_zero j)⟩, ⟨⟨m4, m5⟩, m6, m7, fun j hj => of_decide_eq_true (List.all_eq_true.mp hw j (List.mem_range.mpr hj))⟩, fun hb => by cases hb⟩, of_decide_eq_true hp, hq⟩
  refine ⟨fun j hj => ?_, fun j hj => absurd hj (Nat.not_lt_zero j), ⟨fun j hj => absurd hj (Nat.not_lt_zero j), fun i j hi => absurd hi (Nat.not_lt_zero i)⟩, fun j hj => ?_, fun j hj => absurd hj (Nat.not_lt_zero j), ⟨fun j hj => absurd hj (Nat.not_lt_zero j), fun j _ hj => z (k := 7) (n := 28) (by decide) hj⟩, ⟨fun j hj => absurd hj (Nat.not_lt_zero j), fun j _ hj => z (k := 8) (n := 28) (by decide) hj⟩, ⟨fun j hj => absurd hj (Nat.not_lt_zero j), fun j _ hj => z (k := 9) (n := 7) (by decide) hj⟩, ⟨fun j hj => ?_, fun u v hu hv => ?_⟩, ⟨fun j hj => absurd hj (Nat.not_lt_zero j), fun q a b hq ha hb => ⟨fun ⟨k, hk, _⟩ => absurd hk (Nat.not_lt_zero k), fun _ => z (k := 16) (n := 112) (by decide) (by omega)⟩⟩, fun j hj => ?_, fun a ha => ⟨0, by decide, z (k := 71) (n := 9) (by decide) ha, fun b hb => ?_⟩, ⟨[], rfl, fun l m code hl => by simp at hl, by simp, by simp [rRefs], m1, fun k o hk => by simp at hk, fun k a b hk => by simp [rRefs] at hk⟩⟩
  · rw [z (k := 2) (n := 4) (by decide) hj, z (k := 56) (n := 4) (by decide) hj]; exact ⟨rfl, v0 _ (by decide)⟩
  · rw [z (k := 5) (n := 56) (by decide) hj, z (k := 58) (n := 56) (by decide) hj]; exact ⟨rfl, v0 _ (by decide)⟩
  · rw [z (k := 10) (n := 49) (by decide) hj, z (k := 66) (n := 49) (by decide) hj]; exact ⟨rfl, v0 _ (by decide)⟩
  · rw [z (k := 10) (n := 49) (by decide) (show 7 * u + v < 49 by omega), z (k := 10) (n := 49) (by decide) (show 7 * v + u < 49 by omega)]
  · rw [z (k := 19) (n := 9) (by decide) hj, z (k := 70) (n := 9) (by decide) hj]; exact ⟨rfl, v0 _ (by decide)⟩
  · rw [z (k := 20) (n := 81) (by decide) (show 9 * a + b < 81 by omega), Nat.zero_testBit]; rfl
theorem o_I : am_oI RI := by
  have h := runI_1
  cases h1 : F_X11_init_0 (zr am_P0 0 none) (zr am_I0 0 0) with
  | none =>
    unfold runI at h
    rw [h1] at h
    cases h
  | some q1 =>
    obtain ⟨P1, I1⟩ := q1
    have h2 : runI = F_X12_init_55 (zr P1 55 none) (zr I1 55 0) := by
      unfold runI
      rw [h1]
    rw [h2] at h
    cases h3 : F_X12_init_55 (zr P1 55 none) (zr I1 55 0) with
    | none => rw [h3] at h; cases h
    | some q2 =>
      obtain ⟨P2, I2⟩ := q2
      rw [h3] at h
      obtain ⟨hR, hp, hb⟩ := chk_RI (P := P2) (I := I2) h
      exact ⟨P1, I1, P2, I2, h1, h3, ⟨am_plb_use hb (Nat.le_refl 94), rfl, hp, hb⟩, hR⟩
