/-! the image: the reference's slots -/
def sk (s : Nat) : Nat × Nat :=
  if s < 4 then (55, if s = 0 then 1 else if s = 1 then 2 else if s = 2 then 13 else 4)
  else if s < 11 then (72, s - 4) else if s < 15 then (56, s - 11) else if s < 71 then (58, s - 15) else if s < 120 then (66, s - 71)
  else if s < 121 then (55, 8) else if s < 201 then (59 + (s - 121) % 4, (s - 121) / 4) else if s < 219 then (70 + (s - 201) % 2, (s - 201) / 2)
  else if s < 220 then (55, 5) else if s < 234 then (57 + 8 * ((s - 220) % 2), (s - 220) / 2) else if s < 290 then (63 + (s - 234) % 2, (s - 234) / 2)
  else if s < 291 then (55, 18) else if s < 411 then (67 + (s - 291) % 3, (s - 291) / 3) else if s < 412 then (55, 32)
  else if s < 460 then (75 + (s - 412) % 3, (s - 412) / 3) else (78 + (s - 460) % 2, (s - 460) / 2)
/-- back from a cell to its slot -/
def ks1 (q : Nat × Nat) : Nat :=
  if q.1 = 55 then (if q.2 = 1 then 0 else if q.2 = 2 then 1 else if q.2 = 13 then 2 else if q.2 = 4 then 3 else if q.2 = 8 then 120 else if q.2 = 5 then 219 else if q.2 = 18 then 290 else 411)
  else if q.1 = 72 then 4 + q.2 else if q.1 = 56 then 11 + q.2 else if q.1 = 58 then 15 + q.2 else if q.1 = 66 then 71 + q.2
  else if q.1 ≤ 62 ∧ 59 ≤ q.1 then 121 + 4 * q.2 + (q.1 - 59) else if q.1 = 70 ∨ q.1 = 71 then 201 + 2 * q.2 + (q.1 - 70)
  else if q.1 = 57 then 220 + 2 * q.2 else if q.1 = 65 then 221 + 2 * q.2 else if q.1 = 63 ∨ q.1 = 64 then 234 + 2 * q.2 + (q.1 - 63)
  else if q.1 = 67 ∨ q.1 = 68 ∨ q.1 = 69 then 291 + 3 * q.2 + (q.1 - 67) else if q.1 = 75 ∨ q.1 = 76 ∨ q.1 = 77 then 412 + 3 * q.2 + (q.1 - 75)
  else 460 + 2 * q.2 + (q.1 - 78)
theorem sk_i : ∀ s, s < 1260 → ks1 (sk s) = s ∧ (sk s).1 ≠ 93 ∧ sk s ≠ (55, 66) ∧ sk s ≠ (55, 64) := by decide +kernel
theorem sk_in {s r : Nat} (hs : s < 1260) (hr : r < 1260) (h : sk s = sk r) : s = r := by
  rw [← (sk_i s hs).1, h, (sk_i r hr).1]
/-- n slots are taken (tk), or gone back to -/
def PK (tk : Bool) (I : am_IT) (n : Nat) (J : am_IT) : Prop := J 55 66 = nI n ∧ J 55 64 = b2i tk ∧
  (tk = true → (∀ s, s < n → J 93 s = I (sk s).1 (sk s).2) ∧ ∀ a i, ¬ (a = 55 ∧ i = 66) → a ≠ 93 → J a i = I a i) ∧
  (tk = false → (∀ s, s < n → J (sk s).1 (sk s).2 = I 93 s) ∧ ∀ a i, ¬ (a = 55 ∧ i = 66) → (∀ s, s < n → sk s ≠ (a, i)) → J a i = I a i)
theorem up2_i66 {I : am_IT} {a k i j : Nat} {v : Int32} (h : ¬ (a = k ∧ i = j)) : up2 I k j v a i = I a i := by
  unfold up2
  exact if_neg h
theorem ksl {tk : Bool} {I J : am_IT} {n k j : Nat} (h : PK tk I n J) (e : sk n = (k, j)) (hn : n < 1260) : ∃ r M, F_X12_kept_55 J (J k j) = some (r, M) ∧ PK tk I (n + 1) (up2 M k j r) := by
  obtain ⟨h1, h2, h3, h4⟩ := h
  obtain ⟨i1, i2, i3, i4⟩ := sk_i n hn
  rw [e] at i2 i3 i4
  have k93 : k ≠ 93 := i2
  have k66 : ¬ (k = 55 ∧ j = 66) := fun z => i3 (by rw [z.1, z.2])
  have k64 : ¬ (k = 55 ∧ j = 64) := fun z => i4 (by rw [z.1, z.2])
  have e66 : (up2 J 55 66 (J 55 66 + 1)) 55 66 - 1 = nI n := by rw [up2_s, h1, nI_1, nI_dec]
  have x : am_ix (nI n) 1450 = true := am_ix_nI (by omega) (by decide)
  unfold F_X12_kept_55
  rw [am_let_s, e66, up2_j _ _ (show 64 ≠ 66 by decide), h2, nI_clamp (by omega), up2_k _ _ (show 93 ≠ 55 by decide)]
  cases tk with
  | false =>
    obtain ⟨g1, g2⟩ := h4 rfl
    rw [if_pos (show b2i false = 0 from rfl), if_pos x]
    refine ⟨_, _, rfl, ?_, ?_, fun z => (by cases z), fun _ => ⟨fun s hs => ?_, fun a i h66 hns => ?_⟩⟩
    · unfold up2
      rw [if_neg (fun z => k66 ⟨z.1.symm, z.2.symm⟩), if_pos ⟨rfl, rfl⟩, h1, nI_1]
    · unfold up2
      rw [if_neg (fun z => k64 ⟨z.1.symm, z.2.symm⟩), if_neg (by decide), h2]
    · have j93 : J 93 n = I 93 n := g2 93 n (fun q => absurd q.1 (by decide)) (fun s hs z => (sk_i s (by omega)).2.1 (by rw [z]))
      by_cases z : s = n
      · subst z
        rw [e, up2_s, j93]
      · have hne : ¬ ((sk s).1 = k ∧ (sk s).2 = j) := fun q => z (sk_in (by omega) hn (by rw [e]; exact Prod.ext q.1 q.2))
        have h55 : ¬ ((sk s).1 = 55 ∧ (sk s).2 = 66) := fun q => (sk_i s (by omega)).2.2.1 (Prod.ext q.1 q.2)
        rw [← g1 s (by omega)]
        unfold up2
        rw [if_neg hne, if_neg h55]
    · have hkj : ¬ (a = k ∧ i = j) := fun q => hns n (by omega) (by rw [e, q.1, q.2])
      rw [← g2 a i h66 (fun s hs => hns s (by omega))]
      unfold up2
      rw [if_neg hkj, if_neg h66]
  | true =>
    obtain ⟨g1, g2⟩ := h3 rfl
    rw [if_neg (show ¬ b2i true = 0 by decide), if_pos x, am_let_s]
    have ekj : J k j = I k j := g2 k j k66 k93
    refine ⟨_, _, rfl, ?_, ?_, fun _ => ⟨fun s hs => ?_, fun a i h66 h93 => ?_⟩, fun z => (by cases z)⟩
    · rw [up2_i66 (fun z => k66 ⟨z.1.symm, z.2.symm⟩), up2_k _ _ (show 55 ≠ 93 by decide), up2_s, h1, nI_1]
    · rw [up2_i66 (fun z => k64 ⟨z.1.symm, z.2.symm⟩), up2_k _ _ (show 55 ≠ 93 by decide), up2_j _ _ (show 64 ≠ 66 by decide), h2]
    · rw [up2_k _ _ k93.symm]
      by_cases z : s = n
      · subst z
        rw [up2_s, e, ekj]
      · rw [up2_j _ _ z, up2_k _ _ (show 93 ≠ 55 by decide)]; exact g1 s (by omega)
    · rw [← g2 a i h66 h93]
      by_cases z : a = k ∧ i = j
      · rw [z.1, z.2, up2_s]
      · rw [up2_i66 z, up2_k _ _ h93, up2_i66 h66]
