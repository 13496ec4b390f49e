/-! the image: both -/
theorem zr_k {α : Type} (f : Nat → Nat → α) {n k : Nat} (v : α) (h : k ≠ n) : zr f n v k = f k := by funext j; simp [zr, h]
/-- what of a state the image leaves alone -/
theorem PK_o {tk : Bool} {B L : am_IT} (h : PK tk B 1260 L) {a i : Nat} (h66 : ¬ (a = 55 ∧ i = 66)) (h93 : a ≠ 93) (hs : ∀ s, s < 1260 → sk s ≠ (a, i)) : L a i = B a i := by
  obtain ⟨-, -, h3, h4⟩ := h
  cases tk with
  | true => exact (h3 rfl).2 a i h66 h93
  | false => exact (h4 rfl).2 a i h66 hs
theorem sk_c : ∀ s, s < 1260 → 55 ≤ (sk s).1 ∧ (sk s).1 ≤ 79 ∧ (sk s).1 ≠ 73 ∧ (sk s).1 ≠ 74 ∧ ((sk s).1 = 55 → (sk s).2 ≠ 26 ∧ (sk s).2 ≠ 44 ∧ (sk s).2 ≠ 45 ∧ (sk s).2 ≠ 49 ∧ (sk s).2 ≠ 65) := by decide +kernel
theorem PK_c {tk : Bool} {B L : am_IT} (h : PK tk B 1260 L) {a : Nat} (ha : a < 55 ∨ 93 < a ∨ a = 73 ∨ a = 74) : L a = B a := by
  funext i
  refine PK_o h (by omega) (by omega) (fun s hs e => ?_)
  obtain ⟨q1, q2, q3, q4, -⟩ := sk_c s hs
  rw [e] at q1 q2 q3 q4
  have q1 : 55 ≤ a := q1
  have q2 : a ≤ 79 := q2
  have q3 : a ≠ 73 := q3
  have q4 : a ≠ 74 := q4
  omega
theorem PK_5 {tk : Bool} {B L : am_IT} (h : PK tk B 1260 L) {i : Nat} (hi : i = 26 ∨ i = 44 ∨ i = 45 ∨ i = 49 ∨ i = 65) : L 55 i = B 55 i := by
  refine PK_o h (by omega) (by omega) (fun s hs e => ?_)
  obtain ⟨-, -, -, -, q5⟩ := sk_c s hs
  rw [e] at q5
  obtain ⟨r1, r2, r3, r4, r5⟩ := q5 rfl
  have r1 : i ≠ 26 := r1
  have r2 : i ≠ 44 := r2
  have r3 : i ≠ 45 := r3
  have r4 : i ≠ 49 := r4
  have r5 : i ≠ 65 := r5
  omega
theorem mLs_sk {k n j : Nat} (h : (k, n) ∈ mLs) (hj : j < n) : ∃ s, s < 1260 ∧ sk s = (k, j) ∧ ∀ I : am_IT, kM I k j = I 93 s := by
  have hc := h
  unfold mLs at hc
  simp only [List.mem_cons, List.not_mem_nil, or_false, Prod.mk.injEq] at hc
  rcases hc with ⟨rfl, rfl⟩ | ⟨rfl, rfl⟩ | ⟨rfl, rfl⟩ | ⟨rfl, rfl⟩ | ⟨rfl, rfl⟩ | ⟨rfl, rfl⟩ | ⟨rfl, rfl⟩ | ⟨rfl, rfl⟩ | ⟨rfl, rfl⟩ | ⟨rfl, rfl⟩ | ⟨rfl, rfl⟩ | ⟨rfl, rfl⟩ | ⟨rfl, rfl⟩ | ⟨rfl, rfl⟩ | ⟨rfl, rfl⟩ | ⟨rfl, rfl⟩ | ⟨rfl, rfl⟩ | ⟨rfl, rfl⟩ | ⟨rfl, rfl⟩ | ⟨rfl, rfl⟩ | ⟨rfl, rfl⟩ | ⟨rfl, rfl⟩
  · exact ⟨4 + 1 * j, by omega, sk_4 j hj, fun I => by show I 93 (4 + j) = _; rw [show 4 + 1 * j = 4 + j by omega]⟩
  · exact ⟨11 + 1 * j, by omega, sk_11 j hj, fun I => by show I 93 (11 + j) = _; rw [show 11 + 1 * j = 11 + j by omega]⟩
  · exact ⟨15 + 1 * j, by omega, sk_15 j hj, fun I => by show I 93 (15 + j) = _; rw [show 15 + 1 * j = 15 + j by omega]⟩
  · exact ⟨71 + 1 * j, by omega, sk_71 j hj, fun I => by show I 93 (71 + j) = _; rw [show 71 + 1 * j = 71 + j by omega]⟩
  · exact ⟨121 + 4 * j, by omega, (sk_121 j hj).1, fun I => by show I 93 (121 + 4 * j) = _; rw [show 121 + 4 * j = 121 + 4 * j by omega]⟩
  · exact ⟨121 + 4 * j + 1, by omega, (sk_121 j hj).2.1, fun I => by show I 93 (122 + 4 * j) = _; rw [show 121 + 4 * j + 1 = 122 + 4 * j by omega]⟩
  · exact ⟨121 + 4 * j + 1 + 1, by omega, (sk_121 j hj).2.2.1, fun I => by show I 93 (123 + 4 * j) = _; rw [show 121 + 4 * j + 1 + 1 = 123 + 4 * j by omega]⟩
  · exact ⟨121 + 4 * j + 1 + 1 + 1, by omega, (sk_121 j hj).2.2.2, fun I => by show I 93 (124 + 4 * j) = _; rw [show 121 + 4 * j + 1 + 1 + 1 = 124 + 4 * j by omega]⟩
  · exact ⟨201 + 2 * j, by omega, (sk_201 j hj).1, fun I => by show I 93 (201 + 2 * j) = _; rw [show 201 + 2 * j = 201 + 2 * j by omega]⟩
  · exact ⟨201 + 2 * j + 1, by omega, (sk_201 j hj).2, fun I => by show I 93 (202 + 2 * j) = _; rw [show 201 + 2 * j + 1 = 202 + 2 * j by omega]⟩
  · exact ⟨220 + 2 * j, by omega, (sk_220 j hj).1, fun I => by show I 93 (220 + 2 * j) = _; rw [show 220 + 2 * j = 220 + 2 * j by omega]⟩
  · exact ⟨220 + 2 * j + 1, by omega, (sk_220 j hj).2, fun I => by show I 93 (221 + 2 * j) = _; rw [show 220 + 2 * j + 1 = 221 + 2 * j by omega]⟩
  · exact ⟨234 + 2 * j, by omega, (sk_234 j hj).1, fun I => by show I 93 (234 + 2 * j) = _; rw [show 234 + 2 * j = 234 + 2 * j by omega]⟩
  · exact ⟨234 + 2 * j + 1, by omega, (sk_234 j hj).2, fun I => by show I 93 (235 + 2 * j) = _; rw [show 234 + 2 * j + 1 = 235 + 2 * j by omega]⟩
  · exact ⟨291 + 3 * j, by omega, (sk_291 j hj).1, fun I => by show I 93 (291 + 3 * j) = _; rw [show 291 + 3 * j = 291 + 3 * j by omega]⟩
  · exact ⟨291 + 3 * j + 1, by omega, (sk_291 j hj).2.1, fun I => by show I 93 (292 + 3 * j) = _; rw [show 291 + 3 * j + 1 = 292 + 3 * j by omega]⟩
  · exact ⟨291 + 3 * j + 1 + 1, by omega, (sk_291 j hj).2.2, fun I => by show I 93 (293 + 3 * j) = _; rw [show 291 + 3 * j + 1 + 1 = 293 + 3 * j by omega]⟩
  · exact ⟨412 + 3 * j, by omega, (sk_412 j hj).1, fun I => by show I 93 (412 + 3 * j) = _; rw [show 412 + 3 * j = 412 + 3 * j by omega]⟩
  · exact ⟨412 + 3 * j + 1, by omega, (sk_412 j hj).2.1, fun I => by show I 93 (413 + 3 * j) = _; rw [show 412 + 3 * j + 1 = 413 + 3 * j by omega]⟩
  · exact ⟨412 + 3 * j + 1 + 1, by omega, (sk_412 j hj).2.2, fun I => by show I 93 (414 + 3 * j) = _; rw [show 412 + 3 * j + 1 + 1 = 414 + 3 * j by omega]⟩
  · exact ⟨460 + 2 * j, by omega, (sk_460 j hj).1, fun I => by show I 93 (460 + 2 * j) = _; rw [show 460 + 2 * j = 460 + 2 * j by omega]⟩
  · exact ⟨460 + 2 * j + 1, by omega, (sk_460 j hj).2, fun I => by show I 93 (461 + 2 * j) = _; rw [show 460 + 2 * j + 1 = 461 + 2 * j by omega]⟩
theorem m5_sk {j : Nat} (h : j ∈ [1, 2, 13, 4, 8, 5, 18, 32]) : ∃ s, s < 1260 ∧ sk s = (55, j) ∧ ∀ I : am_IT, kM I 55 j = I 93 s := by
  simp only [List.mem_cons, List.not_mem_nil, or_false] at h
  rcases h with rfl | rfl | rfl | rfl | rfl | rfl | rfl | rfl
  · exact ⟨0, by decide, by decide, fun _ => rfl⟩
  · exact ⟨1, by decide, by decide, fun _ => rfl⟩
  · exact ⟨2, by decide, by decide, fun _ => rfl⟩
  · exact ⟨3, by decide, by decide, fun _ => rfl⟩
  · exact ⟨120, by decide, by decide, fun _ => rfl⟩
  · exact ⟨219, by decide, by decide, fun _ => rfl⟩
  · exact ⟨290, by decide, by decide, fun _ => rfl⟩
  · exact ⟨411, by decide, by decide, fun _ => rfl⟩
theorem kT_m : ∀ q, q ∈ tLs → 1 ≤ q.1 ∧ q.1 ≤ 20 := by decide
theorem im_b {B I : am_IT} {a1 : Int32} (hB : B = up2 (up2 (up2 (up2 I 55 0 0) 55 64 a1) 55 65 1) 55 66 0) : (∀ a, a ≠ 55 → B a = I a) ∧ (∀ j, j ≠ 0 → j ≠ 64 → j ≠ 65 → j ≠ 66 → B 55 j = I 55 j) ∧ B 55 65 = 1 := by
  subst hB
  exact ⟨fun a ha => by rw [up2_k _ _ ha, up2_k _ _ ha, up2_k _ _ ha, up2_k _ _ ha], fun j h0 h64 h65 h66 => by rw [up2_j _ _ h66, up2_j _ _ h65, up2_j _ _ h64, up2_j _ _ h0], by rw [up2_j _ _ (by decide), up2_s]⟩
/-- the tape and what else isn't kept -/
theorem im_t {tk b : Bool} {B K L I : am_IT} {a1 : Int32} {n : Nat} (hB : B = up2 (up2 (up2 (up2 K 55 0 0) 55 64 a1) 55 65 1) 55 66 0) (h : PK tk B 1260 L) (k0 : K 0 = I 0) (k54 : K 54 = I 54) (km : ∀ a, 55 ≤ a → a ≤ 93 → K a = I a) (rtp : rTape n I) (rmi : rMisc b I) : rTape n L ∧ rMisc true L := by
  obtain ⟨g1, g2, g3⟩ := im_b hB
  have e55 : ∀ i, i = 26 ∨ i = 44 ∨ i = 45 ∨ i = 49 → L 55 i = I 55 i := fun i hi => by rw [PK_5 h (by omega), g2 i (by omega) (by omega) (by omega) (by omega), km 55 (by decide) (by decide)]
  have ec : ∀ a, a ≠ 55 → (a < 55 ∨ a = 73 ∨ a = 74) → L a = K a := fun a h1 h2 => by rw [PK_c h (by omega), g1 a h1]
  have l0 : L 0 = I 0 := (ec 0 (by decide) (by omega)).trans k0
  refine ⟨?_, ?_⟩
  · unfold rTape
    rw [l0, e55 26 (by omega), (ec 54 (by decide) (by omega)).trans k54, (ec 73 (by decide) (by omega)).trans (km 73 (by decide) (by decide))]
    exact rtp
  · obtain ⟨⟨m1, m2⟩, m3, m4, m5⟩ := rmi
    refine ⟨⟨?_, ?_⟩, ?_, ?_, ?_⟩
    · rw [l0, e55 44 (by omega)]; exact m1
    · rw [l0, e55 45 (by omega)]; exact m2
    · rw [e55 49 (by omega)]; exact m3
    · rw [PK_5 h (by omega), g3]; rfl
    · rw [(ec 74 (by decide) (by omega)).trans (km 74 (by decide) (by decide))]; exact m5
/-- taken -/
theorem im_k {b : Bool} {I K : am_IT} (hR : RI b I) (k1 : ∀ q, q ∈ tLs → ∀ j, j < q.2 → K (93 + q.1) j = I q.1 j) (k2 : ∀ a, a < 94 → K a = I a) : ∃ L, F_X12_image_55 K 1 = some ((1 : Int32), L) ∧ RI true L := by
  obtain ⟨c, w, p, t, y, d, ln, n, X, rtp, rmi, -⟩ := hR
  obtain ⟨B, hB⟩ : ∃ B, B = up2 (up2 (up2 (up2 K 55 0 0) 55 64 1) 55 65 1) 55 66 0 := ⟨_, rfl⟩
  obtain ⟨L, eL, hL⟩ := e_imr (tk := true) (I := K) hB rfl (fun z => absurd z (by decide))
  obtain ⟨g1, g2, g3⟩ := im_b hB
  obtain ⟨t1, t2⟩ := im_t (I := I) hB hL (k2 0 (by decide)) (k2 54 (by decide)) (fun a _ h => k2 a (by omega)) rtp rmi
  obtain ⟨l1, l2⟩ := hL.2.2.1 rfl
  have lB : ∀ a i, a ≠ 93 → a ≠ 55 → L a i = K a i := fun a i h93 h55 => by rw [l2 a i (fun z => h55 z.1) h93, g1 a h55]
  have l5 : ∀ j, j ∈ [1, 2, 13, 4, 8, 5, 18, 32] → B 55 j = I 55 j := fun j hj => by
    simp only [List.mem_cons, List.not_mem_nil, or_false] at hj
    rw [g2 j (by omega) (by omega) (by omega) (by omega), k2 55 (by decide)]
  have mne : ∀ q, q ∈ mLs → q.1 ≠ 93 ∧ q.1 ≠ 55 ∧ q.1 < 94 := by decide
  have e1 : rt c w p t y d ln L L := rt_c X (fun q hq j hj => by
    have hk := kT_m q hq
    rw [lB q.1 j (by omega) (by omega), k2 q.1 (by omega)]) ⟨fun q hq j hj => by
    obtain ⟨m1, m2, m3⟩ := mne q hq
    rw [lB q.1 j m1 m2, k2 q.1 m3], fun j hj => by
    rw [l2 55 j (fun z => by have := z.2; subst this; exact absurd hj (by decide)) (by decide), l5 j hj]⟩
  have e2 : rt c w p t y d ln (kT L) (kM L) := rt_c X (fun q hq j hj => by
    have hk := kT_m q hq
    show L (93 + q.1) j = I q.1 j
    rw [lB (93 + q.1) j (by omega) (by omega)]
    exact k1 q hq j hj) ⟨fun q hq j hj => by
    obtain ⟨m1, m2, m3⟩ := mne q hq
    obtain ⟨s, s1, s2, s3⟩ := mLs_sk (k := q.1) (n := q.2) hq hj
    rw [s3, l1 s s1, s2]
    show B q.1 j = I q.1 j
    rw [g1 q.1 m2, k2 q.1 m3], fun j hj => by
    obtain ⟨s, s1, s2, s3⟩ := m5_sk hj
    rw [s3, l1 s s1, s2]
    exact l5 j hj⟩
  exact ⟨L, eL, c, w, p, t, y, d, ln, n, e1, t1, t2, fun _ => ⟨c, w, p, t, y, d, ln, e2⟩⟩
/-- gone back to -/
theorem im_g {I K : am_IT} (hR : RI true I) (k1 : ∀ q, q ∈ tLs → ∀ j, j < q.2 → K q.1 j = I (93 + q.1) j) (k2 : ∀ a, a = 0 ∨ 21 ≤ a → K a = I a) : ∃ L, F_X12_image_55 K 0 = some ((1 : Int32), L) ∧ RI true L := by
  obtain ⟨-, -, -, -, -, -, -, n, -, rtp, rmi, rke⟩ := hR
  obtain ⟨c, w, p, t, y, d, ln, X⟩ := rke rfl
  obtain ⟨B, hB⟩ : ∃ B, B = up2 (up2 (up2 (up2 K 55 0 0) 55 64 0) 55 65 1) 55 66 0 := ⟨_, rfl⟩
  obtain ⟨L, eL, hL⟩ := e_imr (tk := false) (I := K) hB rfl (fun _ => by
    rw [k2 55 (by omega), rmi.2.2.1]; decide)
  obtain ⟨g1, g2, g3⟩ := im_b hB
  obtain ⟨t1, t2⟩ := im_t (I := I) hB hL (k2 0 (by omega)) (k2 54 (by omega)) (fun a h _ => k2 a (by omega)) rtp rmi
  obtain ⟨l1, l2⟩ := hL.2.2.2 rfl
  have lc : ∀ a, a < 55 ∨ 93 < a → L a = K a := fun a ha => by rw [PK_c hL (by omega), g1 a (by omega)]
  have b93 : B 93 = I 93 := by rw [g1 93 (by decide), k2 93 (by omega)]
  have l93 : L 93 = I 93 := by
    funext i
    rw [l2 93 i (by omega) (fun s hs e => (sk_i s hs).2.1 (by rw [e])), b93]
  have e1 : rt c w p t y d ln L L := rt_c X (fun q hq j hj => by
    have hk := kT_m q hq
    rw [lc q.1 (by omega)]
    exact k1 q hq j hj) ⟨fun q hq j hj => by
    obtain ⟨s, s1, s2, s3⟩ := mLs_sk (k := q.1) (n := q.2) hq hj
    have h := l1 s s1
    rw [s2, b93] at h
    exact h.trans (s3 I).symm, fun j hj => by
    obtain ⟨s, s1, s2, s3⟩ := m5_sk hj
    have h := l1 s s1
    rw [s2, b93] at h
    exact h.trans (s3 I).symm⟩
  have e2 : rt c w p t y d ln (kT L) (kM L) := rt_c X (fun q hq j hj => by
    have hk := kT_m q hq
    show L (93 + q.1) j = I (93 + q.1) j
    rw [lc (93 + q.1) (by omega), k2 (93 + q.1) (by omega)]) ⟨fun q hq j hj => by
    obtain ⟨s, s1, s2, s3⟩ := mLs_sk (k := q.1) (n := q.2) hq hj
    rw [s3, s3, l93], fun j hj => by
    obtain ⟨s, s1, s2, s3⟩ := m5_sk hj
    rw [s3, s3, l93]⟩
  exact ⟨L, eL, c, w, p, t, y, d, ln, n, e1, t1, t2, fun _ => ⟨c, w, p, t, y, d, ln, e2⟩⟩
