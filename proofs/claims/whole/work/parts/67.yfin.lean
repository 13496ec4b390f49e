theorem y_fin {b : Bool} {C M C' M' : am_IT} {y : Nat} (hR : RI b (cmb C M)) (hy : C 1 2 = nI y) (hyb : y < 999) (f1 : ∀ j, j ≠ 1 → j ≠ 2 → C' 1 j = C 1 j) (f2 : C' 1 2 = nI (y + 1)) (f3 : ∀ j, j ≠ 1 → j ≠ 13 → M' 55 j = M 55 j) (f4 : M' 55 13 = nI (y + 1)) (f5 : C' 1 1 = M' 55 1) (f6 : ∀ c w, C 1 0 = nI c → C 1 3 = nI w → c ≤ 4 → w ≤ 7 → rPaint c w (C' 3) (M' 72))
    (f7 : ∀ k, k ≠ 1 → k ≠ 3 → k ≠ 24 → k ≠ 26 → k ≠ 28 → k ≠ 29 → C' k = C k) (f8 : ∀ k, k ≠ 55 → k ≠ 72 → k ≠ 81 → k ≠ 82 → k ≠ 83 → k ≠ 84 → M' k = M k) : RI b (cmb C' M') := by
  obtain ⟨c, w, p, t, y1, d, ln, n, ⟨hb, ⟨⟨hc1, hc2⟩, hst, ⟨hy1, hy2⟩, ⟨hw1, hw2⟩, ⟨hp1, hp2⟩, ⟨ht1, ht2⟩, ⟨hl1, hl2⟩, ⟨hd1, hd2⟩⟩, ⟨rpo, rpa, rho, rvi, rtr, rta, rsa, rbe, rne, rde, rlo, rli, rru⟩⟩, rtp, rmi, rke⟩ := hR
  obtain ⟨b1, b2, b3, b4, b5, b6, b7, b8⟩ := id hb
  have ey : y = y1 := (nI_eq (by omega) (by omega)).mp (hy.symm.trans hy1)
  subst ey
  have e : ∀ k, k ≠ 1 ∧ k ≠ 3 ∧ k ≠ 24 ∧ k ≠ 26 ∧ k ≠ 28 ∧ k ≠ 29 ∧ k ≠ 55 ∧ k ≠ 72 ∧ k ≠ 81 ∧ k ≠ 82 ∧ k ≠ 83 ∧ k ≠ 84 → cmb C' M' k = cmb C M k := by
    rintro k ⟨k1, k2, k3, k4, k5, k6, k7, k8, k9, k10, k11, k12⟩
    by_cases h : 55 ≤ k ∧ k ≤ 93
    · rw [cmb_m _ _ h, cmb_m _ _ h]; exact f8 k k7 k8 k9 k10 k11 k12
    · rw [cmb_c _ _ (by omega), cmb_c _ _ (by omega)]; exact f7 k k1 k2 k3 k4 k5 k6
  refine ⟨c, w, p, t, y + 1, d, ln, n, ⟨⟨b1, b2, b3, b4, b5, by omega, b7, b8⟩, ?_, ?_⟩, ?_, ?_, ?_⟩
  · exact ⟨⟨(f1 0 (by decide) (by decide)).trans hc1, (f3 2 (by decide) (by decide)).trans hc2⟩, f5, ⟨f2, f4⟩, ⟨(f1 3 (by decide) (by decide)).trans hw1, (f3 4 (by decide) (by decide)).trans hw2⟩, ⟨(f1 4 (by decide) (by decide)).trans hp1, (f3 5 (by decide) (by decide)).trans hp2⟩, ⟨(f1 5 (by decide) (by decide)).trans ht1, (f3 8 (by decide) (by decide)).trans ht2⟩, ⟨by rw [e 11 (by decide)]; exact hl1, (f3 32 (by decide) (by decide)).trans hl2⟩, ⟨by rw [e 15 (by decide)]; exact hd1, (f3 18 (by decide) (by decide)).trans hd2⟩⟩
  · unfold rRest
    rw [e 2 (by decide), e 56 (by decide), e 4 (by decide), e 57 (by decide), e 5 (by decide), e 58 (by decide), e 6 (by decide), e 59 (by decide), e 60 (by decide), e 61 (by decide), e 62 (by decide), e 7 (by decide), e 63 (by decide), e 8 (by decide), e 64 (by decide), e 9 (by decide), e 65 (by decide), e 10 (by decide), e 66 (by decide), e 16 (by decide), e 67 (by decide), e 68 (by decide), e 69 (by decide), e 19 (by decide), e 70 (by decide), e 20 (by decide), e 71 (by decide), e 11 (by decide), e 12 (by decide), e 13 (by decide), e 14 (by decide), e 75 (by decide), e 76 (by decide), e 77 (by decide), e 78 (by decide), e 79 (by decide)]
    refine ⟨rpo, f6 c w hc1 hw1 b2 b3, rho, rvi, ?_, rta, rsa, rbe, rne, rde, rlo, rli, rru⟩
    intro j hj
    obtain ⟨h, u, g, s, h1, h2, h3, h4, r⟩ := rtr j hj
    exact ⟨h, u, g, s, h1, h2, h3, by omega, r⟩
  · unfold rTape
    rw [e 0 (by decide), e 54 (by decide), e 73 (by decide), show cmb C' M' 55 26 = cmb C M 55 26 from f3 26 (by decide) (by decide)]
    exact rtp
  · unfold rMisc
    rw [e 0 (by decide), e 74 (by decide), show cmb C' M' 55 44 = cmb C M 55 44 from f3 44 (by decide) (by decide), show cmb C' M' 55 45 = cmb C M 55 45 from f3 45 (by decide) (by decide), show cmb C' M' 55 49 = cmb C M 55 49 from f3 49 (by decide) (by decide), show cmb C' M' 55 65 = cmb C M 55 65 from f3 65 (by decide) (by decide)]
    exact rmi
  · intro hbt
    obtain ⟨c', w', p', t', y', d', ln', hk⟩ := rke hbt
    refine ⟨c', w', p', t', y', d', ln', ?_⟩
    have e1 : ∀ k, k < 22 → 1 ≤ k → kT (cmb C' M') k = kT (cmb C M) k := by
      intro k hk2 hk1
      unfold kT
      exact e (93 + k) (by omega)
    have e2 : kM (cmb C' M') = kM (cmb C M) := by
      unfold kM
      rw [e 93 (by decide)]
    rw [e2]
    unfold rt rSc rRest at hk ⊢
    rw [e1 1 (by decide) (by decide), e1 2 (by decide) (by decide), e1 3 (by decide) (by decide), e1 4 (by decide) (by decide), e1 5 (by decide) (by decide), e1 6 (by decide) (by decide), e1 7 (by decide) (by decide), e1 8 (by decide) (by decide), e1 9 (by decide) (by decide), e1 10 (by decide) (by decide), e1 11 (by decide) (by decide), e1 12 (by decide) (by decide), e1 13 (by decide) (by decide), e1 14 (by decide) (by decide), e1 15 (by decide) (by decide), e1 16 (by decide) (by decide), e1 19 (by decide) (by decide), e1 20 (by decide) (by decide)]
    exact hk
