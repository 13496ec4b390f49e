theorem op_2 : am_op2 RI := by
  rintro b I a1 a2 ⟨c, w, p, t, y, d, ln, n, ⟨hb, ⟨⟨hc1, hc2⟩, hst, ⟨hy1, hy2⟩, ⟨hw1, hw2⟩, ⟨hp1, hp2⟩, ⟨ht1, ht2⟩, ⟨hl1, hl2⟩, ⟨hd1, hd2⟩⟩, ⟨rpo, rpa, rho, rvi, rtr, rta, rsa, rbe, rne, rde, rlo, rli, rru⟩⟩, rtp, rmi, rke⟩
  obtain ⟨b1, b2, b3, b4, b5, b6, b7, b8⟩ := id hb
  have no : F_X11_pot_0 I a1 a2 = some (0, I) → F_X12_pot_55 I a1 a2 = some (0, up2 I 55 0 0) → ∃ (r : Int32) (I1 : am_IT) (I2 : am_IT), F_X11_pot_0 I a1 a2 = some (r, I1) ∧ F_X12_pot_55 I1 a1 a2 = some (r, I2) ∧ RI b I2 := fun h1 h2 => ⟨_, I, _, h1, h2, c, w, p, t, y, d, ln, n, ⟨hb, ⟨⟨hc1, hc2⟩, hst, ⟨hy1, hy2⟩, ⟨hw1, hw2⟩, ⟨hp1, hp2⟩, ⟨ht1, ht2⟩, ⟨hl1, hl2⟩, ⟨hd1, hd2⟩⟩, ⟨rpo, rpa, rho, rvi, rtr, rta, rsa, rbe, rne, rde, rlo, rli, rru⟩⟩, rtp, rmi, rke⟩
  rcases gd_cases a1 (n := c) (by omega) with g0 | ⟨g0, j, hj, rfl⟩
  · refine no ?_ ?_
    · unfold F_X11_pot_0; rw [gC1 (n := c), am_b1_s, g0, if_pos rfl] <;> first | rfl | exact hc1 | exact hc2 | exact hw1 | exact hw2 | exact hp1 | exact hp2 | exact ht1 | exact ht2 | exact hd1 | exact hd2 | exact hy1 | exact hy2 | exact hl1 | exact hl2 | decide
    · unfold F_X12_pot_55; rw [am_let_s, gC2 (n := c), am_b1_s, g0, if_pos rfl] <;> first | rfl | exact hc1 | exact hc2 | exact hw1 | exact hw2 | exact hp1 | exact hp2 | exact ht1 | exact ht2 | exact hd1 | exact hd2 | exact hy1 | exact hy2 | exact hl1 | exact hl2 | decide
  · skip
    rcases gr_cases a2 (m := 999) (n := 999) rfl (by decide) with g1 | ⟨g1, k, hk, rfl⟩
    · refine no ?_ ?_
      · unfold F_X11_pot_0; rw [gC1 (n := c), am_b1_s, g0, if_neg (by decide), gR1, am_b1_s, g1, if_pos rfl] <;> first | rfl | exact hc1 | exact hc2 | exact hw1 | exact hw2 | exact hp1 | exact hp2 | exact ht1 | exact ht2 | exact hd1 | exact hd2 | exact hy1 | exact hy2 | exact hl1 | exact hl2 | decide
      · unfold F_X12_pot_55; rw [am_let_s, gC2 (n := c), am_b1_s, g0, if_neg (by decide), gR2, am_b1_s, g1, if_pos rfl] <;> first | rfl | exact hc1 | exact hc2 | exact hw1 | exact hw2 | exact hp1 | exact hp2 | exact ht1 | exact ht2 | exact hd1 | exact hd2 | exact hy1 | exact hy2 | exact hl1 | exact hl2 | decide
    · skip
      refine ⟨1, up2 I 2 j (nI k), up2 (up2 (up2 I 2 j (nI k)) 55 0 0) 56 j (nI k), ?_, ?_, c, w, p, t, y, d, ln, n, ⟨hb, ⟨⟨hc1, hc2⟩, hst, ⟨hy1, hy2⟩, ⟨hw1, hw2⟩, ⟨hp1, hp2⟩, ⟨ht1, ht2⟩, ⟨hl1, hl2⟩, ⟨hd1, hd2⟩⟩, ⟨?_, rpa, rho, rvi, rtr, rta, rsa, rbe, rne, rde, rlo, rli, rru⟩⟩, rtp, rmi, rke⟩
      · unfold F_X11_pot_0; rw [gC1 (n := c), am_b1_s, g0, if_neg (by decide), gR1, am_b1_s, g1, if_neg (by decide), if_pos (am_ix_nI (by omega) (by decide)), am_let_s, nI_clamp (by omega)] <;> first | rfl | exact hc1 | exact hc2 | exact hw1 | exact hw2 | exact hp1 | exact hp2 | exact ht1 | exact ht2 | exact hd1 | exact hd2 | exact hy1 | exact hy2 | exact hl1 | exact hl2 | decide
      · unfold F_X12_pot_55; rw [am_let_s, gC2 (n := c), am_b1_s, g0, if_neg (by decide), gR2, am_b1_s, g1, if_neg (by decide), if_pos (am_ix_nI (by omega) (by decide)), am_let_s, nI_clamp (by omega)] <;> first | rfl | exact hc1 | exact hc2 | exact hw1 | exact hw2 | exact hp1 | exact hp2 | exact ht1 | exact ht2 | exact hd1 | exact hd2 | exact hy1 | exact hy2 | exact hl1 | exact hl2 | decide
      · intro i hi
        show (up2 I 2 j (nI k)) 2 i = (up2 (up2 (up2 I 2 j (nI k)) 55 0 0) 56 j (nI k)) 56 i ∧ vb 1000 ((up2 I 2 j (nI k)) 2 i)
        rw [up2_r, up2_r]
        exact upd_at (P := fun _ x z => x = z ∧ vb 1000 x) (rpo i hi) ⟨rfl, k, by omega, rfl⟩
theorem op_10 : am_op10 RI := by
  rintro b I a1 a2 ⟨c, w, p, t, y, d, ln, n, ⟨hb, ⟨⟨hc1, hc2⟩, hst, ⟨hy1, hy2⟩, ⟨hw1, hw2⟩, ⟨hp1, hp2⟩, ⟨ht1, ht2⟩, ⟨hl1, hl2⟩, ⟨hd1, hd2⟩⟩, ⟨rpo, rpa, rho, rvi, rtr, rta, rsa, rbe, rne, rde, rlo, rli, rru⟩⟩, rtp, rmi, rke⟩
  obtain ⟨b1, b2, b3, b4, b5, b6, b7, b8⟩ := id hb
  have no : F_X11_paint_0 I a1 a2 = some (0, I) → F_X12_paint_55 I a1 a2 = some (0, up2 I 55 0 0) → ∃ (r : Int32) (I1 : am_IT) (I2 : am_IT), F_X11_paint_0 I a1 a2 = some (r, I1) ∧ F_X12_paint_55 I1 a1 a2 = some (r, I2) ∧ RI b I2 := fun h1 h2 => ⟨_, I, _, h1, h2, c, w, p, t, y, d, ln, n, ⟨hb, ⟨⟨hc1, hc2⟩, hst, ⟨hy1, hy2⟩, ⟨hw1, hw2⟩, ⟨hp1, hp2⟩, ⟨ht1, ht2⟩, ⟨hl1, hl2⟩, ⟨hd1, hd2⟩⟩, ⟨rpo, rpa, rho, rvi, rtr, rta, rsa, rbe, rne, rde, rlo, rli, rru⟩⟩, rtp, rmi, rke⟩
  rcases gd_cases a1 (n := w) (by omega) with g0 | ⟨g0, j, hj, rfl⟩
  · refine no ?_ ?_
    · unfold F_X11_paint_0; rw [gW1 (n := w), am_b1_s, g0, if_pos rfl] <;> first | rfl | exact hc1 | exact hc2 | exact hw1 | exact hw2 | exact hp1 | exact hp2 | exact ht1 | exact ht2 | exact hd1 | exact hd2 | exact hy1 | exact hy2 | exact hl1 | exact hl2 | decide
    · unfold F_X12_paint_55; rw [am_let_s, gW2 (n := w), am_b1_s, g0, if_pos rfl] <;> first | rfl | exact hc1 | exact hc2 | exact hw1 | exact hw2 | exact hp1 | exact hp2 | exact ht1 | exact ht2 | exact hd1 | exact hd2 | exact hy1 | exact hy2 | exact hl1 | exact hl2 | decide
  · skip
    rcases gd_cases a2 (n := c) (by omega) with g1 | ⟨g1, k, hk, rfl⟩
    · refine no ?_ ?_
      · unfold F_X11_paint_0; rw [gW1 (n := w), am_b1_s, g0, if_neg (by decide), gC1 (n := c), am_b1_s, g1, if_pos rfl] <;> first | rfl | exact hc1 | exact hc2 | exact hw1 | exact hw2 | exact hp1 | exact hp2 | exact ht1 | exact ht2 | exact hd1 | exact hd2 | exact hy1 | exact hy2 | exact hl1 | exact hl2 | decide
      · unfold F_X12_paint_55; rw [am_let_s, gW2 (n := w), am_b1_s, g0, if_neg (by decide), gC2 (n := c), am_b1_s, g1, if_pos rfl] <;> first | rfl | exact hc1 | exact hc2 | exact hw1 | exact hw2 | exact hp1 | exact hp2 | exact ht1 | exact ht2 | exact hd1 | exact hd2 | exact hy1 | exact hy2 | exact hl1 | exact hl2 | decide
    · skip
      refine ⟨1, up2 I 3 j (nI k), up2 (up2 (up2 I 3 j (nI k)) 55 0 0) 72 j (nI k), ?_, ?_, c, w, p, t, y, d, ln, n, ⟨hb, ⟨⟨hc1, hc2⟩, hst, ⟨hy1, hy2⟩, ⟨hw1, hw2⟩, ⟨hp1, hp2⟩, ⟨ht1, ht2⟩, ⟨hl1, hl2⟩, ⟨hd1, hd2⟩⟩, ⟨rpo, ?_, rho, rvi, rtr, rta, rsa, rbe, rne, rde, rlo, rli, rru⟩⟩, rtp, rmi, rke⟩
      · unfold F_X11_paint_0; rw [gW1 (n := w), am_b1_s, g0, if_neg (by decide), gC1 (n := c), am_b1_s, g1, if_neg (by decide), if_pos (am_ix_nI (by omega) (by decide)), am_let_s, nI_clamp (by omega)] <;> first | rfl | exact hc1 | exact hc2 | exact hw1 | exact hw2 | exact hp1 | exact hp2 | exact ht1 | exact ht2 | exact hd1 | exact hd2 | exact hy1 | exact hy2 | exact hl1 | exact hl2 | decide
      · unfold F_X12_paint_55; rw [am_let_s, gW2 (n := w), am_b1_s, g0, if_neg (by decide), gC2 (n := c), am_b1_s, g1, if_neg (by decide), show (0 : Int32) + nI j = nI j from Int32.zero_add _, if_pos (am_ix_nI (by omega) (by decide)), am_let_s, nI_clamp (by omega)] <;> first | rfl | exact hc1 | exact hc2 | exact hw1 | exact hw2 | exact hp1 | exact hp2 | exact ht1 | exact ht2 | exact hd1 | exact hd2 | exact hy1 | exact hy2 | exact hl1 | exact hl2 | decide
      · intro i hi
        show (up2 I 3 j (nI k)) 3 i = (up2 (up2 (up2 I 3 j (nI k)) 55 0 0) 72 j (nI k)) 72 i ∧ vb c ((up2 I 3 j (nI k)) 3 i)
        rw [up2_r, up2_r]
        exact upd_at (P := fun _ x z => x = z ∧ vb c x) (rpa i hi) ⟨rfl, k, hk, rfl⟩
theorem op_28 : am_op28 RI := by
  rintro b I a1 a2 ⟨c, w, p, t, y, d, ln, n, ⟨hb, ⟨⟨hc1, hc2⟩, hst, ⟨hy1, hy2⟩, ⟨hw1, hw2⟩, ⟨hp1, hp2⟩, ⟨ht1, ht2⟩, ⟨hl1, hl2⟩, ⟨hd1, hd2⟩⟩, ⟨rpo, rpa, rho, rvi, rtr, rta, rsa, rbe, rne, rde, rlo, rli, rru⟩⟩, rtp, rmi, rke⟩
  obtain ⟨b1, b2, b3, b4, b5, b6, b7, b8⟩ := id hb
  have no : F_X11_looks_0 I a1 a2 = some (0, I) → F_X12_looks_55 I a1 a2 = some (0, up2 I 55 0 0) → ∃ (r : Int32) (I1 : am_IT) (I2 : am_IT), F_X11_looks_0 I a1 a2 = some (r, I1) ∧ F_X12_looks_55 I1 a1 a2 = some (r, I2) ∧ RI b I2 := fun h1 h2 => ⟨_, I, _, h1, h2, c, w, p, t, y, d, ln, n, ⟨hb, ⟨⟨hc1, hc2⟩, hst, ⟨hy1, hy2⟩, ⟨hw1, hw2⟩, ⟨hp1, hp2⟩, ⟨ht1, ht2⟩, ⟨hl1, hl2⟩, ⟨hd1, hd2⟩⟩, ⟨rpo, rpa, rho, rvi, rtr, rta, rsa, rbe, rne, rde, rlo, rli, rru⟩⟩, rtp, rmi, rke⟩
  rcases gd_cases a1 (n := 9) (by decide) with g0 | ⟨g0, j, hj, rfl⟩
  · refine no ?_ ?_
    · unfold F_X11_looks_0; rw [gQ1', am_b1_s, g0, if_pos rfl] <;> first | rfl | exact hc1 | exact hc2 | exact hw1 | exact hw2 | exact hp1 | exact hp2 | exact ht1 | exact ht2 | exact hd1 | exact hd2 | exact hy1 | exact hy2 | exact hl1 | exact hl2 | decide
    · unfold F_X12_looks_55; rw [am_let_s, gQ2, am_b1_s, g0, if_pos rfl] <;> first | rfl | exact hc1 | exact hc2 | exact hw1 | exact hw2 | exact hp1 | exact hp2 | exact ht1 | exact ht2 | exact hd1 | exact hd2 | exact hy1 | exact hy2 | exact hl1 | exact hl2 | decide
  · skip
    rcases gr_cases a2 (m := 99) (n := 99) rfl (by decide) with g1 | ⟨g1, k, hk, rfl⟩
    · refine no ?_ ?_
      · unfold F_X11_looks_0; rw [gQ1', am_b1_s, g0, if_neg (by decide), gR1, am_b1_s, g1, if_pos rfl] <;> first | rfl | exact hc1 | exact hc2 | exact hw1 | exact hw2 | exact hp1 | exact hp2 | exact ht1 | exact ht2 | exact hd1 | exact hd2 | exact hy1 | exact hy2 | exact hl1 | exact hl2 | decide
      · unfold F_X12_looks_55; rw [am_let_s, gQ2, am_b1_s, g0, if_neg (by decide), gR2, am_b1_s, g1, if_pos rfl] <;> first | rfl | exact hc1 | exact hc2 | exact hw1 | exact hw2 | exact hp1 | exact hp2 | exact ht1 | exact ht2 | exact hd1 | exact hd2 | exact hy1 | exact hy2 | exact hl1 | exact hl2 | decide
    · skip
      refine ⟨1, up2 I 19 j (nI k), up2 (up2 (up2 I 19 j (nI k)) 55 0 0) 70 j (nI k), ?_, ?_, c, w, p, t, y, d, ln, n, ⟨hb, ⟨⟨hc1, hc2⟩, hst, ⟨hy1, hy2⟩, ⟨hw1, hw2⟩, ⟨hp1, hp2⟩, ⟨ht1, ht2⟩, ⟨hl1, hl2⟩, ⟨hd1, hd2⟩⟩, ⟨rpo, rpa, rho, rvi, rtr, rta, rsa, rbe, rne, rde, ?_, rli, rru⟩⟩, rtp, rmi, rke⟩
      · unfold F_X11_looks_0; rw [gQ1', am_b1_s, g0, if_neg (by decide), gR1, am_b1_s, g1, if_neg (by decide), if_pos (am_ix_nI (by omega) (by decide)), am_let_s, nI_clamp (by omega)] <;> first | rfl | exact hc1 | exact hc2 | exact hw1 | exact hw2 | exact hp1 | exact hp2 | exact ht1 | exact ht2 | exact hd1 | exact hd2 | exact hy1 | exact hy2 | exact hl1 | exact hl2 | decide
      · unfold F_X12_looks_55; rw [am_let_s, gQ2, am_b1_s, g0, if_neg (by decide), gR2, am_b1_s, g1, if_neg (by decide), if_pos (am_ix_nI (by omega) (by decide)), am_let_s, nI_clamp (by omega)] <;> first | rfl | exact hc1 | exact hc2 | exact hw1 | exact hw2 | exact hp1 | exact hp2 | exact ht1 | exact ht2 | exact hd1 | exact hd2 | exact hy1 | exact hy2 | exact hl1 | exact hl2 | decide
      · intro i hi
        show (up2 I 19 j (nI k)) 19 i = (up2 (up2 (up2 I 19 j (nI k)) 55 0 0) 70 j (nI k)) 70 i ∧ vb 100 ((up2 I 19 j (nI k)) 19 i)
        rw [up2_r, up2_r]
        exact upd_at (P := fun _ x z => x = z ∧ vb 100 x) (rlo i hi) ⟨rfl, k, by omega, rfl⟩
theorem op_6 : am_op6 RI := by
  rintro b I a1 a2 a3 ⟨c, w, p, t, y, d, ln, n, ⟨hb, ⟨⟨hc1, hc2⟩, hst, ⟨hy1, hy2⟩, ⟨hw1, hw2⟩, ⟨hp1, hp2⟩, ⟨ht1, ht2⟩, ⟨hl1, hl2⟩, ⟨hd1, hd2⟩⟩, ⟨rpo, rpa, rho, rvi, rtr, rta, rsa, rbe, rne, rde, rlo, rli, rru⟩⟩, rtp, rmi, rke⟩
  obtain ⟨b1, b2, b3, b4, b5, b6, b7, b8⟩ := id hb
  have no : F_X11_view_0 I a1 a2 a3 = some (0, I) → F_X12_view_55 I a1 a2 a3 = some (0, up2 I 55 0 0) → ∃ (r : Int32) (I1 : am_IT) (I2 : am_IT), F_X11_view_0 I a1 a2 a3 = some (r, I1) ∧ F_X12_view_55 I1 a1 a2 a3 = some (r, I2) ∧ RI b I2 := fun h1 h2 => ⟨_, I, _, h1, h2, c, w, p, t, y, d, ln, n, ⟨hb, ⟨⟨hc1, hc2⟩, hst, ⟨hy1, hy2⟩, ⟨hw1, hw2⟩, ⟨hp1, hp2⟩, ⟨ht1, ht2⟩, ⟨hl1, hl2⟩, ⟨hd1, hd2⟩⟩, ⟨rpo, rpa, rho, rvi, rtr, rta, rsa, rbe, rne, rde, rlo, rli, rru⟩⟩, rtp, rmi, rke⟩
  rcases gd_cases a1 (n := 8) (by decide) with g0 | ⟨g0, h, hh, rfl⟩
  · refine no ?_ ?_
    · unfold F_X11_view_0; rw [gH1', am_b1_s, g0, if_pos rfl] <;> first | rfl | exact hc1 | exact hc2 | exact hw1 | exact hw2 | exact hp1 | exact hp2 | exact ht1 | exact ht2 | exact hd1 | exact hd2 | exact hy1 | exact hy2 | exact hl1 | exact hl2 | decide
    · unfold F_X12_view_55; rw [am_let_s, gH2, am_b1_s, g0, if_pos rfl] <;> first | rfl | exact hc1 | exact hc2 | exact hw1 | exact hw2 | exact hp1 | exact hp2 | exact ht1 | exact ht2 | exact hd1 | exact hd2 | exact hy1 | exact hy2 | exact hl1 | exact hl2 | decide
  · skip
    rcases gd_cases a2 (n := w) (by omega) with g1 | ⟨g1, u, hu, rfl⟩
    · refine no ?_ ?_
      · unfold F_X11_view_0; rw [gH1', am_b1_s, g0, if_neg (by decide), gW1 (n := w), am_b1_s, g1, if_pos rfl] <;> first | rfl | exact hc1 | exact hc2 | exact hw1 | exact hw2 | exact hp1 | exact hp2 | exact ht1 | exact ht2 | exact hd1 | exact hd2 | exact hy1 | exact hy2 | exact hl1 | exact hl2 | decide
      · unfold F_X12_view_55; rw [am_let_s, gH2, am_b1_s, g0, if_neg (by decide), gW2 (n := w), am_b1_s, g1, if_pos rfl] <;> first | rfl | exact hc1 | exact hc2 | exact hw1 | exact hw2 | exact hp1 | exact hp2 | exact ht1 | exact ht2 | exact hd1 | exact hd2 | exact hy1 | exact hy2 | exact hl1 | exact hl2 | decide
    · skip
      rcases gr_cases a3 (m := 99) (n := 99) rfl (by decide) with g2 | ⟨g2, k, hk, rfl⟩
      · refine no ?_ ?_
        · unfold F_X11_view_0; rw [gH1', am_b1_s, g0, if_neg (by decide), gW1 (n := w), am_b1_s, g1, if_neg (by decide), gR1, am_b1_s, g2, if_pos rfl] <;> first | rfl | exact hc1 | exact hc2 | exact hw1 | exact hw2 | exact hp1 | exact hp2 | exact ht1 | exact ht2 | exact hd1 | exact hd2 | exact hy1 | exact hy2 | exact hl1 | exact hl2 | decide
        · unfold F_X12_view_55; rw [am_let_s, gH2, am_b1_s, g0, if_neg (by decide), gW2 (n := w), am_b1_s, g1, if_neg (by decide), gR2, am_b1_s, g2, if_pos rfl] <;> first | rfl | exact hc1 | exact hc2 | exact hw1 | exact hw2 | exact hp1 | exact hp2 | exact ht1 | exact ht2 | exact hd1 | exact hd2 | exact hy1 | exact hy2 | exact hl1 | exact hl2 | decide
      · skip
        have e1 : nI h * 7 + nI u = nI (7 * h + u) := by rw [show (7 : Int32) = nI 7 from rfl, pk_mul, nI_add, Nat.mul_comm]
        have e2 : 7 * nI h + nI u = nI (7 * h + u) := by rw [show (7 : Int32) = nI 7 from rfl, pk_mul, nI_add]
        refine ⟨1, up2 I 5 (7 * h + u) (nI k), up2 (up2 (up2 I 5 (7 * h + u) (nI k)) 55 0 0) 58 (7 * h + u) (nI k), ?_, ?_, c, w, p, t, y, d, ln, n, ⟨hb, ⟨⟨hc1, hc2⟩, hst, ⟨hy1, hy2⟩, ⟨hw1, hw2⟩, ⟨hp1, hp2⟩, ⟨ht1, ht2⟩, ⟨hl1, hl2⟩, ⟨hd1, hd2⟩⟩, ⟨rpo, rpa, rho, ?_, rtr, rta, rsa, rbe, rne, rde, rlo, rli, rru⟩⟩, rtp, rmi, rke⟩
        · unfold F_X11_view_0; rw [gH1', am_b1_s, g0, if_neg (by decide), gW1 (n := w), am_b1_s, g1, if_neg (by decide), gR1, am_b1_s, g2, if_neg (by decide), e1, if_pos (am_ix_nI (by omega) (by decide)), am_let_s, nI_clamp (by omega)] <;> first | rfl | exact hc1 | exact hc2 | exact hw1 | exact hw2 | exact hp1 | exact hp2 | exact ht1 | exact ht2 | exact hd1 | exact hd2 | exact hy1 | exact hy2 | exact hl1 | exact hl2 | decide
        · unfold F_X12_view_55; rw [am_let_s, gH2, am_b1_s, g0, if_neg (by decide), gW2 (n := w), am_b1_s, g1, if_neg (by decide), gR2, am_b1_s, g2, if_neg (by decide), e2, if_pos (am_ix_nI (by omega) (by decide)), am_let_s, nI_clamp (by omega)] <;> first | rfl | exact hc1 | exact hc2 | exact hw1 | exact hw2 | exact hp1 | exact hp2 | exact ht1 | exact ht2 | exact hd1 | exact hd2 | exact hy1 | exact hy2 | exact hl1 | exact hl2 | decide
        · intro i hi
          show (up2 I 5 (7 * h + u) (nI k)) 5 i = (up2 (up2 (up2 I 5 (7 * h + u) (nI k)) 55 0 0) 58 (7 * h + u) (nI k)) 58 i ∧ vb 100 ((up2 I 5 (7 * h + u) (nI k)) 5 i)
          rw [up2_r, up2_r]
          exact upd_at (P := fun _ x z => x = z ∧ vb 100 x) (rvi i hi) ⟨rfl, k, by omega, rfl⟩
