theorem op_7 : am_op7 RI := by
  rintro b I a1 a2 a3  ⟨c, w, p, t, y, d, ln, n, ⟨hb, ⟨⟨hc1, hc2⟩, hst, ⟨hy1, hy2⟩, ⟨hw1, hw2⟩, ⟨hp1, hp2⟩, ⟨ht1, ht2⟩, ⟨hl1, hl2⟩, ⟨hd1, hd2⟩⟩, ⟨rpo, rpa, rho, rvi, rtr, rta, rsa, rbe, rne, rde, rlo, rli, rru⟩⟩, rtp, rmi, rke⟩
  obtain ⟨b1, b2, b3, b4, b5, b6, b7, b8⟩ := id hb
  have no : F_X11_tree_0 I a1 a2 a3 = some ((-1), I) → F_X12_tree_55 I a1 a2 a3 = some ((-1), up2 I 55 0 0) → ∃ (r : Int32) (I1 : am_IT) (I2 : am_IT), F_X11_tree_0 I a1 a2 a3 = some (r, I1) ∧ F_X12_tree_55 I1 a1 a2 a3 = some (r, I2) ∧ RI b I2 := fun h1 h2 => ⟨_, I, _, h1, h2, c, w, p, t, y, d, ln, n, ⟨hb, ⟨⟨hc1, hc2⟩, hst, ⟨hy1, hy2⟩, ⟨hw1, hw2⟩, ⟨hp1, hp2⟩, ⟨ht1, ht2⟩, ⟨hl1, hl2⟩, ⟨hd1, hd2⟩⟩, ⟨rpo, rpa, rho, rvi, rtr, rta, rsa, rbe, rne, rde, rlo, rli, rru⟩⟩, rtp, rmi, rke⟩
  rcases gd_cases a1 (n := 8) (by decide) with g0 | ⟨g0, h, hh, rfl⟩
  · refine no ?_ ?_
    · unfold F_X11_tree_0; rw [gH1', am_b1_s, g0, if_pos rfl] <;> first | rfl | exact hc1 | exact hc2 | exact hw1 | exact hw2 | exact hp1 | exact hp2 | exact ht1 | exact ht2 | exact hd1 | exact hd2 | exact hy1 | exact hy2 | exact hl1 | exact hl2 | decide
    · unfold F_X12_tree_55; rw [am_let_s, gH2, am_b1_s, g0, if_pos rfl] <;> first | rfl | exact hc1 | exact hc2 | exact hw1 | exact hw2 | exact hp1 | exact hp2 | exact ht1 | exact ht2 | exact hd1 | exact hd2 | exact hy1 | exact hy2 | exact hl1 | exact hl2 | decide
  · skip
    rcases gd_cases a2 (n := w) (by omega) with g1 | ⟨g1, u, hu, rfl⟩
    · refine no ?_ ?_
      · unfold F_X11_tree_0; rw [gH1', am_b1_s, g0, if_neg (by decide), gW1 (n := w), am_b1_s, g1, if_pos rfl] <;> first | rfl | exact hc1 | exact hc2 | exact hw1 | exact hw2 | exact hp1 | exact hp2 | exact ht1 | exact ht2 | exact hd1 | exact hd2 | exact hy1 | exact hy2 | exact hl1 | exact hl2 | decide
      · unfold F_X12_tree_55; rw [am_let_s, gH2, am_b1_s, g0, if_neg (by decide), gW2 (n := w), am_b1_s, g1, if_pos rfl] <;> first | rfl | exact hc1 | exact hc2 | exact hw1 | exact hw2 | exact hp1 | exact hp2 | exact ht1 | exact ht2 | exact hd1 | exact hd2 | exact hy1 | exact hy2 | exact hl1 | exact hl2 | decide
    · skip
      rcases gr_cases a3 (m := 99) (n := 99) rfl (by decide) with g2 | ⟨g2, k, hk, rfl⟩
      · refine no ?_ ?_
        · unfold F_X11_tree_0; rw [gH1', am_b1_s, g0, if_neg (by decide), gW1 (n := w), am_b1_s, g1, if_neg (by decide), gR1, am_b1_s, g2, if_pos rfl] <;> first | rfl | exact hc1 | exact hc2 | exact hw1 | exact hw2 | exact hp1 | exact hp2 | exact ht1 | exact ht2 | exact hd1 | exact hd2 | exact hy1 | exact hy2 | exact hl1 | exact hl2 | decide
        · unfold F_X12_tree_55; rw [am_let_s, gH2, am_b1_s, g0, if_neg (by decide), gW2 (n := w), am_b1_s, g1, if_neg (by decide), gR2, am_b1_s, g2, if_pos rfl] <;> first | rfl | exact hc1 | exact hc2 | exact hw1 | exact hw2 | exact hp1 | exact hp2 | exact ht1 | exact ht2 | exact hd1 | exact hd2 | exact hy1 | exact hy2 | exact hl1 | exact hl2 | decide
      · skip
        by_cases h7 : t = 20
        · subst h7
          refine no ?_ ?_
          · unfold F_X11_tree_0; rw [gH1', am_b1_s, g0, if_neg (by decide), gW1 (n := w) hw1, am_b1_s, g1, if_neg (by decide), gR1, am_b1_s, g2, if_neg (by decide), ht1]; rfl
          · unfold F_X12_tree_55
            rw [am_let_s, gH2, am_b1_s, g0, if_neg (by decide), gW2 (I := up2 I 55 0 0) (n := w) hw2, am_b1_s, g1, if_neg (by decide), gR2, am_b1_s, g2, if_neg (by decide), show (up2 I 55 0 0) 55 8 = nI 20 from ht2]; rfl
        · have hlt : nI t < 20 := nI_lt (b := 20) (by omega) (by decide)
          have hne : ¬ nI t = 20 := fun h => h7 ((nI_eq (b := 20) (by omega) (by decide)).mp h)
          have e3 : nI t * 3 = nI (3 * t) := by rw [show (3 : Int32) = nI 3 from rfl, pk_mul, Nat.mul_comm]
          have e0 : nI (3 * t) + 0 = nI (3 * t) := Int32.add_zero _
          have e2 : nI (3 * t) + 2 = nI (3 * t + 2) := nI_add (3 * t) 2
          refine ⟨nI t, up2 (up2 (up2 (up2 I 6 (3 * t) (nI (7 * h + u))) 6 (3 * t + 1) (nI k)) 6 (3 * t + 2) (nI y)) 1 5 (nI (t + 1)), up2 (up2 (up2 (up2 (up2 (up2 (up2 (up2 (up2 (up2 I 6 (3 * t) (nI (7 * h + u))) 6 (3 * t + 1) (nI k)) 6 (3 * t + 2) (nI y)) 1 5 (nI (t + 1))) 55 0 0) 59 t (nI h)) 60 t (nI u)) 61 t (nI k)) 62 t (nI y)) 55 8 (nI (t + 1)), ?_, ?_, c, w, p, t + 1, y, d, ln, n, ⟨⟨b1, b2, b3, b4, by omega, b6, b7, b8⟩, ⟨⟨hc1, hc2⟩, hst, ⟨hy1, hy2⟩, ⟨hw1, hw2⟩, ⟨hp1, hp2⟩, ⟨rfl, rfl⟩, ⟨hl1, hl2⟩, ⟨hd1, hd2⟩⟩, ⟨rpo, rpa, rho, rvi, ?_, rta, rsa, rbe, rne, rde, rlo, rli, rru⟩⟩, rtp, rmi, rke⟩
          · unfold F_X11_tree_0
            rw [gH1', am_b1_s, g0, if_neg (by decide), gW1 (n := w) hw1, am_b1_s, g1, if_neg (by decide), gR1, am_b1_s, g2, if_neg (by decide), ht1, if_pos hlt, am_let_s, e3, e0, if_pos (am_ix_nI (by omega) (by decide)), am_let_s, nI_clamp (by omega), nI_1, if_pos (am_ix_nI (by omega) (by decide)), am_let_s, nI_clamp (by omega), e2, if_pos (am_ix_nI (by omega) (by decide)), am_let_s, nI_clamp (by omega), ix7]
            show some ((up2 (up2 (up2 (up2 I 6 (3 * t) (nI (7 * h + u))) 6 (3 * t + 1) (nI k)) 6 (3 * t + 2) (I 1 2)) 1 5 (I 1 5 + 1)) 1 5 - 1, up2 (up2 (up2 (up2 I 6 (3 * t) (nI (7 * h + u))) 6 (3 * t + 1) (nI k)) 6 (3 * t + 2) (I 1 2)) 1 5 (I 1 5 + 1)) = _
            rw [ht1, hy1, nI_1, up2_s, show nI (t + 1) - 1 = nI t from nI_pred t]
          · unfold F_X12_tree_55
            rw [am_let_s, gH2, am_b1_s, g0, if_neg (by decide), gW2 (I := up2 (up2 (up2 (up2 (up2 I 6 (3 * t) (nI (7 * h + u))) 6 (3 * t + 1) (nI k)) 6 (3 * t + 2) (nI y)) 1 5 (nI (t + 1))) 55 0 0) (n := w) hw2, am_b1_s, g1, if_neg (by decide), gR2, am_b1_s, g2, if_neg (by decide), show (up2 (up2 (up2 (up2 (up2 I 6 (3 * t) (nI (7 * h + u))) 6 (3 * t + 1) (nI k)) 6 (3 * t + 2) (nI y)) 1 5 (nI (t + 1))) 55 0 0) 55 8 = nI t from ht2, if_neg hne, if_pos (am_ix_nI (by omega) (by decide)), am_let_s, nI_clamp (by omega)]
            rw [show (up2 (up2 (up2 (up2 (up2 (up2 I 6 (3 * t) (nI (7 * h + u))) 6 (3 * t + 1) (nI k)) 6 (3 * t + 2) (nI y)) 1 5 (nI (t + 1))) 55 0 0) 59 t (nI h)) 55 8 = nI t from ht2, if_pos (am_ix_nI (by omega) (by decide)), am_let_s, nI_clamp (by omega)]
            rw [show (up2 (up2 (up2 (up2 (up2 (up2 (up2 I 6 (3 * t) (nI (7 * h + u))) 6 (3 * t + 1) (nI k)) 6 (3 * t + 2) (nI y)) 1 5 (nI (t + 1))) 55 0 0) 59 t (nI h)) 60 t (nI u)) 55 8 = nI t from ht2, if_pos (am_ix_nI (by omega) (by decide)), am_let_s, nI_clamp (by omega)]
            rw [show (up2 (up2 (up2 (up2 (up2 (up2 (up2 (up2 I 6 (3 * t) (nI (7 * h + u))) 6 (3 * t + 1) (nI k)) 6 (3 * t + 2) (nI y)) 1 5 (nI (t + 1))) 55 0 0) 59 t (nI h)) 60 t (nI u)) 61 t (nI k)) 55 8 = nI t from ht2, if_pos (am_ix_nI (by omega) (by decide)), am_let_s, nI_clamp (by omega), am_let_s, show (up2 (up2 (up2 (up2 (up2 (up2 (up2 (up2 I 6 (3 * t) (nI (7 * h + u))) 6 (3 * t + 1) (nI k)) 6 (3 * t + 2) (nI y)) 1 5 (nI (t + 1))) 55 0 0) 59 t (nI h)) 60 t (nI u)) 61 t (nI k)) 55 13 = nI y from hy2, show (up2 (up2 (up2 (up2 (up2 (up2 (up2 (up2 (up2 I 6 (3 * t) (nI (7 * h + u))) 6 (3 * t + 1) (nI k)) 6 (3 * t + 2) (nI y)) 1 5 (nI (t + 1))) 55 0 0) 59 t (nI h)) 60 t (nI u)) 61 t (nI k)) 62 t (nI y)) 55 8 = nI t from ht2, nI_1, up2_s, show nI (t + 1) - 1 = nI t from nI_pred t]
          · intro j hj
            by_cases q : j = t
            · subst q
              refine ⟨h, u, k, y, hh, hu, by omega, Nat.le_refl _, ?_, ?_, ?_, ?_, ?_, ?_, ?_⟩
              · show up2 (up2 (up2 I 6 (3 * j) (nI (7 * h + u))) 6 (3 * j + 1) (nI k)) 6 (3 * j + 2) (nI y) 6 (3 * j) = _
                rw [up2_j _ _ (by omega), up2_j _ _ (by omega), up2_s]
              · show up2 (up2 (up2 I 6 (3 * j) (nI (7 * h + u))) 6 (3 * j + 1) (nI k)) 6 (3 * j + 2) (nI y) 6 (3 * j + 1) = _
                rw [up2_j _ _ (by omega), up2_s]
              · show up2 (up2 (up2 I 6 (3 * j) (nI (7 * h + u))) 6 (3 * j + 1) (nI k)) 6 (3 * j + 2) (nI y) 6 (3 * j + 2) = _
                rw [up2_s]
              · show up2 I 59 j (nI h) 59 j = _
                rw [up2_s]
              · show up2 I 60 j (nI u) 60 j = _
                rw [up2_s]
              · show up2 I 61 j (nI k) 61 j = _
                rw [up2_s]
              · show up2 I 62 j (nI y) 62 j = _
                rw [up2_s]
            · obtain ⟨h', u', g', s', q1, q2, q3, q4, q5, q6, q7, q8, q9, q10, q11⟩ := rtr j (by omega)
              refine ⟨h', u', g', s', q1, q2, q3, q4, ?_, ?_, ?_, ?_, ?_, ?_, ?_⟩
              · show up2 (up2 (up2 I 6 (3 * t) (nI (7 * h + u))) 6 (3 * t + 1) (nI k)) 6 (3 * t + 2) (nI y) 6 (3 * j) = _
                rw [up2_j _ _ (by omega), up2_j _ _ (by omega), up2_j _ _ (by omega)]; exact q5
              · show up2 (up2 (up2 I 6 (3 * t) (nI (7 * h + u))) 6 (3 * t + 1) (nI k)) 6 (3 * t + 2) (nI y) 6 (3 * j + 1) = _
                rw [up2_j _ _ (by omega), up2_j _ _ (by omega), up2_j _ _ (by omega)]; exact q6
              · show up2 (up2 (up2 I 6 (3 * t) (nI (7 * h + u))) 6 (3 * t + 1) (nI k)) 6 (3 * t + 2) (nI y) 6 (3 * j + 2) = _
                rw [up2_j _ _ (by omega), up2_j _ _ (by omega), up2_j _ _ (by omega)]; exact q7
              · show up2 I 59 t (nI h) 59 j = _
                rw [up2_j _ _ q]; exact q8
              · show up2 I 60 t (nI u) 60 j = _
                rw [up2_j _ _ q]; exact q9
              · show up2 I 61 t (nI k) 61 j = _
                rw [up2_j _ _ q]; exact q10
              · show up2 I 62 t (nI y) 62 j = _
                rw [up2_j _ _ q]; exact q11
theorem op_9 : am_op9 RI := by
  rintro b I a1 a2 a3 hz ⟨c, w, p, t, y, d, ln, n, ⟨hb, ⟨⟨hc1, hc2⟩, hst, ⟨hy1, hy2⟩, ⟨hw1, hw2⟩, ⟨hp1, hp2⟩, ⟨ht1, ht2⟩, ⟨hl1, hl2⟩, ⟨hd1, hd2⟩⟩, ⟨rpo, rpa, rho, rvi, rtr, rta, rsa, rbe, rne, rde, rlo, rli, rru⟩⟩, rtp, rmi, rke⟩
  obtain ⟨b1, b2, b3, b4, b5, b6, b7, b8⟩ := id hb
  have no : F_X11_beside_0 I a1 a2 a3 = some (0, I) → F_X12_beside_55 I a1 a2 a3 = some (0, up2 I 55 0 0) → ∃ (r : Int32) (I1 : am_IT) (I2 : am_IT), F_X11_beside_0 I a1 a2 a3 = some (r, I1) ∧ F_X12_beside_55 I1 a1 a2 a3 = some (r, I2) ∧ RI b I2 := fun h1 h2 => ⟨_, I, _, h1, h2, c, w, p, t, y, d, ln, n, ⟨hb, ⟨⟨hc1, hc2⟩, hst, ⟨hy1, hy2⟩, ⟨hw1, hw2⟩, ⟨hp1, hp2⟩, ⟨ht1, ht2⟩, ⟨hl1, hl2⟩, ⟨hd1, hd2⟩⟩, ⟨rpo, rpa, rho, rvi, rtr, rta, rsa, rbe, rne, rde, rlo, rli, rru⟩⟩, rtp, rmi, rke⟩
  rcases gd_cases a1 (n := w) (by omega) with g0 | ⟨g0, j, hj, rfl⟩
  · refine no ?_ ?_
    · unfold F_X11_beside_0; rw [gW1 (n := w), am_b1_s, g0, if_pos rfl] <;> first | rfl | exact hc1 | exact hc2 | exact hw1 | exact hw2 | exact hp1 | exact hp2 | exact ht1 | exact ht2 | exact hd1 | exact hd2 | exact hy1 | exact hy2 | exact hl1 | exact hl2 | decide
    · unfold F_X12_beside_55; rw [am_let_s, gW2 (n := w), am_b1_s, g0, if_pos rfl] <;> first | rfl | exact hc1 | exact hc2 | exact hw1 | exact hw2 | exact hp1 | exact hp2 | exact ht1 | exact ht2 | exact hd1 | exact hd2 | exact hy1 | exact hy2 | exact hl1 | exact hl2 | decide
  · skip
    rcases gd_cases a2 (n := w) (by omega) with g1 | ⟨g1, k, hk, rfl⟩
    · refine no ?_ ?_
      · unfold F_X11_beside_0; rw [gW1 (n := w), am_b1_s, g0, if_neg (by decide), gW1 (n := w), am_b1_s, g1, if_pos rfl] <;> first | rfl | exact hc1 | exact hc2 | exact hw1 | exact hw2 | exact hp1 | exact hp2 | exact ht1 | exact ht2 | exact hd1 | exact hd2 | exact hy1 | exact hy2 | exact hl1 | exact hl2 | decide
      · unfold F_X12_beside_55; rw [am_let_s, gW2 (n := w), am_b1_s, g0, if_neg (by decide), gW2 (n := w), am_b1_s, g1, if_pos rfl] <;> first | rfl | exact hc1 | exact hc2 | exact hw1 | exact hw2 | exact hp1 | exact hp2 | exact ht1 | exact ht2 | exact hd1 | exact hd2 | exact hy1 | exact hy2 | exact hl1 | exact hl2 | decide
    · skip
      by_cases hjk : nI j = nI k
      · refine no ?_ ?_
        · unfold F_X11_beside_0; rw [gW1 (n := w) hw1, am_b1_s, g0, if_neg (by decide), gW1 (n := w) hw1, am_b1_s, g1, if_neg (by decide), if_pos hjk]
        · unfold F_X12_beside_55; rw [am_let_s, gW2 (I := up2 I 55 0 0) (n := w) hw2, am_b1_s, g0, if_neg (by decide), gW2 (I := up2 I 55 0 0) (n := w) hw2, am_b1_s, g1, if_neg (by decide), if_pos hjk]
      · obtain ⟨V, hV, hVb⟩ : ∃ V : Int32, V = (if a3 = 0 then 0 else 1) ∧ vb 2 V := ⟨_, rfl, by
          by_cases q : a3 = 0
          · rw [if_pos q]; exact ⟨0, by decide, rfl⟩
          · rw [if_neg q]; exact ⟨1, by decide, rfl⟩⟩
        refine ⟨1, up2 (up2 I 10 (7 * j + k) V) 10 (7 * k + j) V, up2 (up2 (up2 (up2 (up2 I 10 (7 * j + k) V) 10 (7 * k + j) V) 55 0 0) 66 (7 * j + k) V) 66 (7 * k + j) V, ?_, ?_, c, w, p, t, y, d, ln, n, ⟨hb, ⟨⟨hc1, hc2⟩, hst, ⟨hy1, hy2⟩, ⟨hw1, hw2⟩, ⟨hp1, hp2⟩, ⟨ht1, ht2⟩, ⟨hl1, hl2⟩, ⟨hd1, hd2⟩⟩, ⟨rpo, rpa, rho, rvi, rtr, rta, rsa, rbe, ?_, rde, rlo, rli, rru⟩⟩, rtp, rmi, rke⟩
        · unfold F_X11_beside_0; rw [gW1 (n := w) hw1, am_b1_s, g0, if_neg (by decide), gW1 (n := w) hw1, am_b1_s, g1, if_neg (by decide), if_neg hjk, ite_s, am_b1_s, ← hV, ix7, if_pos (am_ix_nI (by omega) (by decide)), am_let_s, nI_clamp (by omega), ix7, if_pos (am_ix_nI (by omega) (by decide)), am_let_s, nI_clamp (by omega), if_pos (am_ix_nI (by omega) (by decide)), am_let_s]
          by_cases q : a3 = 0
          · rw [if_pos q]; rw [if_pos q] at hV; rw [hV]
          · rw [if_neg q]; rw [if_neg q] at hV; rw [hV]
        · unfold F_X12_beside_55; rw [am_let_s, gW2 (I := up2 (up2 (up2 I 10 (7 * j + k) V) 10 (7 * k + j) V) 55 0 0) (n := w) hw2, am_b1_s, g0, if_neg (by decide), gW2 (I := up2 (up2 (up2 I 10 (7 * j + k) V) 10 (7 * k + j) V) 55 0 0) (n := w) hw2, am_b1_s, g1, if_neg (by decide), if_neg hjk, ite_s, am_b1_s, ← hV, ix7', if_pos (am_ix_nI (by omega) (by decide)), am_let_s, nI_clamp (by omega), ix7', if_pos (am_ix_nI (by omega) (by decide)), am_let_s, nI_clamp (by omega), if_pos (am_ix_nI (by omega) (by decide)), am_let_s]
          by_cases q : a3 = 0
          · rw [if_pos q]; rw [if_pos q] at hV; rw [hV]
          · rw [if_neg q]; rw [if_neg q] at hV; rw [hV]
        · have r1 : ∀ i, (up2 (up2 I 10 (7 * j + k) V) 10 (7 * k + j) V) 10 i = if i = 7 * k + j then V else if i = 7 * j + k then V else I 10 i := fun i => by rw [up2_r, up2_r]
          have r2 : ∀ i, (up2 (up2 I 66 (7 * j + k) V) 66 (7 * k + j) V) 66 i = if i = 7 * k + j then V else if i = 7 * j + k then V else I 66 i := fun i => by rw [up2_r, up2_r]
          refine ⟨fun i hi => ?_, fun u v hu hv => ?_⟩
          · show (up2 (up2 I 10 (7 * j + k) V) 10 (7 * k + j) V) 10 i = (up2 (up2 I 66 (7 * j + k) V) 66 (7 * k + j) V) 66 i ∧ vb 2 ((up2 (up2 I 10 (7 * j + k) V) 10 (7 * k + j) V) 10 i)
            rw [r1, r2]
            exact upd_at (f := fun i => if i = 7 * j + k then V else I 10 i) (g := fun i => if i = 7 * j + k then V else I 66 i) (P := fun _ x z => x = z ∧ vb 2 x) (upd_at (f := I 10) (g := I 66) (P := fun _ x z => x = z ∧ vb 2 x) (rne.1 i hi) ⟨rfl, hVb⟩) ⟨rfl, hVb⟩
          · show (up2 (up2 I 10 (7 * j + k) V) 10 (7 * k + j) V) 10 (7 * u + v) = (up2 (up2 I 10 (7 * j + k) V) 10 (7 * k + j) V) 10 (7 * v + u)
            rw [r1, r1]
            have := rne.2 u v hu hv
            by_cases q1 : u = k ∧ v = j
            · obtain ⟨rfl, rfl⟩ := q1
              rw [if_pos rfl]
              by_cases q3 : 7 * v + u = 7 * u + v
              · rw [if_pos q3]
              · rw [if_neg q3, if_pos rfl]
            · by_cases q2 : u = j ∧ v = k
              · obtain ⟨rfl, rfl⟩ := q2
                rw [if_pos rfl]
                by_cases q3 : 7 * u + v = 7 * v + u
                · rw [if_pos q3, if_pos rfl]
                · rw [if_neg q3, if_pos rfl]
              · rw [if_neg (by omega), if_neg (by omega), if_neg (by omega), if_neg (by omega)]
                exact this
