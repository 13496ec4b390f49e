theorem op_5 : am_op5 RI := by
  rintro b I a1 a2  ⟨c, w, p, t, y, d, ln, n, ⟨hb, ⟨⟨hc1, hc2⟩, hst, ⟨hy1, hy2⟩, ⟨hw1, hw2⟩, ⟨hp1, hp2⟩, ⟨ht1, ht2⟩, ⟨hl1, hl2⟩, ⟨hd1, hd2⟩⟩, ⟨rpo, rpa, rho, rvi, rtr, rta, rsa, rbe, rne, rde, rlo, rli, rru⟩⟩, rtp, rmi, rke⟩
  obtain ⟨b1, b2, b3, b4, b5, b6, b7, b8⟩ := id hb
  have no : F_X11_move_0 I a1 a2 = some (0, I) → F_X12_move_55 I a1 a2 = some (0, up2 I 55 0 0) → ∃ (r : Int32) (I1 : am_IT) (I2 : am_IT), F_X11_move_0 I a1 a2 = some (r, I1) ∧ F_X12_move_55 I1 a1 a2 = some (r, I2) ∧ RI b I2 := fun h1 h2 => ⟨_, I, _, h1, h2, c, w, p, t, y, d, ln, n, ⟨hb, ⟨⟨hc1, hc2⟩, hst, ⟨hy1, hy2⟩, ⟨hw1, hw2⟩, ⟨hp1, hp2⟩, ⟨ht1, ht2⟩, ⟨hl1, hl2⟩, ⟨hd1, hd2⟩⟩, ⟨rpo, rpa, rho, rvi, rtr, rta, rsa, rbe, rne, rde, rlo, rli, rru⟩⟩, rtp, rmi, rke⟩
  rcases gd_cases a1 (n := p) (by omega) with g0 | ⟨g0, j, hj, rfl⟩
  · refine no ?_ ?_
    · unfold F_X11_move_0; rw [gP1 (n := p), am_b1_s, g0, if_pos rfl] <;> first | rfl | exact hc1 | exact hc2 | exact hw1 | exact hw2 | exact hp1 | exact hp2 | exact ht1 | exact ht2 | exact hd1 | exact hd2 | exact hy1 | exact hy2 | exact hl1 | exact hl2 | decide
    · unfold F_X12_move_55; rw [am_let_s, gP2 (n := p), am_b1_s, g0, if_pos rfl] <;> first | rfl | exact hc1 | exact hc2 | exact hw1 | exact hw2 | exact hp1 | exact hp2 | exact ht1 | exact ht2 | exact hd1 | exact hd2 | exact hy1 | exact hy2 | exact hl1 | exact hl2 | decide
  · skip
    rcases gd_cases a2 (n := 8) (by decide) with g1 | ⟨g1, h, hh, rfl⟩
    · refine no ?_ ?_
      · unfold F_X11_move_0; rw [gP1 (n := p), am_b1_s, g0, if_neg (by decide), gH1', am_b1_s, g1, if_pos rfl] <;> first | rfl | exact hc1 | exact hc2 | exact hw1 | exact hw2 | exact hp1 | exact hp2 | exact ht1 | exact ht2 | exact hd1 | exact hd2 | exact hy1 | exact hy2 | exact hl1 | exact hl2 | decide
      · unfold F_X12_move_55; rw [am_let_s, gP2 (n := p), am_b1_s, g0, if_neg (by decide), gH2, am_b1_s, g1, if_pos rfl] <;> first | rfl | exact hc1 | exact hc2 | exact hw1 | exact hw2 | exact hp1 | exact hp2 | exact ht1 | exact ht2 | exact hd1 | exact hd2 | exact hy1 | exact hy2 | exact hl1 | exact hl2 | decide
    · skip
      have hcg : lvF (I 57) (nI h) 0 p = lvF (I 4) (nI h) 0 p := lvF_congr _ _ _ (fun k _ hk => ((rho.1 k (by omega)).1).symm)
      have ejp := (rho.1 j hj).1
      rcases lvF_spec (I 4) (nI h) p 0 with ⟨hl, hfree⟩ | ⟨q, q1, q2, q3, hl⟩
      · refine ⟨1, up2 I 4 j (nI h), up2 (up2 (up2 I 4 j (nI h)) 55 0 0) 57 j (nI h), ?_, ?_, c, w, p, t, y, d, ln, n, ⟨hb, ⟨⟨hc1, hc2⟩, hst, ⟨hy1, hy2⟩, ⟨hw1, hw2⟩, ⟨hp1, hp2⟩, ⟨ht1, ht2⟩, ⟨hl1, hl2⟩, ⟨hd1, hd2⟩⟩, ⟨rpo, rpa, ?_, rvi, rtr, rta, rsa, rbe, rne, rde, rlo, rli, rru⟩⟩, rtp, rmi, rke⟩
        · unfold F_X11_move_0
          rw [gP1 (n := p) hp1, am_b1_s, g0, if_neg (by decide), gH1', am_b1_s, g1, if_neg (by decide), lv1 hp1 b4, am_b1_s, hl, if_pos rfl, am_b1_s, if_pos (am_ix_nI (by omega) (by decide)), am_let_s, nI_clamp (by omega)]
        · unfold F_X12_move_55
          rw [am_let_s, gP2 (I := up2 (up2 I 4 j (nI h)) 55 0 0) (n := p) hp2, am_b1_s, g0, if_neg (by decide), gH2, am_b1_s, g1, if_neg (by decide), lv2 (I := up2 (up2 I 4 j (nI h)) 55 0 0) hp2 b4, am_b1_s, show lvF ((up2 (up2 I 4 j (nI h)) 55 0 0) 57) (nI h) 0 p = -1 from hcg.trans hl, if_pos rfl, am_b1_s, if_pos (am_ix_nI (by omega) (by decide)), am_let_s, nI_clamp (by omega)]
        · have r1 : ∀ k, (up2 I 4 j (nI h)) 4 k = if k = j then nI h else I 4 k := fun k => up2_r _ _ _ _ _
          refine ⟨fun k hk => ?_, fun i k hi hk e => ?_⟩
          · show (up2 I 4 j (nI h)) 4 k = (up2 I 57 j (nI h)) 57 k ∧ vb 8 ((up2 I 4 j (nI h)) 4 k)
            rw [r1, up2_r]
            exact upd_at (P := fun _ x z => x = z ∧ vb 8 x) (rho.1 k hk) ⟨rfl, h, hh, rfl⟩
          · have e : (up2 I 4 j (nI h)) 4 i = (up2 I 4 j (nI h)) 4 k := e
            rw [r1, r1] at e
            by_cases qi : i = j
            · by_cases qk : k = j
              · omega
              · rw [if_pos qi, if_neg qk] at e
                exact absurd e.symm (hfree k (by omega) (by omega))
            · by_cases qk : k = j
              · rw [if_neg qi, if_pos qk] at e
                exact absurd e (hfree i (by omega) (by omega))
              · rw [if_neg qi, if_neg qk] at e
                exact rho.2 i k hi hk e
      · have hne : ¬ nI q = (-1 : Int32) := fun z => by
          have := congrArg Int32.toInt z
          rw [nI_toInt (by omega), show (-1 : Int32).toInt = -1 from rfl] at this
          omega
        refine ⟨1, up2 (up2 I 4 q (I 4 j)) 4 j (nI h), up2 (up2 (up2 (up2 (up2 I 4 q (I 4 j)) 4 j (nI h)) 55 0 0) 57 q (I 4 j)) 57 j (nI h), ?_, ?_, c, w, p, t, y, d, ln, n, ⟨hb, ⟨⟨hc1, hc2⟩, hst, ⟨hy1, hy2⟩, ⟨hw1, hw2⟩, ⟨hp1, hp2⟩, ⟨ht1, ht2⟩, ⟨hl1, hl2⟩, ⟨hd1, hd2⟩⟩, ⟨rpo, rpa, ?_, rvi, rtr, rta, rsa, rbe, rne, rde, rlo, rli, rru⟩⟩, rtp, rmi, rke⟩
        · unfold F_X11_move_0
          rw [gP1 (n := p) hp1, am_b1_s, g0, if_neg (by decide), gH1', am_b1_s, g1, if_neg (by decide), lv1 hp1 b4, am_b1_s, hl, if_neg hne, if_pos (am_ix_nI (by omega) (by decide)), if_pos (am_ix_nI (by omega) (by decide)), am_let_s, nI_clamp (by omega), nI_clamp (by omega), am_b1_s, if_pos (am_ix_nI (by omega) (by decide)), am_let_s]
        · unfold F_X12_move_55
          rw [am_let_s, gP2 (I := up2 (up2 (up2 I 4 q (I 4 j)) 4 j (nI h)) 55 0 0) (n := p) hp2, am_b1_s, g0, if_neg (by decide), gH2, am_b1_s, g1, if_neg (by decide), lv2 (I := up2 (up2 (up2 I 4 q (I 4 j)) 4 j (nI h)) 55 0 0) hp2 b4, am_b1_s, show lvF ((up2 (up2 (up2 I 4 q (I 4 j)) 4 j (nI h)) 55 0 0) 57) (nI h) 0 p = nI q from hcg.trans hl, if_neg hne, if_pos (am_ix_nI (by omega) (by decide)), if_pos (am_ix_nI (by omega) (by decide)), am_let_s, nI_clamp (by omega), nI_clamp (by omega), am_b1_s, if_pos (am_ix_nI (by omega) (by decide)), am_let_s, show (up2 (up2 (up2 I 4 q (I 4 j)) 4 j (nI h)) 55 0 0) 57 j = I 4 j from ejp.symm]
        · have r1 : ∀ k, (up2 (up2 I 4 q (I 4 j)) 4 j (nI h)) 4 k = if k = j then nI h else if k = q then I 4 j else I 4 k := fun k => by rw [up2_r, up2_r]
          have r2 : ∀ k, (up2 (up2 I 57 q (I 4 j)) 57 j (nI h)) 57 k = if k = j then nI h else if k = q then I 4 j else I 57 k := fun k => by rw [up2_r, up2_r]
          refine ⟨fun k hk => ?_, fun i k hi hk e => ?_⟩
          · show (up2 (up2 I 4 q (I 4 j)) 4 j (nI h)) 4 k = (up2 (up2 I 57 q (I 4 j)) 57 j (nI h)) 57 k ∧ vb 8 ((up2 (up2 I 4 q (I 4 j)) 4 j (nI h)) 4 k)
            rw [r1, r2]
            exact upd_at (f := fun k => if k = q then I 4 j else I 4 k) (g := fun k => if k = q then I 4 j else I 57 k) (P := fun _ x z => x = z ∧ vb 8 x) (upd_at (f := I 4) (g := I 57) (P := fun _ x z => x = z ∧ vb 8 x) (rho.1 k hk) ⟨rfl, (rho.1 j hj).2⟩) ⟨rfl, h, hh, rfl⟩
          · have e : (up2 (up2 I 4 q (I 4 j)) 4 j (nI h)) 4 i = (up2 (up2 I 4 q (I 4 j)) 4 j (nI h)) 4 k := e
            rw [r1, r1] at e
            have q2' : q < p := by omega
            by_cases qi : i = j
            · by_cases qk : k = j
              · omega
              · rw [if_pos qi, if_neg qk] at e
                by_cases qk2 : k = q
                · rw [if_pos qk2] at e
                  have := rho.2 q j q2' hj (q3.trans e)
                  omega
                · rw [if_neg qk2] at e
                  have := rho.2 q k q2' hk (q3.trans e)
                  omega
            · rw [if_neg qi] at e
              by_cases qk : k = j
              · rw [if_pos qk] at e
                by_cases qi2 : i = q
                · rw [if_pos qi2] at e
                  have := rho.2 j q hj q2' (e.trans q3.symm)
                  omega
                · rw [if_neg qi2] at e
                  have := rho.2 i q hi q2' (e.trans q3.symm)
                  omega
              · rw [if_neg qk] at e
                by_cases qi2 : i = q
                · rw [if_pos qi2] at e
                  by_cases qk2 : k = q
                  · omega
                  · rw [if_neg qk2] at e
                    have := rho.2 j k hj hk e
                    omega
                · rw [if_neg qi2] at e
                  by_cases qk2 : k = q
                  · rw [if_pos qk2] at e
                    have := rho.2 i j hi hj e
                    omega
                  · rw [if_neg qk2] at e
                    exact rho.2 i k hi hk e
theorem op_26 : am_op26 RI := by
  rintro b I a1 a2 a3  ⟨c, w, p, t, y, d, ln, n, ⟨hb, ⟨⟨hc1, hc2⟩, hst, ⟨hy1, hy2⟩, ⟨hw1, hw2⟩, ⟨hp1, hp2⟩, ⟨ht1, ht2⟩, ⟨hl1, hl2⟩, ⟨hd1, hd2⟩⟩, ⟨rpo, rpa, rho, rvi, rtr, rta, rsa, rbe, rne, rde, rlo, rli, rru⟩⟩, rtp, rmi, rke⟩
  obtain ⟨b1, b2, b3, b4, b5, b6, b7, b8⟩ := id hb
  have no : F_X11_deed_0 I a1 a2 a3 = some (0, I) → F_X12_deed_55 I a1 a2 a3 = some (0, up2 I 55 0 0) → ∃ (r : Int32) (I1 : am_IT) (I2 : am_IT), F_X11_deed_0 I a1 a2 a3 = some (r, I1) ∧ F_X12_deed_55 I1 a1 a2 a3 = some (r, I2) ∧ RI b I2 := fun h1 h2 => ⟨_, I, _, h1, h2, c, w, p, t, y, d, ln, n, ⟨hb, ⟨⟨hc1, hc2⟩, hst, ⟨hy1, hy2⟩, ⟨hw1, hw2⟩, ⟨hp1, hp2⟩, ⟨ht1, ht2⟩, ⟨hl1, hl2⟩, ⟨hd1, hd2⟩⟩, ⟨rpo, rpa, rho, rvi, rtr, rta, rsa, rbe, rne, rde, rlo, rli, rru⟩⟩, rtp, rmi, rke⟩
  rcases gd_cases a1 (n := p) (by omega) with g0 | ⟨g0, j, hj, rfl⟩
  · refine no ?_ ?_
    · unfold F_X11_deed_0; rw [gP1 (n := p), am_b1_s, g0, if_pos rfl] <;> first | rfl | exact hc1 | exact hc2 | exact hw1 | exact hw2 | exact hp1 | exact hp2 | exact ht1 | exact ht2 | exact hd1 | exact hd2 | exact hy1 | exact hy2 | exact hl1 | exact hl2 | decide
    · unfold F_X12_deed_55; rw [am_let_s, gP2 (n := p), am_b1_s, g0, if_pos rfl] <;> first | rfl | exact hc1 | exact hc2 | exact hw1 | exact hw2 | exact hp1 | exact hp2 | exact ht1 | exact ht2 | exact hd1 | exact hd2 | exact hy1 | exact hy2 | exact hl1 | exact hl2 | decide
  · skip
    rcases gd_cases a2 (n := c) (by omega) with g1 | ⟨g1, k, hk, rfl⟩
    · refine no ?_ ?_
      · unfold F_X11_deed_0; rw [gP1 (n := p), am_b1_s, g0, if_neg (by decide), gC1 (n := c), am_b1_s, g1, if_pos rfl] <;> first | rfl | exact hc1 | exact hc2 | exact hw1 | exact hw2 | exact hp1 | exact hp2 | exact ht1 | exact ht2 | exact hd1 | exact hd2 | exact hy1 | exact hy2 | exact hl1 | exact hl2 | decide
      · unfold F_X12_deed_55; rw [am_let_s, gP2 (n := p), am_b1_s, g0, if_neg (by decide), gC2 (n := c), am_b1_s, g1, if_pos rfl] <;> first | rfl | exact hc1 | exact hc2 | exact hw1 | exact hw2 | exact hp1 | exact hp2 | exact ht1 | exact ht2 | exact hd1 | exact hd2 | exact hy1 | exact hy2 | exact hl1 | exact hl2 | decide
    · skip
      rcases gd_cases a3 (n := c) (by omega) with g2 | ⟨g2, u, hu, rfl⟩
      · refine no ?_ ?_
        · unfold F_X11_deed_0; rw [gP1 (n := p), am_b1_s, g0, if_neg (by decide), gC1 (n := c), am_b1_s, g1, if_neg (by decide), gC1 (n := c), am_b1_s, g2, if_pos rfl] <;> first | rfl | exact hc1 | exact hc2 | exact hw1 | exact hw2 | exact hp1 | exact hp2 | exact ht1 | exact ht2 | exact hd1 | exact hd2 | exact hy1 | exact hy2 | exact hl1 | exact hl2 | decide
        · unfold F_X12_deed_55; rw [am_let_s, gP2 (n := p), am_b1_s, g0, if_neg (by decide), gC2 (n := c), am_b1_s, g1, if_neg (by decide), gC2 (n := c), am_b1_s, g2, if_pos rfl] <;> first | rfl | exact hc1 | exact hc2 | exact hw1 | exact hw2 | exact hp1 | exact hp2 | exact ht1 | exact ht2 | exact hd1 | exact hd2 | exact hy1 | exact hy2 | exact hl1 | exact hl2 | decide
      · skip
        have cpre : F_X11_deed_0 I (nI j) (nI k) (nI u) = if nI k = nI u then some (0, I) else (am_b2 (F_X1_add_15 I (nI j) (nI k) (nI u)) (fun (r : Int32) (I1 : am_IT) => some (r, I1))) := by
          unfold F_X11_deed_0
          rw [gP1 (n := p) hp1, am_b1_s, g0, if_neg (by decide), gC1 (n := c) hc1, am_b1_s, g1, if_neg (by decide), gC1 (n := c) hc1, am_b1_s, g2, if_neg (by decide)]
        by_cases hku : nI k = nI u
        · refine no ?_ ?_
          · rw [cpre, if_pos hku]
          · unfold F_X12_deed_55
            rw [am_let_s, gP2 (I := up2 I 55 0 0) (n := p) hp2, am_b1_s, g0, if_neg (by decide), gC2 (I := up2 I 55 0 0) (n := c) hc2, am_b1_s, g1, if_neg (by decide), gC2 (I := up2 I 55 0 0) (n := c) hc2, am_b1_s, g2, if_neg (by decide), if_pos hku]
        · by_cases h40 : d = 40
          · subst h40
            refine no ?_ ?_
            · rw [cpre, if_neg hku]; unfold F_X1_add_15; rw [hd1]; rfl
            · unfold F_X12_deed_55
              rw [am_let_s, gP2 (I := up2 I 55 0 0) (n := p) hp2, am_b1_s, g0, if_neg (by decide), gC2 (I := up2 I 55 0 0) (n := c) hc2, am_b1_s, g1, if_neg (by decide), gC2 (I := up2 I 55 0 0) (n := c) hc2, am_b1_s, g2, if_neg (by decide), if_neg hku, show (up2 I 55 0 0) 55 18 = nI 40 from hd2]; rfl
          · have hlt : nI d < 40 := nI_lt (b := 40) (by omega) (by decide)
            have hne : ¬ nI d = 40 := fun z => h40 ((nI_eq (b := 40) (by omega) (by decide)).mp z)
            have ei : (nI j * 4 + nI k) * 4 + nI u = nI (16 * j + 4 * k + u) := by
              rw [ix4, ix4]
              congr 1
              omega
            refine ⟨1, up2 (up2 I 16 (16 * j + 4 * k + u) 1) 15 0 (nI (d + 1)), up2 (up2 (up2 (up2 (up2 (up2 (up2 I 16 (16 * j + 4 * k + u) 1) 15 0 (nI (d + 1))) 55 0 0) 67 d (nI j)) 68 d (nI k)) 69 d (nI u)) 55 18 (nI (d + 1)), ?_, ?_, c, w, p, t, y, d + 1, ln, n, ⟨⟨b1, b2, b3, b4, b5, b6, by omega, b8⟩, ⟨⟨hc1, hc2⟩, hst, ⟨hy1, hy2⟩, ⟨hw1, hw2⟩, ⟨hp1, hp2⟩, ⟨ht1, ht2⟩, ⟨hl1, hl2⟩, ⟨rfl, rfl⟩⟩, ⟨rpo, rpa, rho, rvi, rtr, rta, rsa, rbe, rne, ?_, rlo, rli, rru⟩⟩, rtp, rmi, rke⟩
            · rw [cpre, if_neg hku]
              unfold F_X1_add_15
              rw [hd1, if_pos hlt, ei, if_pos (am_ix_nI (by omega) (by decide)), am_let_s, nI_clamp (by omega), am_let_s, show (up2 I 16 (16 * j + 4 * k + u) 1) 15 0 = nI d from hd1, nI_1]
              rfl
            · unfold F_X12_deed_55
              rw [am_let_s, gP2 (I := up2 (up2 (up2 I 16 (16 * j + 4 * k + u) 1) 15 0 (nI (d + 1))) 55 0 0) (n := p) hp2, am_b1_s, g0, if_neg (by decide), gC2 (I := up2 (up2 (up2 I 16 (16 * j + 4 * k + u) 1) 15 0 (nI (d + 1))) 55 0 0) (n := c) hc2, am_b1_s, g1, if_neg (by decide), gC2 (I := up2 (up2 (up2 I 16 (16 * j + 4 * k + u) 1) 15 0 (nI (d + 1))) 55 0 0) (n := c) hc2, am_b1_s, g2, if_neg (by decide), if_neg hku, show (up2 (up2 (up2 I 16 (16 * j + 4 * k + u) 1) 15 0 (nI (d + 1))) 55 0 0) 55 18 = nI d from hd2, if_neg hne, if_pos (am_ix_nI (by omega) (by decide)), am_let_s, nI_clamp (by omega)]
              rw [show (up2 (up2 (up2 (up2 I 16 (16 * j + 4 * k + u) 1) 15 0 (nI (d + 1))) 55 0 0) 67 d (nI j)) 55 18 = nI d from hd2, if_pos (am_ix_nI (by omega) (by decide)), am_let_s, nI_clamp (by omega)]
              rw [show (up2 (up2 (up2 (up2 (up2 I 16 (16 * j + 4 * k + u) 1) 15 0 (nI (d + 1))) 55 0 0) 67 d (nI j)) 68 d (nI k)) 55 18 = nI d from hd2, if_pos (am_ix_nI (by omega) (by decide)), am_let_s, nI_clamp (by omega), am_let_s]
              rw [show (up2 (up2 (up2 (up2 (up2 (up2 I 16 (16 * j + 4 * k + u) 1) 15 0 (nI (d + 1))) 55 0 0) 67 d (nI j)) 68 d (nI k)) 69 d (nI u)) 55 18 = nI d from hd2, nI_1]
            · have r1 : ∀ i, (up2 (up2 I 16 (16 * j + 4 * k + u) 1) 15 0 (nI (d + 1))) 16 i = if i = 16 * j + 4 * k + u then 1 else I 16 i := fun i => by rw [up2_k _ _ (show 16 ≠ 15 by decide), up2_r]
              have s1 : ∀ i, (up2 (up2 (up2 (up2 (up2 (up2 (up2 I 16 (16 * j + 4 * k + u) 1) 15 0 (nI (d + 1))) 55 0 0) 67 d (nI j)) 68 d (nI k)) 69 d (nI u)) 55 18 (nI (d + 1))) 67 i = if i = d then nI j else I 67 i := fun i => up2_r I 67 d i (nI j)
              have s2 : ∀ i, (up2 (up2 (up2 (up2 (up2 (up2 (up2 I 16 (16 * j + 4 * k + u) 1) 15 0 (nI (d + 1))) 55 0 0) 67 d (nI j)) 68 d (nI k)) 69 d (nI u)) 55 18 (nI (d + 1))) 68 i = if i = d then nI k else I 68 i := fun i => up2_r I 68 d i (nI k)
              have s3 : ∀ i, (up2 (up2 (up2 (up2 (up2 (up2 (up2 I 16 (16 * j + 4 * k + u) 1) 15 0 (nI (d + 1))) 55 0 0) 67 d (nI j)) 68 d (nI k)) 69 d (nI u)) 55 18 (nI (d + 1))) 69 i = if i = d then nI u else I 69 i := fun i => up2_r I 69 d i (nI u)
              refine ⟨fun i hi => ?_, fun q a b' hq ha hb' => ?_⟩
              · show ∃ q a b' : Nat, q < p ∧ a < c ∧ b' < c ∧ a ≠ b' ∧ (up2 (up2 (up2 (up2 (up2 (up2 (up2 I 16 (16 * j + 4 * k + u) 1) 15 0 (nI (d + 1))) 55 0 0) 67 d (nI j)) 68 d (nI k)) 69 d (nI u)) 55 18 (nI (d + 1))) 67 i = nI q ∧ (up2 (up2 (up2 (up2 (up2 (up2 (up2 I 16 (16 * j + 4 * k + u) 1) 15 0 (nI (d + 1))) 55 0 0) 67 d (nI j)) 68 d (nI k)) 69 d (nI u)) 55 18 (nI (d + 1))) 68 i = nI a ∧ (up2 (up2 (up2 (up2 (up2 (up2 (up2 I 16 (16 * j + 4 * k + u) 1) 15 0 (nI (d + 1))) 55 0 0) 67 d (nI j)) 68 d (nI k)) 69 d (nI u)) 55 18 (nI (d + 1))) 69 i = nI b'
                rw [s1, s2, s3]
                by_cases z : i = d
                · rw [if_pos z, if_pos z, if_pos z]
                  exact ⟨j, k, u, hj, hk, hu, fun e => hku (by rw [e]), rfl, rfl, rfl⟩
                · rw [if_neg z, if_neg z, if_neg z]
                  exact rde.1 i (by omega)
              · obtain ⟨w1, w2⟩ := rde.2 q a b' hq ha hb'
                have hex : (∃ i, i < d + 1 ∧ (up2 (up2 (up2 (up2 (up2 (up2 (up2 I 16 (16 * j + 4 * k + u) 1) 15 0 (nI (d + 1))) 55 0 0) 67 d (nI j)) 68 d (nI k)) 69 d (nI u)) 55 18 (nI (d + 1))) 67 i = nI q ∧ (up2 (up2 (up2 (up2 (up2 (up2 (up2 I 16 (16 * j + 4 * k + u) 1) 15 0 (nI (d + 1))) 55 0 0) 67 d (nI j)) 68 d (nI k)) 69 d (nI u)) 55 18 (nI (d + 1))) 68 i = nI a ∧ (up2 (up2 (up2 (up2 (up2 (up2 (up2 I 16 (16 * j + 4 * k + u) 1) 15 0 (nI (d + 1))) 55 0 0) 67 d (nI j)) 68 d (nI k)) 69 d (nI u)) 55 18 (nI (d + 1))) 69 i = nI b') ↔ ((q = j ∧ a = k ∧ b' = u) ∨ ∃ i, i < d ∧ I 67 i = nI q ∧ I 68 i = nI a ∧ I 69 i = nI b') := by
                  constructor
                  · rintro ⟨i, hi, e1, e2, e3⟩
                    rw [s1] at e1
                    rw [s2] at e2
                    rw [s3] at e3
                    by_cases z : i = d
                    · rw [if_pos z] at e1 e2 e3
                      exact Or.inl ⟨((nI_eq (by omega) (by omega)).mp e1).symm, ((nI_eq (by omega) (by omega)).mp e2).symm, ((nI_eq (by omega) (by omega)).mp e3).symm⟩
                    · rw [if_neg z] at e1 e2 e3
                      exact Or.inr ⟨i, by omega, e1, e2, e3⟩
                  · rintro (⟨rfl, rfl, rfl⟩ | ⟨i, hi, e1, e2, e3⟩)
                    · exact ⟨d, by omega, by rw [s1, if_pos rfl], by rw [s2, if_pos rfl], by rw [s3, if_pos rfl]⟩
                    · exact ⟨i, by omega, by rw [s1, if_neg (by omega)]; exact e1, by rw [s2, if_neg (by omega)]; exact e2, by rw [s3, if_neg (by omega)]; exact e3⟩
                refine ⟨fun hE => ?_, fun hE => ?_⟩
                · show (up2 (up2 I 16 (16 * j + 4 * k + u) 1) 15 0 (nI (d + 1))) 16 (16 * q + 4 * a + b') = 1
                  rw [r1]
                  rcases hex.mp hE with ⟨rfl, rfl, rfl⟩ | h2
                  · rw [if_pos rfl]
                  · by_cases z : 16 * q + 4 * a + b' = 16 * j + 4 * k + u
                    · rw [if_pos z]
                    · rw [if_neg z]; exact w1 h2
                · show (up2 (up2 I 16 (16 * j + 4 * k + u) 1) 15 0 (nI (d + 1))) 16 (16 * q + 4 * a + b') = 0
                  rw [r1, if_neg (fun z => hE (hex.mpr (Or.inl ⟨by omega, by omega, by omega⟩)))]
                  exact w2 (fun h2 => hE (hex.mpr (Or.inr h2)))
