theorem ix7 (a b : Nat) : nI a * 7 + nI b = nI (7 * a + b) := by rw [show (7 : Int32) = nI 7 from rfl, pk_mul, nI_add, Nat.mul_comm]
theorem ix7' (a b : Nat) : 7 * nI a + nI b = nI (7 * a + b) := by rw [show (7 : Int32) = nI 7 from rfl, pk_mul, nI_add]
theorem ix4 (a b : Nat) : nI a * 4 + nI b = nI (4 * a + b) := by rw [show (4 : Int32) = nI 4 from rfl, pk_mul, nI_add, Nat.mul_comm]
theorem ix4' (a b : Nat) : 4 * nI a + nI b = nI (4 * a + b) := by rw [show (4 : Int32) = nI 4 from rfl, pk_mul, nI_add]
theorem ix9 (a b : Nat) : nI a * 9 + nI b = nI (9 * a + b) := by rw [show (9 : Int32) = nI 9 from rfl, pk_mul, nI_add, Nat.mul_comm]
theorem nI_sub1 (a : Nat) : nI a + 1 - 1 = nI a := by rw [nI_1, show (1 : Int32) = nI 1 from rfl, pk_sub (by omega)]; rfl
theorem v9_of {a : Int32} (h : gr a (-9) 9 = 1) : v9 a := by
  unfold gr at h
  by_cases q : a < -9
  · rw [if_pos q] at h; exact absurd h (by decide)
  · rw [if_neg q] at h
    by_cases q2 : 9 < a
    · rw [if_pos q2] at h; exact absurd h (by decide)
    · have h1 := Int32.le_iff_toInt_le.mp (Int32.not_lt.mp q)
      have h2 := Int32.le_iff_toInt_le.mp (Int32.not_lt.mp q2)
      exact ⟨h1, h2⟩
theorem gr01 (a lo hi : Int32) : gr a lo hi = 0 ∨ gr a lo hi = 1 := by
  unfold gr
  split
  · exact Or.inl rfl
  · split
    · exact Or.inl rfl
    · exact Or.inr rfl
theorem op_12 : am_op12 RI := by
  rintro b I a1 ⟨c, w, p, t, y, d, ln, n, ⟨hb, ⟨⟨hc1, hc2⟩, hst, ⟨hy1, hy2⟩, ⟨hw1, hw2⟩, ⟨hp1, hp2⟩, ⟨ht1, ht2⟩, ⟨hl1, hl2⟩, ⟨hd1, hd2⟩⟩, ⟨rpo, rpa, rho, rvi, rtr, rta, rsa, rbe, rne, rde, rlo, rli, rru⟩⟩, rtp, rmi, rke⟩
  obtain ⟨b1, b2, b3, b4, b5, b6, b7, b8⟩ := id hb
  have h9 : I 0 9 = nI n := rtp.2.1
  have h26 : (up2 I 55 0 0) 55 26 = nI n := rtp.2.2.1
  have hn : n ≤ 400 := rtp.1
  rcases gr_cases a1 (m := nI n) (n := n) rfl (by omega) with g | ⟨g, j, hj, rfl⟩
  · refine ⟨0, I, up2 I 55 0 0, ?_, ?_, c, w, p, t, y, d, ln, n, ⟨hb, ⟨⟨hc1, hc2⟩, hst, ⟨hy1, hy2⟩, ⟨hw1, hw2⟩, ⟨hp1, hp2⟩, ⟨ht1, ht2⟩, ⟨hl1, hl2⟩, ⟨hd1, hd2⟩⟩, ⟨rpo, rpa, rho, rvi, rtr, rta, rsa, rbe, rne, rde, rlo, rli, rru⟩⟩, rtp, rmi, rke⟩
    · unfold F_X11_end_0; rw [gR1, h9, g]; rfl
    · unfold F_X12_end_55; rw [am_let_s, gR2, h26, g]; rfl
  · refine ⟨1, up2 I 0 9 (nI j), up2 (up2 (up2 I 0 9 (nI j)) 55 0 0) 55 26 (nI j), ?_, ?_, c, w, p, t, y, d, ln, j, ⟨hb, ⟨⟨hc1, hc2⟩, hst, ⟨hy1, hy2⟩, ⟨hw1, hw2⟩, ⟨hp1, hp2⟩, ⟨ht1, ht2⟩, ⟨hl1, hl2⟩, ⟨hd1, hd2⟩⟩, ⟨rpo, rpa, rho, rvi, rtr, rta, rsa, rbe, rne, rde, rlo, rli, rru⟩⟩, ⟨by omega, rfl, rfl, fun i hi => rtp.2.2.2 i (by omega)⟩, rmi, rke⟩
    · unfold F_X11_end_0; rw [gR1, h9, am_b1_s, g, if_neg (by decide), am_let_s]
    · unfold F_X12_end_55
      rw [am_let_s, gR2, show (up2 (up2 I 0 9 (nI j)) 55 0 0) 55 26 = nI n from rtp.2.2.1, am_b1_s, g, if_neg (by decide), am_let_s]
theorem op_14 : am_op14 RI := by
  rintro b I a1 ⟨c, w, p, t, y, d, ln, n, ⟨hb, ⟨⟨hc1, hc2⟩, hst, ⟨hy1, hy2⟩, ⟨hw1, hw2⟩, ⟨hp1, hp2⟩, ⟨ht1, ht2⟩, ⟨hl1, hl2⟩, ⟨hd1, hd2⟩⟩, ⟨rpo, rpa, rho, rvi, rtr, rta, rsa, rbe, rne, rde, rlo, rli, rru⟩⟩, rtp, rmi, rke⟩
  obtain ⟨b1, b2, b3, b4, b5, b6, b7, b8⟩ := id hb
  by_cases h0 : a1 = 0
  · refine ⟨I 0 10, up2 I 55 0 0, ?_, ?_, c, w, p, t, y, d, ln, n, ⟨hb, ⟨⟨hc1, hc2⟩, hst, ⟨hy1, hy2⟩, ⟨hw1, hw2⟩, ⟨hp1, hp2⟩, ⟨ht1, ht2⟩, ⟨hl1, hl2⟩, ⟨hd1, hd2⟩⟩, ⟨rpo, rpa, rho, rvi, rtr, rta, rsa, rbe, rne, rde, rlo, rli, rru⟩⟩, rtp, rmi, rke⟩
    · unfold F_X11_fault_0; rw [if_pos h0]
    · unfold F_X12_fault_55; rw [am_let_s, if_pos h0, rmi.1.1]; rfl
  · by_cases h1 : a1 = 1
    · refine ⟨I 0 11, up2 I 55 0 0, ?_, ?_, c, w, p, t, y, d, ln, n, ⟨hb, ⟨⟨hc1, hc2⟩, hst, ⟨hy1, hy2⟩, ⟨hw1, hw2⟩, ⟨hp1, hp2⟩, ⟨ht1, ht2⟩, ⟨hl1, hl2⟩, ⟨hd1, hd2⟩⟩, ⟨rpo, rpa, rho, rvi, rtr, rta, rsa, rbe, rne, rde, rlo, rli, rru⟩⟩, rtp, rmi, rke⟩
      · unfold F_X11_fault_0; rw [if_neg h0, if_pos h1]
      · unfold F_X12_fault_55; rw [am_let_s, if_neg h0, if_pos h1, rmi.1.2]; rfl
    · refine ⟨-1, up2 I 55 0 0, ?_, ?_, c, w, p, t, y, d, ln, n, ⟨hb, ⟨⟨hc1, hc2⟩, hst, ⟨hy1, hy2⟩, ⟨hw1, hw2⟩, ⟨hp1, hp2⟩, ⟨ht1, ht2⟩, ⟨hl1, hl2⟩, ⟨hd1, hd2⟩⟩, ⟨rpo, rpa, rho, rvi, rtr, rta, rsa, rbe, rne, rde, rlo, rli, rru⟩⟩, rtp, rmi, rke⟩
      · unfold F_X11_fault_0; rw [if_neg h0, if_neg h1]
      · unfold F_X12_fault_55; rw [am_let_s, if_neg h0, if_neg h1]
theorem op_3 : am_op3 RI := by
  rintro b I a1 ⟨c, w, p, t, y, d, ln, n, ⟨hb, ⟨⟨hc1, hc2⟩, hst, ⟨hy1, hy2⟩, ⟨hw1, hw2⟩, ⟨hp1, hp2⟩, ⟨ht1, ht2⟩, ⟨hl1, hl2⟩, ⟨hd1, hd2⟩⟩, ⟨rpo, rpa, rho, rvi, rtr, rta, rsa, rbe, rne, rde, rlo, rli, rru⟩⟩, rtp, rmi, rke⟩
  obtain ⟨b1, b2, b3, b4, b5, b6, b7, b8⟩ := id hb
  have no : F_X11_wall_0 I a1 = some ((-1), I) → F_X12_wall_55 I a1 = some ((-1), up2 I 55 0 0) → ∃ (r : Int32) (I1 : am_IT) (I2 : am_IT), F_X11_wall_0 I a1 = some (r, I1) ∧ F_X12_wall_55 I1 a1 = some (r, I2) ∧ RI b I2 := fun h1 h2 => ⟨_, I, _, h1, h2, c, w, p, t, y, d, ln, n, ⟨hb, ⟨⟨hc1, hc2⟩, hst, ⟨hy1, hy2⟩, ⟨hw1, hw2⟩, ⟨hp1, hp2⟩, ⟨ht1, ht2⟩, ⟨hl1, hl2⟩, ⟨hd1, hd2⟩⟩, ⟨rpo, rpa, rho, rvi, rtr, rta, rsa, rbe, rne, rde, rlo, rli, rru⟩⟩, rtp, rmi, rke⟩
  rcases gd_cases a1 (n := c) (by omega) with g0 | ⟨g0, j, hj, rfl⟩
  · refine no ?_ ?_
    · unfold F_X11_wall_0; rw [gC1 (n := c), am_b1_s, g0, if_pos rfl] <;> first | rfl | exact hc1 | exact hc2 | exact hw1 | exact hw2 | exact hp1 | exact hp2 | exact ht1 | exact ht2 | exact hd1 | exact hd2 | exact hy1 | exact hy2 | exact hl1 | exact hl2 | decide
    · unfold F_X12_wall_55; rw [am_let_s, gC2 (n := c), am_b1_s, g0, if_pos rfl] <;> first | rfl | exact hc1 | exact hc2 | exact hw1 | exact hw2 | exact hp1 | exact hp2 | exact ht1 | exact ht2 | exact hd1 | exact hd2 | exact hy1 | exact hy2 | exact hl1 | exact hl2 | decide
  · skip
    by_cases h7 : w = 7
    · subst h7
      refine no ?_ ?_
      · unfold F_X11_wall_0; rw [gC1 (n := c) hc1, am_b1_s, g0, if_neg (by decide), hw1]; rfl
      · unfold F_X12_wall_55; rw [am_let_s, gC2 (I := up2 I 55 0 0) (n := c) hc2, am_b1_s, g0, if_neg (by decide), show (up2 I 55 0 0) 55 4 = nI 7 from hw2]; rfl
    · have hlt : nI w < 7 := nI_lt (b := 7) (by omega) (by decide)
      have hne : ¬ nI w = 7 := fun h => h7 ((nI_eq (b := 7) (by omega) (by decide)).mp h)
      refine ⟨nI w, up2 (up2 I 3 w (nI j)) 1 3 (nI (w + 1)), up2 (up2 (up2 (up2 (up2 I 3 w (nI j)) 1 3 (nI (w + 1))) 55 0 0) 72 w (nI j)) 55 4 (nI (w + 1)), ?_, ?_, c, w + 1, p, t, y, d, ln, n, ⟨⟨b1, b2, by omega, b4, b5, b6, b7, b8⟩, ⟨⟨hc1, hc2⟩, hst, ⟨hy1, hy2⟩, ⟨rfl, rfl⟩, ⟨hp1, hp2⟩, ⟨ht1, ht2⟩, ⟨hl1, hl2⟩, ⟨hd1, hd2⟩⟩, ⟨rpo, ?_, rho, rvi, ?_, rta, rsa, rbe, rne, rde, rlo, rli, rru⟩⟩, rtp, rmi, rke⟩
      · unfold F_X11_wall_0
        rw [gC1 (n := c) hc1, am_b1_s, g0, if_neg (by decide), hw1, if_pos hlt, if_pos (am_ix_nI (by omega) (by decide)), am_let_s, nI_clamp (by omega), am_let_s]
        show some ((up2 (up2 I 3 w (nI j)) 1 3 (I 1 3 + 1)) 1 3 - 1, up2 (up2 I 3 w (nI j)) 1 3 (I 1 3 + 1)) = _
        rw [hw1, nI_1, up2_s, show nI (w + 1) - 1 = nI w from nI_pred w]
      · unfold F_X12_wall_55
        rw [am_let_s, gC2 (I := up2 (up2 (up2 I 3 w (nI j)) 1 3 (nI (w + 1))) 55 0 0) (n := c) hc2, am_b1_s, g0, if_neg (by decide), show (up2 (up2 (up2 I 3 w (nI j)) 1 3 (nI (w + 1))) 55 0 0) 55 4 = nI w from hw2, if_neg hne, show (0 : Int32) + nI w = nI w from Int32.zero_add _, if_pos (am_ix_nI (by omega) (by decide)), am_let_s, nI_clamp (by omega), am_let_s]
        show some ((up2 (up2 (up2 (up2 (up2 I 3 w (nI j)) 1 3 (nI (w + 1))) 55 0 0) 72 w (nI j)) 55 4 (I 55 4 + 1)) 55 4 - 1, up2 (up2 (up2 (up2 (up2 I 3 w (nI j)) 1 3 (nI (w + 1))) 55 0 0) 72 w (nI j)) 55 4 (I 55 4 + 1)) = _
        rw [hw2, nI_1, up2_s, show nI (w + 1) - 1 = nI w from nI_pred w]
      · intro i hi
        show (up2 (up2 I 3 w (nI j)) 1 3 (nI (w + 1))) 3 i = (up2 I 72 w (nI j)) 72 i ∧ vb c ((up2 I 3 w (nI j)) 3 i)
        rw [up2_k _ _ (show 3 ≠ 1 by decide), up2_r, up2_r]
        by_cases q : i = w
        · rw [if_pos q, if_pos q]; exact ⟨rfl, j, hj, rfl⟩
        · rw [if_neg q, if_neg q]; exact rpa i (by omega)
      · intro k hk
        obtain ⟨h, u, g, s, q1, q2, q3⟩ := rtr k hk
        exact ⟨h, u, g, s, q1, by omega, q3⟩
theorem op_8 : am_op8 RI := by
  rintro b I a1 a2 a3 a4 ⟨c, w, p, t, y, d, ln, n, ⟨hb, ⟨⟨hc1, hc2⟩, hst, ⟨hy1, hy2⟩, ⟨hw1, hw2⟩, ⟨hp1, hp2⟩, ⟨ht1, ht2⟩, ⟨hl1, hl2⟩, ⟨hd1, hd2⟩⟩, ⟨rpo, rpa, rho, rvi, rtr, rta, rsa, rbe, rne, rde, rlo, rli, rru⟩⟩, rtp, rmi, rke⟩
  obtain ⟨b1, b2, b3, b4, b5, b6, b7, b8⟩ := id hb
  have no : F_X11_tell_0 I a1 a2 a3 a4 = some (0, I) → F_X12_tell_55 I a1 a2 a3 a4 = some (0, up2 I 55 0 0) → ∃ (r : Int32) (I1 : am_IT) (I2 : am_IT), F_X11_tell_0 I a1 a2 a3 a4 = some (r, I1) ∧ F_X12_tell_55 I1 a1 a2 a3 a4 = some (r, I2) ∧ RI b I2 := fun h1 h2 => ⟨_, I, _, h1, h2, c, w, p, t, y, d, ln, n, ⟨hb, ⟨⟨hc1, hc2⟩, hst, ⟨hy1, hy2⟩, ⟨hw1, hw2⟩, ⟨hp1, hp2⟩, ⟨ht1, ht2⟩, ⟨hl1, hl2⟩, ⟨hd1, hd2⟩⟩, ⟨rpo, rpa, rho, rvi, rtr, rta, rsa, rbe, rne, rde, rlo, rli, rru⟩⟩, rtp, rmi, rke⟩
  rcases gd_cases a1 (n := p) (by omega) with g0 | ⟨g0, j, hj, rfl⟩
  · refine no ?_ ?_
    · unfold F_X11_tell_0; rw [gP1 (n := p) hp1, am_b1_s, g0]; rfl
    · unfold F_X12_tell_55; rw [am_let_s, gP2 (I := up2 I 55 0 0) (n := p) hp2, am_b1_s, g0]; rfl
  · by_cases h2 : a2 = 2
    · subst h2
      rcases gr01 a4 (-9) 9 with g1 | g1
      · refine no ?_ ?_
        · unfold F_X11_tell_0; rw [gP1 (n := p) hp1, am_b1_s, g0, if_neg (by decide), gR1, am_b1_s, g1]; rfl
        · unfold F_X12_tell_55; rw [am_let_s, gP2 (I := up2 I 55 0 0) (n := p) hp2, am_b1_s, g0, if_neg (by decide), gR2, am_b1_s, show gr 2 0 2 = 1 from by decide, if_neg (by decide), if_pos (by decide), gR2, am_b1_s, g1]; rfl
      · refine ⟨1, up2 I 9 j a4, up2 (up2 (up2 I 9 j a4) 55 0 0) 65 j a4, ?_, ?_, c, w, p, t, y, d, ln, n, ⟨hb, ⟨⟨hc1, hc2⟩, hst, ⟨hy1, hy2⟩, ⟨hw1, hw2⟩, ⟨hp1, hp2⟩, ⟨ht1, ht2⟩, ⟨hl1, hl2⟩, ⟨hd1, hd2⟩⟩, ⟨rpo, rpa, rho, rvi, rtr, rta, rsa, ?_, rne, rde, rlo, rli, rru⟩⟩, rtp, rmi, rke⟩
        · unfold F_X11_tell_0; rw [gP1 (n := p) hp1, am_b1_s, g0, if_neg (by decide), gR1, am_b1_s, g1, if_neg (by decide), if_pos rfl, if_pos (am_ix_nI (by omega) (by decide)), am_let_s, nI_clamp (by omega)]
        · unfold F_X12_tell_55; rw [am_let_s, gP2 (I := up2 (up2 I 9 j a4) 55 0 0) (n := p) hp2, am_b1_s, g0, if_neg (by decide), gR2, am_b1_s, show gr 2 0 2 = 1 from by decide, if_neg (by decide), if_pos (by decide), gR2, am_b1_s, g1, if_neg (by decide), am_let_s, if_pos rfl, if_pos (am_ix_nI (by omega) (by decide)), am_let_s, nI_clamp (by omega)]
        · refine ⟨fun i hi => ?_, fun i h1 h2 => ?_⟩
          · show (up2 I 9 j a4) 9 i = (up2 (up2 (up2 I 9 j a4) 55 0 0) 65 j a4) 65 i ∧ v9 ((up2 I 9 j a4) 9 i)
            rw [up2_r, up2_r]
            exact upd_at (P := fun _ x z => x = z ∧ v9 x) (rbe.1 i hi) ⟨rfl, v9_of g1⟩
          · show (up2 I 9 j a4) 9 i = 0
            rw [up2_j _ _ (show i ≠ j by omega)]
            exact rbe.2 i h1 h2
    · by_cases h01 : a2 = 0 ∨ a2 = 1
      · have hle : ¬ (2 : Int32) ≤ a2 := by rcases h01 with rfl | rfl <;> decide
        have h02 : gr a2 0 2 = 1 := by rcases h01 with rfl | rfl <;> decide
        rcases gd_cases a3 (n := c) (by omega) with g2 | ⟨g2, k, hk, rfl⟩
        · refine no ?_ ?_
          · unfold F_X11_tell_0; rw [gP1 (n := p) hp1, am_b1_s, g0, if_neg (by decide), gR1, am_b1_s]
            rcases gr01 a4 (-9) 9 with g1 | g1
            · rw [g1]; rfl
            · rw [g1, if_neg (by decide), if_neg h2, gC1 (n := c) hc1, am_b1_s, g2]
              rcases h01 with rfl | rfl <;> rfl
          · unfold F_X12_tell_55; rw [am_let_s, gP2 (I := up2 I 55 0 0) (n := p) hp2, am_b1_s, g0, if_neg (by decide), gR2, am_b1_s, h02, if_neg (by decide), if_neg hle, gC2 (I := up2 I 55 0 0) (n := c) hc2, am_b1_s, g2]; rfl
        · rcases gr01 a4 (-9) 9 with g1 | g1
          · refine no ?_ ?_
            · unfold F_X11_tell_0; rw [gP1 (n := p) hp1, am_b1_s, g0, if_neg (by decide), gR1, am_b1_s, g1]; rfl
            · unfold F_X12_tell_55; rw [am_let_s, gP2 (I := up2 I 55 0 0) (n := p) hp2, am_b1_s, g0, if_neg (by decide), gR2, am_b1_s, h02, if_neg (by decide), if_neg hle, gC2 (I := up2 I 55 0 0) (n := c) hc2, am_b1_s, g2, if_neg (by decide), gR2, am_b1_s, g1]; rfl
          · have tas : ∀ (q : Nat) (f g : Nat → Int32), rTaste (4 * p) f g → rTaste (4 * p) (fun i => if i = 4 * j + k then a4 else f i) (fun i => if i = 4 * j + k then a4 else g i) := by
              intro _ f g h
              refine ⟨fun i hi => upd_at (P := fun _ x z => x = z ∧ v9 x) (h.1 i hi) ⟨rfl, v9_of g1⟩, fun i h1 h2 => ?_⟩
              show (if i = 4 * j + k then a4 else f i) = 0
              rw [if_neg (by omega)]
              exact h.2 i h1 h2
            have ex : ∀ (K : am_IT) (q : Nat), (fun i => if i = 4 * j + k then a4 else K q i) = (up2 K q (4 * j + k) a4) q := fun K q => by funext i; rw [up2_r]
            rcases h01 with rfl | rfl
            · refine ⟨1, up2 (up2 I 7 (4 * j + k) a4) 8 (4 * j + k) a4, up2 (up2 (up2 (up2 (up2 I 7 (4 * j + k) a4) 8 (4 * j + k) a4) 55 0 0) 63 (4 * j + k) a4) 64 (4 * j + k) a4, ?_, ?_, c, w, p, t, y, d, ln, n, ⟨hb, ⟨⟨hc1, hc2⟩, hst, ⟨hy1, hy2⟩, ⟨hw1, hw2⟩, ⟨hp1, hp2⟩, ⟨ht1, ht2⟩, ⟨hl1, hl2⟩, ⟨hd1, hd2⟩⟩, ⟨rpo, rpa, rho, rvi, rtr, ?_, ?_, rbe, rne, rde, rlo, rli, rru⟩⟩, rtp, rmi, rke⟩
              · unfold F_X11_tell_0; rw [gP1 (n := p) hp1, am_b1_s, g0, if_neg (by decide), gR1, am_b1_s, g1, if_neg (by decide), if_neg h2, if_pos rfl, gC1 (n := c) hc1, am_b1_s, g2, if_neg (by decide), if_pos rfl, ix4, if_pos (am_ix_nI (by omega) (by decide)), am_let_s, nI_clamp (by omega), am_b1_s, if_pos (am_ix_nI (by omega) (by decide)), am_let_s]
              · unfold F_X12_tell_55; rw [am_let_s, gP2 (I := up2 (up2 (up2 I 7 (4 * j + k) a4) 8 (4 * j + k) a4) 55 0 0) (n := p) hp2, am_b1_s, g0, if_neg (by decide), gR2, am_b1_s, h02, if_neg (by decide), if_neg hle, gC2 (I := up2 (up2 (up2 I 7 (4 * j + k) a4) 8 (4 * j + k) a4) 55 0 0) (n := c) hc2, am_b1_s, g2, if_neg (by decide), gR2, am_b1_s, g1, if_neg (by decide), am_let_s, if_neg h2, if_pos rfl, ix4', if_pos (am_ix_nI (by omega) (by decide)), am_let_s, nI_clamp (by omega), am_b1_s, if_pos (am_ix_nI (by omega) (by decide)), am_let_s]
              · have := tas 0 _ _ rta
                rw [ex I 7, ex I 63] at this
                exact this
              · have := tas 0 _ _ rsa
                rw [ex I 8, ex I 64] at this
                exact this
            · refine ⟨1, up2 I 8 (4 * j + k) a4, up2 (up2 (up2 I 8 (4 * j + k) a4) 55 0 0) 64 (4 * j + k) a4, ?_, ?_, c, w, p, t, y, d, ln, n, ⟨hb, ⟨⟨hc1, hc2⟩, hst, ⟨hy1, hy2⟩, ⟨hw1, hw2⟩, ⟨hp1, hp2⟩, ⟨ht1, ht2⟩, ⟨hl1, hl2⟩, ⟨hd1, hd2⟩⟩, ⟨rpo, rpa, rho, rvi, rtr, rta, ?_, rbe, rne, rde, rlo, rli, rru⟩⟩, rtp, rmi, rke⟩
              · unfold F_X11_tell_0; rw [gP1 (n := p) hp1, am_b1_s, g0, if_neg (by decide), gR1, am_b1_s, g1, if_neg (by decide), if_neg h2, if_neg (by decide), if_pos rfl, gC1 (n := c) hc1, am_b1_s, g2, if_neg (by decide), if_neg (by decide), am_b1_s, ix4, if_pos (am_ix_nI (by omega) (by decide)), am_let_s, nI_clamp (by omega)]
              · unfold F_X12_tell_55; rw [am_let_s, gP2 (I := up2 (up2 I 8 (4 * j + k) a4) 55 0 0) (n := p) hp2, am_b1_s, g0, if_neg (by decide), gR2, am_b1_s, h02, if_neg (by decide), if_neg hle, gC2 (I := up2 (up2 I 8 (4 * j + k) a4) 55 0 0) (n := c) hc2, am_b1_s, g2, if_neg (by decide), gR2, am_b1_s, g1, if_neg (by decide), am_let_s, if_neg h2, if_neg (by decide), am_b1_s, ix4', if_pos (am_ix_nI (by omega) (by decide)), am_let_s, nI_clamp (by omega)]
              · have := tas 0 _ _ rsa
                rw [ex I 8, ex I 64] at this
                exact this
      · have h0 : ¬ a2 = 0 := fun h => h01 (Or.inl h)
        have h1 : ¬ a2 = 1 := fun h => h01 (Or.inr h)
        have hg : gr a2 0 2 = 0 := by
          rcases gr_cases a2 (m := 2) (n := 2) rfl (by decide) with g | ⟨g, i, hi, rfl⟩
          · exact g
          · rcases (show i = 0 ∨ i = 1 ∨ i = 2 by omega) with rfl | rfl | rfl
            · exact absurd rfl h0
            · exact absurd rfl h1
            · exact absurd rfl h2
        refine no ?_ ?_
        · unfold F_X11_tell_0; rw [gP1 (n := p) hp1, am_b1_s, g0, if_neg (by decide), gR1, am_b1_s, if_neg h2, if_neg h0, if_neg h1]
          rcases gr01 a4 (-9) 9 with g1 | g1 <;> rw [g1] <;> rfl
        · unfold F_X12_tell_55; rw [am_let_s, gP2 (I := up2 I 55 0 0) (n := p) hp2, am_b1_s, g0, if_neg (by decide), gR2, am_b1_s, hg]; rfl
