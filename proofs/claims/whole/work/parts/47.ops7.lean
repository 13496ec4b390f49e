theorem gd_off (a : Int32) {o m : Int32} {ao p : Nat} (ho : o = nI ao) (hao : ao ≤ 20) (hp : p ≤ 7) (hm : m = nI (ao - 1) + nI p) (h1 : 1 ≤ ao) : gd (a - o) p = gr a o m := by
  have hm2 : m = nI (ao - 1 + p) := by rw [hm, nI_add]
  have tm : m.toInt = ((ao - 1 + p : Nat) : Int) := by rw [hm2]; exact nI_toInt (by omega)
  have to : o.toInt = (ao : Int) := by rw [ho]; exact nI_toInt (by omega)
  have tp : (nI p).toInt = (p : Int) := nI_toInt (by omega)
  have lo := Int32.le_toInt a
  have hi := Int32.toInt_lt a
  have ts : (a - o).toInt = (a.toInt - o.toInt).bmod (2 ^ 32) := Int32.toInt_sub a o
  have e0 : (0 : Int32).toInt = 0 := rfl
  unfold gd gr
  by_cases c1 : a < o
  · rw [if_pos c1]
    rw [Int32.lt_iff_toInt_lt] at c1
    by_cases c2 : a - o < 0
    · rw [if_pos c2]
    · rw [if_neg c2]
      rw [Int32.lt_iff_toInt_lt, e0] at c2
      rw [if_pos]
      rw [Int32.le_iff_toInt_le, tp]
      rw [Int.bmod_def] at ts
      split at ts <;> omega
  · rw [if_neg c1]
    rw [Int32.lt_iff_toInt_lt] at c1
    have ts2 : (a - o).toInt = a.toInt - o.toInt := by
      rw [ts, Int.bmod_def]
      split <;> omega
    rw [if_neg (by rw [Int32.lt_iff_toInt_lt, e0, ts2]; omega)]
    by_cases c2 : m < a
    · rw [if_pos c2, if_pos]
      rw [Int32.lt_iff_toInt_lt] at c2
      rw [Int32.le_iff_toInt_le, ts2, tp]
      omega
    · rw [if_neg c2, if_neg]
      rw [Int32.lt_iff_toInt_lt] at c2
      rw [Int32.le_iff_toInt_le, ts2, tp]
      omega
theorem am_out07 {a : Int32} (h0 : ¬ a = 0) (h1 : ¬ a = 1) (h2 : ¬ a = 2) (h3 : ¬ a = 3) (h4 : ¬ a = 4) (h5 : ¬ a = 5) (h6 : ¬ a = 6) (h7 : ¬ a = 7) : am_out a 0 7 = true := by
  refine decide_eq_true ?_
  rcases tri a (n := 8) (by decide) with h | ⟨_, h⟩ | ⟨j, hj, rfl, _⟩
  · exact Or.inl (by rw [Int32.lt_iff_toInt_lt] at h; exact h)
  · refine Or.inr ?_
    have := Int32.le_iff_toInt_le.mp h
    rw [nI_toInt (by decide)] at this
    omega
  · rcases (show j = 0 ∨ j = 1 ∨ j = 2 ∨ j = 3 ∨ j = 4 ∨ j = 5 ∨ j = 6 ∨ j = 7 by omega) with rfl | rfl | rfl | rfl | rfl | rfl | rfl | rfl
    · exact absurd rfl h0
    · exact absurd rfl h1
    · exact absurd rfl h2
    · exact absurd rfl h3
    · exact absurd rfl h4
    · exact absurd rfl h5
    · exact absurd rfl h6
    · exact absurd rfl h7
theorem op_33 : am_op33 RI := by
  rintro b I a1  ⟨c, w, p, t, y, d, ln, n, ⟨hb, ⟨⟨hc1, hc2⟩, hst, ⟨hy1, hy2⟩, ⟨hw1, hw2⟩, ⟨hp1, hp2⟩, ⟨ht1, ht2⟩, ⟨hl1, hl2⟩, ⟨hd1, hd2⟩⟩, ⟨rpo, rpa, rho, rvi, rtr, rta, rsa, rbe, rne, rde, rlo, rli, rru⟩⟩, rtp, rmi, rke⟩
  obtain ⟨b1, b2, b3, b4, b5, b6, b7, b8⟩ := id hb
  by_cases q0 : a1 = 0
  · refine ⟨I 1 0, up2 I 55 0 0, ?_, ?_, c, w, p, t, y, d, ln, n, ⟨hb, ⟨⟨hc1, hc2⟩, hst, ⟨hy1, hy2⟩, ⟨hw1, hw2⟩, ⟨hp1, hp2⟩, ⟨ht1, ht2⟩, ⟨hl1, hl2⟩, ⟨hd1, hd2⟩⟩, ⟨rpo, rpa, rho, rvi, rtr, rta, rsa, rbe, rne, rde, rlo, rli, rru⟩⟩, rtp, rmi, rke⟩
    · unfold F_X11_look_0; rw [if_pos q0]
    · unfold F_X12_look_55; rw [am_let_s, if_pos q0]; rw [show (up2 I 55 0 0) 55 2 = I 1 0 from hc2.trans hc1.symm]
  · skip
    by_cases q1 : a1 = 1
    · refine ⟨I 1 3, up2 I 55 0 0, ?_, ?_, c, w, p, t, y, d, ln, n, ⟨hb, ⟨⟨hc1, hc2⟩, hst, ⟨hy1, hy2⟩, ⟨hw1, hw2⟩, ⟨hp1, hp2⟩, ⟨ht1, ht2⟩, ⟨hl1, hl2⟩, ⟨hd1, hd2⟩⟩, ⟨rpo, rpa, rho, rvi, rtr, rta, rsa, rbe, rne, rde, rlo, rli, rru⟩⟩, rtp, rmi, rke⟩
      · unfold F_X11_look_0; rw [if_neg q0, if_pos q1]
      · unfold F_X12_look_55; rw [am_let_s, if_neg q0, if_pos q1]; rw [show (up2 I 55 0 0) 55 4 = I 1 3 from hw2.trans hw1.symm]
    · skip
      by_cases q2 : a1 = 2
      · refine ⟨I 1 4, up2 I 55 0 0, ?_, ?_, c, w, p, t, y, d, ln, n, ⟨hb, ⟨⟨hc1, hc2⟩, hst, ⟨hy1, hy2⟩, ⟨hw1, hw2⟩, ⟨hp1, hp2⟩, ⟨ht1, ht2⟩, ⟨hl1, hl2⟩, ⟨hd1, hd2⟩⟩, ⟨rpo, rpa, rho, rvi, rtr, rta, rsa, rbe, rne, rde, rlo, rli, rru⟩⟩, rtp, rmi, rke⟩
        · unfold F_X11_look_0; rw [if_neg q0, if_neg q1, if_pos q2]
        · unfold F_X12_look_55; rw [am_let_s, if_neg q0, if_neg q1, if_pos q2]; rw [show (up2 I 55 0 0) 55 5 = I 1 4 from hp2.trans hp1.symm]
      · skip
        by_cases q3 : a1 = 3
        · refine ⟨I 1 5, up2 I 55 0 0, ?_, ?_, c, w, p, t, y, d, ln, n, ⟨hb, ⟨⟨hc1, hc2⟩, hst, ⟨hy1, hy2⟩, ⟨hw1, hw2⟩, ⟨hp1, hp2⟩, ⟨ht1, ht2⟩, ⟨hl1, hl2⟩, ⟨hd1, hd2⟩⟩, ⟨rpo, rpa, rho, rvi, rtr, rta, rsa, rbe, rne, rde, rlo, rli, rru⟩⟩, rtp, rmi, rke⟩
          · unfold F_X11_look_0; rw [if_neg q0, if_neg q1, if_neg q2, if_pos q3]
          · unfold F_X12_look_55; rw [am_let_s, if_neg q0, if_neg q1, if_neg q2, if_pos q3]; rw [show (up2 I 55 0 0) 55 8 = I 1 5 from ht2.trans ht1.symm]
        · skip
          by_cases q4 : a1 = 4
          · refine ⟨I 11 0, up2 I 55 0 0, ?_, ?_, c, w, p, t, y, d, ln, n, ⟨hb, ⟨⟨hc1, hc2⟩, hst, ⟨hy1, hy2⟩, ⟨hw1, hw2⟩, ⟨hp1, hp2⟩, ⟨ht1, ht2⟩, ⟨hl1, hl2⟩, ⟨hd1, hd2⟩⟩, ⟨rpo, rpa, rho, rvi, rtr, rta, rsa, rbe, rne, rde, rlo, rli, rru⟩⟩, rtp, rmi, rke⟩
            · unfold F_X11_look_0; rw [if_neg q0, if_neg q1, if_neg q2, if_neg q3, if_pos q4]
            · unfold F_X12_look_55; rw [am_let_s, if_neg q0, if_neg q1, if_neg q2, if_neg q3, if_pos q4]; rw [show (up2 I 55 0 0) 55 32 = I 11 0 from hl2.trans hl1.symm]
          · skip
            by_cases q5 : a1 = 5
            · refine ⟨I 1 2, up2 I 55 0 0, ?_, ?_, c, w, p, t, y, d, ln, n, ⟨hb, ⟨⟨hc1, hc2⟩, hst, ⟨hy1, hy2⟩, ⟨hw1, hw2⟩, ⟨hp1, hp2⟩, ⟨ht1, ht2⟩, ⟨hl1, hl2⟩, ⟨hd1, hd2⟩⟩, ⟨rpo, rpa, rho, rvi, rtr, rta, rsa, rbe, rne, rde, rlo, rli, rru⟩⟩, rtp, rmi, rke⟩
              · unfold F_X11_look_0; rw [if_neg q0, if_neg q1, if_neg q2, if_neg q3, if_neg q4, if_pos q5]
              · unfold F_X12_look_55; rw [am_let_s, if_neg q0, if_neg q1, if_neg q2, if_neg q3, if_neg q4, if_pos q5]; rw [show (up2 I 55 0 0) 55 13 = I 1 2 from hy2.trans hy1.symm]
            · skip
              by_cases q6 : a1 = 6
              · refine ⟨I 1 1, up2 I 55 0 0, ?_, ?_, c, w, p, t, y, d, ln, n, ⟨hb, ⟨⟨hc1, hc2⟩, hst, ⟨hy1, hy2⟩, ⟨hw1, hw2⟩, ⟨hp1, hp2⟩, ⟨ht1, ht2⟩, ⟨hl1, hl2⟩, ⟨hd1, hd2⟩⟩, ⟨rpo, rpa, rho, rvi, rtr, rta, rsa, rbe, rne, rde, rlo, rli, rru⟩⟩, rtp, rmi, rke⟩
                · unfold F_X11_look_0; rw [if_neg q0, if_neg q1, if_neg q2, if_neg q3, if_neg q4, if_neg q5, if_pos q6]
                · unfold F_X12_look_55; rw [am_let_s, if_neg q0, if_neg q1, if_neg q2, if_neg q3, if_neg q4, if_neg q5, if_pos q6]; rw [show (up2 I 55 0 0) 55 1 = I 1 1 from hst.symm]
              · skip
                by_cases q7 : a1 = 7
                · refine ⟨I 15 0, up2 I 55 0 0, ?_, ?_, c, w, p, t, y, d, ln, n, ⟨hb, ⟨⟨hc1, hc2⟩, hst, ⟨hy1, hy2⟩, ⟨hw1, hw2⟩, ⟨hp1, hp2⟩, ⟨ht1, ht2⟩, ⟨hl1, hl2⟩, ⟨hd1, hd2⟩⟩, ⟨rpo, rpa, rho, rvi, rtr, rta, rsa, rbe, rne, rde, rlo, rli, rru⟩⟩, rtp, rmi, rke⟩
                  · unfold F_X11_look_0; rw [if_neg q0, if_neg q1, if_neg q2, if_neg q3, if_neg q4, if_neg q5, if_neg q6, if_pos q7]
                  · unfold F_X12_look_55; rw [am_let_s, if_neg q0, if_neg q1, if_neg q2, if_neg q3, if_neg q4, if_neg q5, if_neg q6, if_pos q7]; rw [show (up2 I 55 0 0) 55 18 = I 15 0 from hd2.trans hd1.symm]
                · skip
                  have ho := am_out07 q0 q1 q2 q3 q4 q5 q6 q7
                  have e10 : gd (a1 - 10) p = gr a1 10 (9 + nI p) := gd_off a1 (o := 10) (m := 9 + nI p) (ao := 10) rfl (by decide) b4 rfl (by decide)
                  have e20 : gd (a1 - 20) c = gr a1 20 (19 + nI c) := gd_off a1 (o := 20) (m := 19 + nI c) (ao := 20) rfl (by decide) (by omega) rfl (by decide)
                  have fm : F_X12_look_55 I a1 = am_b1 (some (gd (a1 - 10) p)) (fun (r : Int32) => if r = 0 then (am_b1 (some (gd (a1 - 20) c)) (fun (r2 : Int32) => if r2 = 0 then (some ((-1 : Int32), up2 I 55 0 0)) else (if am_ix (a1 - (20 : Int32)) 4 = true then (some (I 56 (a1 - (20 : Int32)).toNatClampNeg, up2 I 55 0 0)) else none))) else (if am_ix (a1 - (10 : Int32)) 7 = true then (some (I 57 (a1 - (10 : Int32)).toNatClampNeg, up2 I 55 0 0)) else none)) := by
                    unfold F_X12_look_55
                    rw [am_let_s, if_neg q0, if_neg q1, if_neg q2, if_neg q3, if_neg q4, if_neg q5, if_neg q6, if_neg q7, gR2, gR2, show (up2 I 55 0 0) 55 5 = nI p from hp2, show (up2 I 55 0 0) 55 2 = nI c from hc2, e10, e20]
                    rfl
                  have fc : F_X11_look_0 I a1 = am_b1 (some (gd (a1 - 10) p)) (fun (r : Int32) => if r = 0 then (am_b1 (some (gd (a1 - 20) c)) (fun (r2 : Int32) => if r2 = 0 then (some (-1 : Int32)) else (if am_ix (a1 - (20 : Int32)) 4 = true then (some (I 2 (a1 - (20 : Int32)).toNatClampNeg)) else none))) else (if am_ix (a1 - (10 : Int32)) 7 = true then (some (I 4 (a1 - (10 : Int32)).toNatClampNeg)) else none)) := by
                    unfold F_X11_look_0
                    rw [if_neg q0, if_neg q1, if_neg q2, if_neg q3, if_neg q4, if_neg q5, if_neg q6, if_neg q7, if_pos ho, gP1 (n := p) hp1, gC1 (n := c) hc1]
                  rcases gd_cases (a1 - 10) (n := p) (by omega) with g | ⟨g, j, hj, ej⟩
                  · rcases gd_cases (a1 - 20) (n := c) (by omega) with g2 | ⟨g2, k, hk, ek⟩
                    · exact ⟨-1, up2 I 55 0 0, by rw [fc, g, g2]; rfl, by rw [fm, g, g2]; rfl, c, w, p, t, y, d, ln, n, ⟨hb, ⟨⟨hc1, hc2⟩, hst, ⟨hy1, hy2⟩, ⟨hw1, hw2⟩, ⟨hp1, hp2⟩, ⟨ht1, ht2⟩, ⟨hl1, hl2⟩, ⟨hd1, hd2⟩⟩, ⟨rpo, rpa, rho, rvi, rtr, rta, rsa, rbe, rne, rde, rlo, rli, rru⟩⟩, rtp, rmi, rke⟩
                    · refine ⟨I 2 k, up2 I 55 0 0, ?_, ?_, c, w, p, t, y, d, ln, n, ⟨hb, ⟨⟨hc1, hc2⟩, hst, ⟨hy1, hy2⟩, ⟨hw1, hw2⟩, ⟨hp1, hp2⟩, ⟨ht1, ht2⟩, ⟨hl1, hl2⟩, ⟨hd1, hd2⟩⟩, ⟨rpo, rpa, rho, rvi, rtr, rta, rsa, rbe, rne, rde, rlo, rli, rru⟩⟩, rtp, rmi, rke⟩
                      · rw [fc, g, g2, am_b1_s, if_pos rfl, am_b1_s, if_neg (by decide), ek, if_pos (am_ix_nI (by omega) (by decide)), nI_clamp (by omega)]
                      · rw [fm, g, g2, am_b1_s, if_pos rfl, am_b1_s, if_neg (by decide), ek, if_pos (am_ix_nI (by omega) (by decide)), nI_clamp (by omega), (rpo k (by omega)).1]
                  · refine ⟨I 4 j, up2 I 55 0 0, ?_, ?_, c, w, p, t, y, d, ln, n, ⟨hb, ⟨⟨hc1, hc2⟩, hst, ⟨hy1, hy2⟩, ⟨hw1, hw2⟩, ⟨hp1, hp2⟩, ⟨ht1, ht2⟩, ⟨hl1, hl2⟩, ⟨hd1, hd2⟩⟩, ⟨rpo, rpa, rho, rvi, rtr, rta, rsa, rbe, rne, rde, rlo, rli, rru⟩⟩, rtp, rmi, rke⟩
                    · rw [fc, g, am_b1_s, if_neg (by decide), ej, if_pos (am_ix_nI (by omega) (by decide)), nI_clamp (by omega)]
                    · rw [fm, g, am_b1_s, if_neg (by decide), ej, if_pos (am_ix_nI (by omega) (by decide)), nI_clamp (by omega), (rho.1 j hj).1]
