/-! text: RI with another rule -/
def tR9 (K Q : am_IT) (ln sc x y : Int32) : am_IT := tF9 (up2 (up2 (up2 (st2 (st2 (st2 (st2 (st2 (st2 (st2 (st2 K 12 (Q 12)) 13 (Q 13)) 14 (Q 14)) 75 (Q 75)) 76 (Q 76)) 77 (Q 77)) 78 (Q 78)) 79 (Q 79)) 11 0 ln) 11 1 sc) 55 32 ln) x y
theorem RI_tr {b : Bool} {K Q : am_IT} {ln : Nat} {sc : Int32} (x y : Int32) (h : RI b K) (hl : ln ≤ 16) (hr : rRule ln sc (Q 12) (Q 13) (Q 14) (Q 75) (Q 76) (Q 77) (Q 78) (Q 79)) : RI b (tR9 K Q (nI ln) sc x y) := by
  obtain ⟨c, w, p, t, yy, d, l0, n, ⟨hb, ⟨s1, s2, s3, s4, s5, s6, s7, s8⟩, ⟨rpo, rpa, rho, rvi, rtr, rta, rsa, rbe, rne, rde, rlo, rli, rru⟩⟩, rtp, ⟨m1, m2, m3, m4⟩, rke⟩ := h
  refine ⟨c, w, p, t, yy, d, ln, 0, ⟨⟨hb.1, hb.2.1, hb.2.2.1, hb.2.2.2.1, hb.2.2.2.2.1, hb.2.2.2.2.2.1, hb.2.2.2.2.2.2.1, hl⟩, ⟨s1, s2, s3, s4, s5, s6, ⟨rfl, rfl⟩, s8⟩, ⟨rpo, rpa, rho, rvi, rtr, rta, rsa, rbe, rne, rde, rlo, rli, hr⟩⟩, ⟨by decide, rfl, rfl, fun j hj => by omega⟩, ⟨⟨rfl, rfl⟩, m2, m3, m4⟩, rke⟩
theorem tR_sm {I J : am_IT} {ln sc x y : Int32} (h : ∀ a j, mt a j = true → ¬ six9 a j → a ≠ 12 → a ≠ 13 → a ≠ 14 → (a < 75 ∨ 79 < a) → ¬ (a = 55 ∧ j = 32) → ¬ (a = 11 ∧ j = 0) → ¬ (a = 11 ∧ j = 1) → J a j = I a j) (h0 : J 0 9 = 0) (h26 : J 55 26 = 0) (h10 : J 0 10 = x) (h44 : J 55 44 = x) (h11 : J 0 11 = y) (h45 : J 55 45 = y) (l0 : J 11 0 = ln) (l1 : J 11 1 = sc) (l32 : J 55 32 = ln) : sm (tR9 I J ln sc x y) J := by
  intro a j m
  unfold tR9 tF9
  by_cases c1 : a = 55 ∧ j = 45
  · obtain ⟨rfl, rfl⟩ := c1; rw [up2_s]; exact h45
  · rw [up2_i66 c1]
    by_cases c2 : a = 55 ∧ j = 44
    · obtain ⟨rfl, rfl⟩ := c2; rw [up2_s]; exact h44
    · rw [up2_i66 c2]
      by_cases c3 : a = 55 ∧ j = 26
      · obtain ⟨rfl, rfl⟩ := c3; rw [up2_s]; exact h26
      · rw [up2_i66 c3]
        by_cases c4 : a = 0 ∧ j = 11
        · obtain ⟨rfl, rfl⟩ := c4; rw [up2_s]; exact h11
        · rw [up2_i66 c4]
          by_cases c5 : a = 0 ∧ j = 10
          · obtain ⟨rfl, rfl⟩ := c5; rw [up2_s]; exact h10
          · rw [up2_i66 c5]
            by_cases c6 : a = 0 ∧ j = 9
            · obtain ⟨rfl, rfl⟩ := c6; rw [up2_s]; exact h0
            · rw [up2_i66 c6]
              by_cases c7 : a = 55 ∧ j = 32
              · obtain ⟨rfl, rfl⟩ := c7; rw [up2_s]; exact l32
              · rw [up2_i66 c7]
                by_cases c8 : a = 11 ∧ j = 1
                · obtain ⟨rfl, rfl⟩ := c8; rw [up2_s]; exact l1
                · rw [up2_i66 c8]
                  by_cases c9 : a = 11 ∧ j = 0
                  · obtain ⟨rfl, rfl⟩ := c9; rw [up2_s]; exact l0
                  · rw [up2_i66 c9]
                    by_cases d : a = 12 ∨ a = 13 ∨ a = 14 ∨ a = 75 ∨ a = 76 ∨ a = 77 ∨ a = 78 ∨ a = 79
                    · rcases d with rfl | rfl | rfl | rfl | rfl | rfl | rfl | rfl <;> rfl
                    · have e : (st2 (st2 (st2 (st2 (st2 (st2 (st2 (st2 I 12 (J 12)) 13 (J 13)) 14 (J 14)) 75 (J 75)) 76 (J 76)) 77 (J 77)) 78 (J 78)) 79 (J 79)) a j = I a j := by
                        unfold st2
                        rw [if_neg (by omega), if_neg (by omega), if_neg (by omega), if_neg (by omega), if_neg (by omega), if_neg (by omega), if_neg (by omega), if_neg (by omega)]
                      rw [e]
                      exact h a j m (fun z => by unfold six9 at z; omega) (by omega) (by omega) (by omega) (by omega) c7 c9 c8
