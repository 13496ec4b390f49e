/-! text: the tape empty, the fault anew -/
def tF9 (K : am_IT) (x y : Int32) : am_IT := up2 (up2 (up2 (up2 (up2 (up2 K 0 9 0) 0 10 x) 0 11 y) 55 26 0) 55 44 x) 55 45 y
theorem RI_tf {b : Bool} {K : am_IT} (x y : Int32) (h : RI b K) : RI b (tF9 K x y) := by
  obtain ⟨c, w, p, t, yy, d, ln, n, ⟨hb, hs, hr⟩, rtp, ⟨m1, m2, m3, m4⟩, rke⟩ := h
  exact ⟨c, w, p, t, yy, d, ln, 0, ⟨hb, hs, hr⟩, ⟨by decide, rfl, rfl, fun j hj => by omega⟩, ⟨⟨rfl, rfl⟩, m2, m3, m4⟩, rke⟩
def six9 (a j : Nat) : Prop := (a = 0 ∧ (j = 9 ∨ j = 10 ∨ j = 11)) ∨ (a = 55 ∧ (j = 26 ∨ j = 44 ∨ j = 45))
theorem RI_ff {b : Bool} {I J : am_IT} (h : ∀ a j, mt a j = true → ¬ six9 a j → J a j = I a j) (h1 : J 0 9 = 0) (h2 : J 55 26 = 0) (h3 : J 0 10 = J 55 44) (h4 : J 0 11 = J 55 45) (hR : RI b I) : RI b J := by
  have key : RI b (tF9 (up2 (up2 (up2 (up2 (up2 (up2 J 0 9 (I 0 9)) 0 10 (I 0 10)) 0 11 (I 0 11)) 55 26 (I 55 26)) 55 44 (I 55 44)) 55 45 (I 55 45)) (J 0 10) (J 0 11)) := by
    refine RI_tf _ _ (RI_sm (fun a j m => ?_) hR)
    unfold up2
    by_cases c1 : a = 55 ∧ j = 45
    · rw [if_pos c1, c1.1, c1.2]
    · rw [if_neg c1]
      by_cases c2 : a = 55 ∧ j = 44
      · rw [if_pos c2, c2.1, c2.2]
      · rw [if_neg c2]
        by_cases c3 : a = 55 ∧ j = 26
        · rw [if_pos c3, c3.1, c3.2]
        · rw [if_neg c3]
          by_cases c4 : a = 0 ∧ j = 11
          · rw [if_pos c4, c4.1, c4.2]
          · rw [if_neg c4]
            by_cases c5 : a = 0 ∧ j = 10
            · rw [if_pos c5, c5.1, c5.2]
            · rw [if_neg c5]
              by_cases c6 : a = 0 ∧ j = 9
              · rw [if_pos c6, c6.1, c6.2]
              · rw [if_neg c6]
                exact h a j m (fun z => by unfold six9 at z; omega)
  have e : tF9 (up2 (up2 (up2 (up2 (up2 (up2 J 0 9 (I 0 9)) 0 10 (I 0 10)) 0 11 (I 0 11)) 55 26 (I 55 26)) 55 44 (I 55 44)) 55 45 (I 55 45)) (J 0 10) (J 0 11) = J := by
    funext a j
    unfold tF9 up2
    by_cases c1 : a = 55 ∧ j = 45
    · rw [if_pos c1, c1.1, c1.2, h4]
    · by_cases c2 : a = 55 ∧ j = 44
      · rw [if_neg c1, if_pos c2, c2.1, c2.2, h3]
      · by_cases c3 : a = 55 ∧ j = 26
        · rw [if_neg c1, if_neg c2, if_pos c3, c3.1, c3.2, h2]
        · by_cases c4 : a = 0 ∧ j = 11
          · rw [if_neg c1, if_neg c2, if_neg c3, if_pos c4, c4.1, c4.2]
          · by_cases c5 : a = 0 ∧ j = 10
            · rw [if_neg c1, if_neg c2, if_neg c3, if_neg c4, if_pos c5, c5.1, c5.2]
            · by_cases c6 : a = 0 ∧ j = 9
              · rw [if_neg c1, if_neg c2, if_neg c3, if_neg c4, if_neg c5, if_pos c6, c6.1, c6.2, h1]
              · simp only [if_neg c1, if_neg c2, if_neg c3, if_neg c4, if_neg c5, if_neg c6]
  rw [e] at key
  exact key
