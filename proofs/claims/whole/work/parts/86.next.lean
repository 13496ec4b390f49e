/-! the next painting in order -/
theorem nd_1 {n b : Nat} (hb : 0 < b) (h : (n + 1) % b = 0) : (n + 1) / b = n / b + 1 := by
  have h1 := Nat.div_add_mod (n + 1) b
  rw [h, Nat.add_zero] at h1
  generalize (n + 1) / b = q at h1
  cases q with
  | zero => rw [Nat.mul_zero] at h1; omega
  | succ q =>
    have h2 : b * (q + 1) = b * q + b := Nat.mul_succ b q
    have h3 : n / b = q := Nat.div_eq_of_lt_le (by rw [Nat.mul_comm]; omega) (by rw [Nat.mul_comm, Nat.mul_succ]; omega)
    omega
theorem nd_2 {q c : Nat} (hc : 0 < c) (h : q % c + 1 < c) : (q + 1) / c = q / c ∧ (q + 1) % c = q % c + 1 := by
  have h1 := Nat.div_add_mod q c
  have h2 : (q + 1) / c = q / c := Nat.div_eq_of_lt_le (by rw [Nat.mul_comm]; omega) (by rw [Nat.mul_comm, Nat.mul_succ]; omega)
  refine ⟨h2, ?_⟩
  have h3 := Nat.div_add_mod (q + 1) c
  rw [h2] at h3
  omega
theorem dg_nx {c w n s u : Nat} (hc : 0 < c) (hs : s < w) (hu : u < w) (h0 : (n + 1) % c ^ s = 0) (hd : n / c ^ s % c + 1 < c) : dg c w (n + 1) u = if u = w - 1 - s then n / c ^ s % c + 1 else if u < w - 1 - s then dg c w n u else 0 := by
  have hp : 0 < c ^ s := Nat.pow_pos hc
  have e1 := nd_1 hp h0
  obtain ⟨e2, e3⟩ := nd_2 hc hd
  unfold dg
  by_cases z : u = w - 1 - s
  · rw [if_pos z, show w - 1 - u = s by omega, e1, e3]
  · rw [if_neg z]
    by_cases z2 : u < w - 1 - s
    · rw [if_pos z2, show w - 1 - u = s + (1 + (w - 1 - u - s - 1)) by omega, Nat.pow_add, ← Nat.div_div_eq_div_mul, ← Nat.div_div_eq_div_mul, Nat.pow_add, Nat.pow_one, ← Nat.div_div_eq_div_mul, ← Nat.div_div_eq_div_mul, e1, e2]
    · rw [if_neg z2]
      have h1 := Nat.div_add_mod (n + 1) (c ^ s)
      rw [h0, Nat.add_zero] at h1
      rw [← h1, show s = (w - 1 - u) + (1 + (s - 1 - (w - 1 - u))) by omega, Nat.pow_add, Nat.mul_assoc, Nat.mul_div_cancel_left _ (Nat.pow_pos hc), Nat.pow_add, Nat.pow_one, Nat.mul_assoc, Nat.mul_mod_right]
theorem dg_md {c n s : Nat} (hc : 0 < c) (h0 : (n + 1) % c ^ s = 0) (hd : n / c ^ s % c + 1 = c) : (n + 1) % c ^ (s + 1) = 0 := by
  have hp : 0 < c ^ s := Nat.pow_pos hc
  have e1 := nd_1 hp h0
  have h1 := Nat.div_add_mod (n + 1) (c ^ s)
  rw [h0, Nat.add_zero, e1] at h1
  have h2 := Nat.div_add_mod (n / c ^ s) c
  have h3 : n / c ^ s + 1 = c * (n / c ^ s / c + 1) := by rw [Nat.mul_succ]; omega
  rw [← h1, h3, Nat.pow_succ, ← Nat.mul_assoc, Nat.mul_mod_right]
theorem e_tn {D : am_IT} {c w n : Nat} (hc2 : 2 ≤ c) (hc : c ≤ 4) (hw : w ≤ 7) (w2 : D 55 4 = nI w) (c2 : D 55 2 = nI c) (hn : n < c ^ w) (hd : ∀ u, u < w → D 72 (21 + u) = nI (dg c w n u)) :
    ∃ E, F_X12_triesNext_55 D = some (if n + 1 < c ^ w then 1 else 0, E) ∧ (n + 1 < c ^ w → ∀ u, u < w → E 72 (21 + u) = nI (dg c w (n + 1) u)) ∧ (∀ a, a ≠ 72 → E a = D a) ∧ ∀ j, j < 21 → E 72 j = D 72 j := by
  have hc0 : 0 < c := by omega
  unfold F_X12_triesNext_55
  rw [am_let_s, w2]
  refine it_lr_ex (R := fun z => ∃ E : am_IT, z = some (if n + 1 < c ^ w then 1 else 0, E) ∧ (n + 1 < c ^ w → ∀ u, u < w → E 72 (21 + u) = nI (dg c w (n + 1) u)) ∧ (∀ a, a ≠ 72 → E a = D a) ∧ ∀ j, j < 21 → E 72 j = D 72 j)
    (fun s x => ∃ L : am_IT, x = (if s = w then -1 else nI (w - 1 - s), L) ∧ (n + 1) % c ^ s = 0 ∧ (∀ u, u < w → L 72 (21 + u) = nI (if u < w - s then dg c w n u else 0)) ∧ (∀ a, a ≠ 72 → L a = D a) ∧ ∀ j, j < 21 → L 72 j = D 72 j)
    (fun e => (∃ L : am_IT, e = .inl L ∧ c ^ w ≤ n + 1 ∧ (∀ a, a ≠ 72 → L a = D a) ∧ ∀ j, j < 21 → L 72 j = D 72 j) ∨ (∃ L : am_IT, e = .inr ((1 : Int32), L) ∧ n + 1 < c ^ w ∧ (∀ u, u < w → L 72 (21 + u) = nI (dg c w (n + 1) u)) ∧ (∀ a, a ≠ 72 → L a = D a) ∧ ∀ j, j < 21 → L 72 j = D 72 j)) (n := w) (by omega) ?_ ?_ ⟨D, ?_, by rw [Nat.pow_zero, Nat.mod_one], fun u hu => by rw [if_pos (show u < w - 0 by omega)]; exact hd u hu, fun _ _ => rfl, fun _ _ => rfl⟩ ?_
  · rintro s x hs ⟨L, rfl, l0, l1, l2, l3⟩
    have hp : 0 < c ^ s := Nat.pow_pos hc0
    have hdl : dg c w n (w - 1 - s) < c := dg_lt hc0
    have ed : dg c w n (w - 1 - s) = n / c ^ s % c := by unfold dg; rw [show w - 1 - (w - 1 - s) = s by omega]
    have e21 : (21 : Int32) + nI (w - 1 - s) = nI (21 + (w - 1 - s)) := nI_add 21 _
    have hx : am_ix (nI (21 + (w - 1 - s))) 35 = true := am_ix_nI (by omega) (by decide)
    have lv : L 72 (21 + (w - 1 - s)) = nI (dg c w n (w - 1 - s)) := by rw [l1 _ (by omega), if_pos (by omega)]
    have c2' : ∀ v : Int32, (up2 L 72 (21 + (w - 1 - s)) v) 55 2 = nI c := fun v => by rw [up2_k _ _ (by decide), l2 55 (by decide)]; exact c2
    rw [if_neg (show ¬ s = w by omega)]
    by_cases z : c ≤ dg c w n (w - 1 - s) + 1
    · refine Or.inl ⟨(if s + 1 = w then -1 else nI (w - 1 - (s + 1)), up2 (up2 L 72 (21 + (w - 1 - s)) (nI (dg c w n (w - 1 - s) + 1))) 72 (21 + (w - 1 - s)) 0), ?_, _, rfl, dg_md hc0 l0 (by omega), ?_, ?_, ?_⟩
      · rw [am_u2_s, if_neg (nI_pos (by omega)), e21, if_pos hx, if_pos hx, nI_clamp (by omega), lv, nI_1, am_let_s, if_pos hx, c2', up2_s, if_pos (nI_le z (by omega)), if_pos hx, am_let_s, am_let_s]
        by_cases z1 : s + 1 = w
        · rw [if_pos z1, show w - 1 - s = 0 by omega]; rfl
        · rw [if_neg z1, show w - 1 - s = (w - 1 - (s + 1)) + 1 by omega, pk_m1]
      · intro u hu
        rw [up2_r, up2_r]
        by_cases z1 : u = w - 1 - s
        · rw [if_pos (by omega), if_neg (show ¬ u < w - (s + 1) by omega)]; rfl
        · rw [if_neg (by omega), if_neg (by omega), l1 u hu]
          by_cases z2 : u < w - s
          · rw [if_pos z2, if_pos (show u < w - (s + 1) by omega)]
          · rw [if_neg z2, if_neg (show ¬ u < w - (s + 1) by omega)]
      · intro a ha
        rw [up2_k _ _ ha, up2_k _ _ ha]; exact l2 a ha
      · intro j hj
        rw [up2_j _ _ (by omega), up2_j _ _ (by omega)]; exact l3 j hj
    · have hd' : n / c ^ s % c + 1 < c := by omega
      refine Or.inr ⟨.inr (1, up2 L 72 (21 + (w - 1 - s)) (nI (dg c w n (w - 1 - s) + 1))), ?_, Or.inr ⟨_, rfl, ?_, ?_, ?_, ?_⟩⟩
      · rw [am_u2_s, if_neg (nI_pos (by omega)), e21, if_pos hx, if_pos hx, nI_clamp (by omega), lv, nI_1, am_let_s, if_pos hx, c2', up2_s, if_neg (nI_ge (show dg c w n (w - 1 - s) + 1 < c by omega) (by omega))]
      · rcases Nat.lt_or_ge (n + 1) (c ^ w) with h | h
        · exact h
        · exfalso
          have hN : n + 1 = c ^ w := by omega
          obtain ⟨e2, e3⟩ := nd_2 hc0 hd'
          rw [← nd_1 hp l0, hN, show w = s + (1 + (w - s - 1)) by omega, Nat.pow_add, Nat.mul_div_cancel_left _ hp, Nat.pow_add, Nat.pow_one, Nat.mul_mod_right] at e3
          omega
      · intro u hu
        rw [dg_nx hc0 hs hu l0 hd', up2_r]
        by_cases z1 : u = w - 1 - s
        · rw [if_pos (by omega), if_pos z1, ed]
        · rw [if_neg (by omega), if_neg z1, l1 u hu]
          by_cases z2 : u < w - 1 - s
          · rw [if_pos z2, if_pos (show u < w - s by omega)]
          · rw [if_neg z2, if_neg (show ¬ u < w - s by omega)]
      · intro a ha
        rw [up2_k _ _ ha]; exact l2 a ha
      · intro j hj
        rw [up2_j _ _ (by omega)]; exact l3 j hj
  · rintro x ⟨L, rfl, l0, l1, l2, l3⟩
    refine ⟨.inl L, by rw [if_pos rfl, am_u2_s, if_pos (show (-1 : Int32) < 0 by decide)], Or.inl ⟨L, rfl, ?_, l2, l3⟩⟩
    rcases Nat.lt_or_ge (n + 1) (c ^ w) with h | h
    · rw [Nat.mod_eq_of_lt h] at l0; omega
    · exact h
  · by_cases z : 0 = w
    · rw [if_pos z, ← z]; rfl
    · rw [if_neg z, show w = (w - 1 - 0) + 1 by omega, nI_dec]
      rfl
  · rintro e (⟨L, rfl, h1, h2, h3⟩ | ⟨L, rfl, h1, h2, h3, h4⟩)
    · exact ⟨L, by rw [am_lr_l, if_neg (by omega)], fun h => by omega, h2, h3⟩
    · exact ⟨L, by rw [am_lr_r, if_pos h1], fun _ => h2, h3, h4⟩
