/-- who lives there -/
def lvF (F : Nat → Int32) (a : Int32) : Nat → Nat → Int32
  | _, 0 => -1
  | i, m + 1 => if F i = a then nI i else lvF F a (i + 1) m
theorem lvF_congr {F G : Nat → Int32} (a : Int32) : ∀ (m i : Nat), (∀ j, i ≤ j → j < i + m → F j = G j) → lvF F a i m = lvF G a i m
  | 0, _, _ => rfl
  | m + 1, i, h => by
    unfold lvF
    rw [h i (Nat.le_refl _) (by omega), lvF_congr a m (i + 1) (fun j h1 h2 => h j (by omega) (by omega))]
theorem lvF_spec (F : Nat → Int32) (a : Int32) : ∀ (m i : Nat), (lvF F a i m = -1 ∧ ∀ j, i ≤ j → j < i + m → F j ≠ a) ∨ (∃ j, i ≤ j ∧ j < i + m ∧ F j = a ∧ lvF F a i m = nI j)
  | 0, i => Or.inl ⟨rfl, fun j h1 h2 => by omega⟩
  | m + 1, i => by
    unfold lvF
    by_cases h : F i = a
    · rw [if_pos h]
      exact Or.inr ⟨i, Nat.le_refl _, by omega, h, rfl⟩
    · rw [if_neg h]
      rcases lvF_spec F a m (i + 1) with ⟨h1, h2⟩ | ⟨j, h1, h2, h3, h4⟩
      · refine Or.inl ⟨h1, fun j q1 q2 => ?_⟩
        by_cases q : j = i
        · rw [q]; exact h
        · exact h2 j (by omega) (by omega)
      · exact Or.inr ⟨j, by omega, by omega, h3, h4⟩
theorem lv_loop (F : Nat → Int32) (a : Int32) {p : Nat} (hp : p ≤ 7) : ∀ (m i fu : Nat), i + m = p → m < fu → am_lr (am_it fu (fun (l : Int32) => if nI p ≤ l then (some (.inr (.inl (0 : Int32))) : Option (Int32 ⊕ (Int32 ⊕ Int32))) else (if am_ix l 7 = true then (if F l.toNatClampNeg = a then (some (.inr (.inr l))) else (am_let (l + 1) (fun (l1 : Int32) => some (.inl l1)))) else none)) (nI i)) (fun (_ : Int32) => some (-1 : Int32)) = some (lvF F a i m)
  | 0, i, 0, _, h => by omega
  | m + 1, i, 0, _, h => by omega
  | 0, i, fu + 1, h, _ => by
    rw [am_it_e (e := .inl 0) (by rw [if_pos (nI_le (by omega) (by omega))])]
    rfl
  | m + 1, i, fu + 1, h, h2 => by
    unfold lvF
    by_cases q : F i = a
    · rw [am_it_e (e := .inr (nI i)) (by rw [if_neg (nI_ge (by omega) (by omega)), if_pos (am_ix_nI (by omega) (by decide)), nI_clamp (by omega), if_pos q]), if_pos q]
      rfl
    · rw [am_it_l (y := nI (i + 1)) (by rw [if_neg (nI_ge (by omega) (by omega)), if_pos (am_ix_nI (by omega) (by decide)), nI_clamp (by omega), if_neg q, am_let_s, nI_1]), if_neg q]
      exact lv_loop F a hp m (i + 1) fu (by omega) (by omega)
theorem lv1 {I : am_IT} {p : Nat} (h : I 1 4 = nI p) (hp : p ≤ 7) (a : Int32) : F_X9_livingIn_1 I a = some (lvF (I 4) a 0 p) := by
  unfold F_X9_livingIn_1
  rw [h]
  exact lv_loop (I 4) a hp p 0 am_fu (by omega) (by show p < 1000000; omega)
theorem lv2 {I : am_IT} {p : Nat} (h : I 55 5 = nI p) (hp : p ≤ 7) (a : Int32) : F_X12_livesIn_55 I a = some (lvF (I 57) a 0 p) := by
  unfold F_X12_livesIn_55
  rw [h]
  exact lv_loop (I 57) a hp p 0 am_fu (by omega) (by show p < 1000000; omega)
/-- the reference's loop for a new one -/
theorem it_new {p : Nat} (hp : p < 7) (I : am_IT) (h : I 55 5 = nI p) : am_it am_fu (am_u2 (fun (l : Int32) (J : am_IT) => if (4 : Int32) ≤ l then (some (.inr J) : Option ((Int32 × am_IT) ⊕ am_IT)) else (if am_ix (((4 : Int32) * (J 55 5)) + l) 28 = true then (am_let (up2 J 63 (((4 : Int32) * (J 55 5)) + l).toNatClampNeg (0 : Int32)) (fun (J1 : am_IT) => if am_ix (((4 : Int32) * (J1 55 5)) + l) 28 = true then (am_let (up2 J1 64 (((4 : Int32) * (J1 55 5)) + l).toNatClampNeg (0 : Int32)) (fun (J2 : am_IT) => am_let (l + (1 : Int32)) (fun (l1 : Int32) => some (.inl (l1, J2))))) else none)) else none))) (0, I) = some (fun k j => if (k = 63 ∨ k = 64) ∧ 4 * p ≤ j ∧ j < 4 * p + 4 then 0 else I k j) := by
  have key := am_it_up (f := am_u2 (fun (l : Int32) (J : am_IT) => if (4 : Int32) ≤ l then (some (.inr J) : Option ((Int32 × am_IT) ⊕ am_IT)) else (if am_ix (((4 : Int32) * (J 55 5)) + l) 28 = true then (am_let (up2 J 63 (((4 : Int32) * (J 55 5)) + l).toNatClampNeg (0 : Int32)) (fun (J1 : am_IT) => if am_ix (((4 : Int32) * (J1 55 5)) + l) 28 = true then (am_let (up2 J1 64 (((4 : Int32) * (J1 55 5)) + l).toNatClampNeg (0 : Int32)) (fun (J2 : am_IT) => am_let (l + (1 : Int32)) (fun (l1 : Int32) => some (.inl (l1, J2))))) else none)) else none))) (fun i => (nI i, fun k j => if (k = 63 ∨ k = 64) ∧ 4 * p ≤ j ∧ j < 4 * p + i then 0 else I k j)) (n := 4) (e := fun k j => if (k = 63 ∨ k = 64) ∧ 4 * p ≤ j ∧ j < 4 * p + 4 then 0 else I k j) (by decide) (fun i hi => ?_) ?_
  · have e0 : (fun k j => if (k = 63 ∨ k = 64) ∧ 4 * p ≤ j ∧ j < 4 * p + 0 then 0 else I k j) = I := by
      funext k j
      rw [if_neg (by omega)]
    rw [← key]
    simp only [e0]
    rfl
  · simp only [am_u2]
    have h4 : ¬ (4 : Int32) ≤ nI i := nI_ge hi (by decide)
    rw [if_neg h4]
    have e5 : ∀ q, (fun k j => if (k = 63 ∨ k = 64) ∧ 4 * p ≤ j ∧ j < 4 * p + i then 0 else I k j : am_IT) 55 5 = q ↔ nI p = q := fun q => by
      show (if (55 = 63 ∨ 55 = 64) ∧ _ then (0 : Int32) else I 55 5) = q ↔ _
      rw [if_neg (by omega), h]
    have e6 : (fun k j => if (k = 63 ∨ k = 64) ∧ 4 * p ≤ j ∧ j < 4 * p + i then 0 else I k j : am_IT) 55 5 = nI p := (e5 _).mpr rfl
    have e6' : (if (55 = 63 ∨ 55 = 64) ∧ 4 * p ≤ 5 ∧ 5 < 4 * p + i then (0 : Int32) else I 55 5) = nI p := e6
    rw [e6', show (4 : Int32) * nI p + nI i = nI (4 * p + i) from ix4' p i, if_pos (am_ix_nI (by omega) (by decide)), am_let_s, nI_clamp (by omega), up2_k _ _ (show 55 ≠ 63 by decide), e6', show (4 : Int32) * nI p + nI i = nI (4 * p + i) from ix4' p i, if_pos (am_ix_nI (by omega) (by decide)), am_let_s, nI_clamp (by omega), am_let_s, nI_1]
    congr 3
    funext k j
    unfold up2
    by_cases q1 : k = 64 ∧ j = 4 * p + i
    · rw [if_pos q1, if_pos (by omega)]
    · rw [if_neg q1]
      by_cases q2 : k = 63 ∧ j = 4 * p + i
      · rw [if_pos q2, if_pos (by omega)]
      · rw [if_neg q2]
        show (if (k = 63 ∨ k = 64) ∧ 4 * p ≤ j ∧ j < 4 * p + i then (0 : Int32) else I k j) = _
        by_cases q3 : (k = 63 ∨ k = 64) ∧ 4 * p ≤ j ∧ j < 4 * p + i
        · rw [if_pos q3, if_pos (by omega)]
        · rw [if_neg q3, if_neg (by omega)]
  · simp only [am_u2]
    rfl
theorem op_4 : am_op4 RI := by
  rintro b I a1  ⟨c, w, p, t, y, d, ln, n, ⟨hb, ⟨⟨hc1, hc2⟩, hst, ⟨hy1, hy2⟩, ⟨hw1, hw2⟩, ⟨hp1, hp2⟩, ⟨ht1, ht2⟩, ⟨hl1, hl2⟩, ⟨hd1, hd2⟩⟩, ⟨rpo, rpa, rho, rvi, rtr, rta, rsa, rbe, rne, rde, rlo, rli, rru⟩⟩, rtp, rmi, rke⟩
  obtain ⟨b1, b2, b3, b4, b5, b6, b7, b8⟩ := id hb
  have no : F_X11_person_0 I a1 = some ((-1), I) → F_X12_person_55 I a1 = some ((-1), up2 I 55 0 0) → ∃ (r : Int32) (I1 : am_IT) (I2 : am_IT), F_X11_person_0 I a1 = some (r, I1) ∧ F_X12_person_55 I1 a1 = some (r, I2) ∧ RI b I2 := fun h1 h2 => ⟨_, I, _, h1, h2, c, w, p, t, y, d, ln, n, ⟨hb, ⟨⟨hc1, hc2⟩, hst, ⟨hy1, hy2⟩, ⟨hw1, hw2⟩, ⟨hp1, hp2⟩, ⟨ht1, ht2⟩, ⟨hl1, hl2⟩, ⟨hd1, hd2⟩⟩, ⟨rpo, rpa, rho, rvi, rtr, rta, rsa, rbe, rne, rde, rlo, rli, rru⟩⟩, rtp, rmi, rke⟩
  rcases gd_cases a1 (n := 8) (by decide) with g0 | ⟨g0, h, hh, rfl⟩
  · refine no ?_ ?_
    · unfold F_X11_person_0; rw [gH1', am_b1_s, g0, if_pos rfl] <;> first | rfl | exact hc1 | exact hc2 | exact hw1 | exact hw2 | exact hp1 | exact hp2 | exact ht1 | exact ht2 | exact hd1 | exact hd2 | exact hy1 | exact hy2 | exact hl1 | exact hl2 | decide
    · unfold F_X12_person_55; rw [am_let_s, gH2, am_b1_s, g0, if_pos rfl] <;> first | rfl | exact hc1 | exact hc2 | exact hw1 | exact hw2 | exact hp1 | exact hp2 | exact ht1 | exact ht2 | exact hd1 | exact hd2 | exact hy1 | exact hy2 | exact hl1 | exact hl2 | decide
  · skip
    have hcg : lvF (I 57) (nI h) 0 p = lvF (I 4) (nI h) 0 p := lvF_congr _ _ _ (fun j _ hj => ((rho.1 j (by omega)).1).symm)
    rcases lvF_spec (I 4) (nI h) p 0 with ⟨hl, hfree⟩ | ⟨q, q1, q2, q3, hl⟩
    · by_cases h7 : p = 7
      · subst h7
        refine no ?_ ?_
        · unfold F_X11_person_0; rw [gH1', am_b1_s, g0, if_neg (by decide), hp1]; rfl
        · unfold F_X12_person_55
          rw [am_let_s, gH2, am_b1_s, g0, if_neg (by decide), lv2 (I := up2 I 55 0 0) hp2 (by omega), am_b1_s, show lvF ((up2 I 55 0 0) 57) (nI h) 0 7 = -1 from hcg.trans hl, if_pos rfl, show (up2 I 55 0 0) 55 5 = nI 7 from hp2]; rfl
      · have hle : ¬ (7 : Int32) ≤ nI p := nI_ge (b := 7) (by omega) (by decide)
        have hne : ¬ nI p = 7 := fun z => h7 ((nI_eq (b := 7) (by omega) (by decide)).mp z)
        refine ⟨nI p, up2 (up2 I 4 p (nI h)) 1 4 (nI (p + 1)), up2 (fun k j => if (k = 63 ∨ k = 64) ∧ 4 * p ≤ j ∧ j < 4 * p + 4 then 0 else (up2 (up2 (up2 (up2 (up2 I 4 p (nI h)) 1 4 (nI (p + 1))) 55 0 0) 57 p (nI h)) 65 p 0) k j) 55 5 (nI (p + 1)), ?_, ?_, c, w, p + 1, t, y, d, ln, n, ⟨⟨b1, b2, b3, by omega, b5, b6, b7, b8⟩, ⟨⟨hc1, hc2⟩, hst, ⟨hy1, hy2⟩, ⟨hw1, hw2⟩, ⟨rfl, rfl⟩, ⟨ht1, ht2⟩, ⟨hl1, hl2⟩, ⟨hd1, hd2⟩⟩, ⟨rpo, rpa, ?_, rvi, rtr, ?_, ?_, ?_, rne, ?_, rlo, rli, rru⟩⟩, rtp, rmi, rke⟩
        · unfold F_X11_person_0
          rw [gH1', am_b1_s, g0, if_neg (by decide), hp1, if_neg hle, lv1 hp1 b4, am_b1_s, hl, if_pos rfl, if_pos (am_ix_nI (by omega) (by decide)), am_let_s, nI_clamp (by omega), am_let_s]
          show some ((up2 (up2 I 4 p (nI h)) 1 4 (I 1 4 + 1)) 1 4 - 1, up2 (up2 I 4 p (nI h)) 1 4 (I 1 4 + 1)) = _
          rw [hp1, nI_1, up2_s, show nI (p + 1) - 1 = nI p from nI_pred p]
        · unfold F_X12_person_55
          rw [am_let_s, gH2, am_b1_s, g0, if_neg (by decide), lv2 (I := up2 (up2 (up2 I 4 p (nI h)) 1 4 (nI (p + 1))) 55 0 0) hp2 b4, am_b1_s, show lvF ((up2 (up2 (up2 I 4 p (nI h)) 1 4 (nI (p + 1))) 55 0 0) 57) (nI h) 0 p = -1 from hcg.trans hl, if_pos rfl, show (up2 (up2 (up2 I 4 p (nI h)) 1 4 (nI (p + 1))) 55 0 0) 55 5 = nI p from hp2, if_neg hne, if_pos (am_ix_nI (by omega) (by decide)), am_let_s, nI_clamp (by omega)]
          rw [show (up2 (up2 (up2 (up2 I 4 p (nI h)) 1 4 (nI (p + 1))) 55 0 0) 57 p (nI h)) 55 5 = nI p from hp2, if_pos (am_ix_nI (by omega) (by decide)), am_let_s, nI_clamp (by omega), it_new (p := p) (by omega) (up2 (up2 (up2 (up2 (up2 I 4 p (nI h)) 1 4 (nI (p + 1))) 55 0 0) 57 p (nI h)) 65 p 0) hp2, am_b1_s, am_let_s]
          show some ((up2 (fun k j => if (k = 63 ∨ k = 64) ∧ 4 * p ≤ j ∧ j < 4 * p + 4 then 0 else (up2 (up2 (up2 (up2 (up2 I 4 p (nI h)) 1 4 (nI (p + 1))) 55 0 0) 57 p (nI h)) 65 p 0) k j) 55 5 (I 55 5 + 1)) 55 5 - 1, up2 (fun k j => if (k = 63 ∨ k = 64) ∧ 4 * p ≤ j ∧ j < 4 * p + 4 then 0 else (up2 (up2 (up2 (up2 (up2 I 4 p (nI h)) 1 4 (nI (p + 1))) 55 0 0) 57 p (nI h)) 65 p 0) k j) 55 5 (I 55 5 + 1)) = _
          rw [hp2, nI_1, up2_s, show nI (p + 1) - 1 = nI p from nI_pred p]
        · have r1 : ∀ j, (up2 (up2 I 4 p (nI h)) 1 4 (nI (p + 1))) 4 j = if j = p then nI h else I 4 j := fun j => by rw [up2_k _ _ (show 4 ≠ 1 by decide), up2_r]
          have r2 : ∀ j, (up2 I 57 p (nI h)) 57 j = if j = p then nI h else I 57 j := fun j => by rw [up2_r]
          refine ⟨fun j hj => ?_, fun i j hi hj e => ?_⟩
          · show (up2 (up2 I 4 p (nI h)) 1 4 (nI (p + 1))) 4 j = (up2 I 57 p (nI h)) 57 j ∧ vb 8 ((up2 (up2 I 4 p (nI h)) 1 4 (nI (p + 1))) 4 j)
            rw [r1, r2]
            by_cases q : j = p
            · rw [if_pos q, if_pos q]; exact ⟨rfl, h, hh, rfl⟩
            · rw [if_neg q, if_neg q]; exact rho.1 j (by omega)
          · have e : (up2 (up2 I 4 p (nI h)) 1 4 (nI (p + 1))) 4 i = (up2 (up2 I 4 p (nI h)) 1 4 (nI (p + 1))) 4 j := e
            rw [r1, r1] at e
            by_cases qi : i = p
            · by_cases qj : j = p
              · omega
              · rw [if_pos qi, if_neg qj] at e
                exact absurd e.symm (hfree j (by omega) (by omega))
            · by_cases qj : j = p
              · rw [if_neg qi, if_pos qj] at e
                exact absurd e (hfree i (by omega) (by omega))
              · rw [if_neg qi, if_neg qj] at e
                exact rho.2 i j (by omega) (by omega) e
        · refine ⟨fun j hj => ?_, fun j h1 h2 => rta.2 j (by omega) h2⟩
          show I 7 j = (if (63 = 63 ∨ 63 = 64) ∧ 4 * p ≤ j ∧ j < 4 * p + 4 then 0 else I 63 j) ∧ v9 (I 7 j)
          by_cases q : j < 4 * p
          · rw [if_neg (by omega)]; exact rta.1 j q
          · rw [if_pos (by omega), rta.2 j (by omega) (by omega)]; exact ⟨rfl, v9_0⟩
        · refine ⟨fun j hj => ?_, fun j h1 h2 => rsa.2 j (by omega) h2⟩
          show I 8 j = (if (64 = 63 ∨ 64 = 64) ∧ 4 * p ≤ j ∧ j < 4 * p + 4 then 0 else I 64 j) ∧ v9 (I 8 j)
          by_cases q : j < 4 * p
          · rw [if_neg (by omega)]; exact rsa.1 j q
          · rw [if_pos (by omega), rsa.2 j (by omega) (by omega)]; exact ⟨rfl, v9_0⟩
        · refine ⟨fun j hj => ?_, fun j h1 h2 => rbe.2 j (by omega) h2⟩
          show I 9 j = (up2 I 65 p 0) 65 j ∧ v9 (I 9 j)
          rw [up2_r]
          by_cases q : j = p
          · rw [if_pos q, rbe.2 j (by omega) (by omega)]; exact ⟨rfl, v9_0⟩
          · rw [if_neg q]; exact rbe.1 j (by omega)
        · exact ⟨fun k hk => by
            obtain ⟨q', a, b', z1, z2⟩ := rde.1 k hk
            exact ⟨q', a, b', by omega, z2⟩, rde.2⟩
    · have hne : ¬ lvF (I 4) (nI h) 0 p = -1 := by
        rw [hl]
        exact fun z => by
          have := congrArg Int32.toInt z
          rw [nI_toInt (by omega), show (-1 : Int32).toInt = -1 from rfl] at this
          omega
      refine no ?_ ?_
      · unfold F_X11_person_0; rw [gH1', am_b1_s, g0, if_neg (by decide)]
        by_cases h7 : (7 : Int32) ≤ I 1 4
        · rw [if_pos h7]
        · rw [if_neg h7, lv1 hp1 b4, am_b1_s, if_neg hne]
      · unfold F_X12_person_55
        rw [am_let_s, gH2, am_b1_s, g0, if_neg (by decide), lv2 (I := up2 I 55 0 0) hp2 b4, am_b1_s, if_neg (by
          rw [show lvF ((up2 I 55 0 0) 57) (nI h) 0 p = lvF (I 4) (nI h) 0 p from hcg]
          exact hne)]
