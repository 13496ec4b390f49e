def cl1 (I : am_IT) (a : Int32) : am_IT := fl2 (fl2 (fl2 (up2 (up2 (up2 (fl2 (fl2 (fl2 (fl2 (fl2 (fl2 (up2 (up2 (up2 (up2 (up2 I 1 0 a) 1 2 0) 1 3 0) 1 4 0) 1 5 0) 2 4 0) 5 56 0) 7 28 0) 8 28 0) 9 7 0) 10 49 0) 11 0 0) 11 1 0) 15 0 0) 16 112 0) 19 9 0) 20 81 0
def cl2 (I : am_IT) (a : Int32) : am_IT := fl2 (fl2 (fl2 (fl2 (fl2 (up2 (up2 (up2 (up2 (up2 (up2 (up2 (up2 I 55 0 0) 55 2 a) 55 4 0) 55 5 0) 55 8 0) 55 13 0) 55 18 0) 55 32 0) 56 4 0) 58 56 0) 66 49 0) 70 9 0) 71 9 0
theorem e_clear (I : am_IT) (a : Int32) : F_X9_clear_1 I a = some (cl1 I a) := by
  unfold F_X9_clear_1 F_X6_clear_11 F_X1_clear_15 F_X5_clear_18
  simp only [am_let_s, e_fill_2, e_fill_5, e_fill_7, e_fill_8, e_fill_9, e_fill_10, e_fill_16, e_fill_19, e_fill_20, am_b1_s]
  rfl
theorem it_fill2 (I : am_IT) : am_it am_fu (am_u2 (fun (l : Int32) (J : am_IT) => if (9 : Int32) ≤ l then (some (.inr J) : Option ((Int32 × am_IT) ⊕ am_IT)) else (if am_ix l 9 = true then (am_let (up2 J 70 l.toNatClampNeg (0 : Int32)) (fun (J1 : am_IT) => if am_ix l 9 = true then (am_let (up2 J1 71 l.toNatClampNeg (0 : Int32)) (fun (J2 : am_IT) => am_let (l + (1 : Int32)) (fun (l1 : Int32) => some (.inl (l1, J2))))) else none)) else none))) (0, I) = some (fl2 (fl2 I 70 9 0) 71 9 0) := by
  have h := am_it_up (f := am_u2 (fun (l : Int32) (J : am_IT) => if (9 : Int32) ≤ l then (some (.inr J) : Option ((Int32 × am_IT) ⊕ am_IT)) else (if am_ix l 9 = true then (am_let (up2 J 70 l.toNatClampNeg (0 : Int32)) (fun (J1 : am_IT) => if am_ix l 9 = true then (am_let (up2 J1 71 l.toNatClampNeg (0 : Int32)) (fun (J2 : am_IT) => am_let (l + (1 : Int32)) (fun (l1 : Int32) => some (.inl (l1, J2))))) else none)) else none))) (fun i => (nI i, fl2 (fl2 I 70 i 0) 71 i 0)) (n := 9) (e := fl2 (fl2 I 70 9 0) 71 9 0) (by decide) (fun i hi => ?_) ?_
  · rw [← h]
    simp only [nI_0, fl2_0]
  · simp only [am_u2, am_let_s]
    have h9 : ¬ (9 : Int32) ≤ nI i := nI_ge hi (by decide)
    rw [if_neg h9, if_pos (am_ix_nI hi (by decide)), nI_clamp (by omega), nI_succ]
    rw [if_pos (am_ix_nI hi (by decide))]
    congr 3
    rw [← fl2_s, ← fl2_s]
    funext k j
    unfold up2 fl2
    by_cases q : k = 71
    · subst q; simp
    · by_cases q2 : k = 70
      · subst q2; simp
      · simp [q, q2]
  · simp only [am_u2]
    rfl
theorem rRule_0 {me se st lw lf lt op ar : Nat → Int32} : rRule 0 0 me se st lw lf lt op ar := by
  refine ⟨[], rfl, fun l m code h => ?_, by decide, by decide, rfl, fun k o h => ?_, fun k a b h => ?_⟩
  · simp at h
  · simp at h
  · simp [rRefs] at h
theorem e_col2 (I : am_IT) (a : Int32) (h : gr a 2 4 = 1) : F_X12_colours_55 I a = some (1, cl2 I a) := by
  unfold F_X12_colours_55
  rw [am_let_s, gR2, am_b1_s, h, if_neg (by decide), am_let_s, am_let_s, am_let_s, am_let_s, am_let_s, am_let_s, am_let_s]
  rw [it_fill (m := 4) 56 4 0 _ rfl (by decide), am_b1_s, it_fill (m := 56) 58 56 0 _ rfl (by decide), am_b1_s, it_fill (m := 49) 66 49 0 _ rfl (by decide), am_b1_s, it_fill2, am_b1_s]
  rfl
theorem z0 {c : Prop} {hc : Decidable c} {x : Int32} (h : c) : (@ite _ c hc 0 x) = 0 := if_pos h
theorem op_1 : am_op1 RI := by
  rintro b I a1  ⟨c, w, p, t, y, d, ln, n, ⟨hb, ⟨⟨hc1, hc2⟩, hst, ⟨hy1, hy2⟩, ⟨hw1, hw2⟩, ⟨hp1, hp2⟩, ⟨ht1, ht2⟩, ⟨hl1, hl2⟩, ⟨hd1, hd2⟩⟩, ⟨rpo, rpa, rho, rvi, rtr, rta, rsa, rbe, rne, rde, rlo, rli, rru⟩⟩, rtp, rmi, rke⟩
  obtain ⟨b1, b2, b3, b4, b5, b6, b7, b8⟩ := id hb
  by_cases g1 : a1 < 2
  · refine ⟨0, I, up2 I 55 0 0, ?_, ?_, c, w, p, t, y, d, ln, n, ⟨hb, ⟨⟨hc1, hc2⟩, hst, ⟨hy1, hy2⟩, ⟨hw1, hw2⟩, ⟨hp1, hp2⟩, ⟨ht1, ht2⟩, ⟨hl1, hl2⟩, ⟨hd1, hd2⟩⟩, ⟨rpo, rpa, rho, rvi, rtr, rta, rsa, rbe, rne, rde, rlo, rli, rru⟩⟩, rtp, rmi, rke⟩
    · unfold F_X11_colours_0; rw [if_pos g1]
    · unfold F_X12_colours_55; rw [am_let_s, gR2, am_b1_s, show gr a1 2 4 = 0 from if_pos g1, if_pos rfl]
  · by_cases g2 : a1 ≤ 4
    · have hg : gr a1 2 4 = 1 := by
        unfold gr
        rw [if_neg g1, if_neg (Int32.not_lt.mpr g2)]
      obtain ⟨c', hc', rfl⟩ : ∃ c', (2 ≤ c' ∧ c' ≤ 4) ∧ a1 = nI c' := by
        have hn0 : ¬ a1 < 0 := fun z => g1 (Int32.lt_iff_toInt_lt.mpr (by have := Int32.lt_iff_toInt_lt.mp z; rw [show (0 : Int32).toInt = 0 from rfl] at this; rw [show (2 : Int32).toInt = 2 from rfl]; omega))
        obtain ⟨k, hk, rfl⟩ := nI_of2 (x := a1) (M := 4) (n := 4) rfl hn0 g2
        exact ⟨k, ⟨Nat.le_of_not_lt (fun z => g1 (nI_lt (b := 2) z (by decide))), hk⟩, rfl⟩
      refine ⟨1, cl1 I (nI c'), cl2 (cl1 I (nI c')) (nI c'), ?_, e_col2 _ _ hg, c', 0, 0, 0, 0, 0, 0, n, ⟨⟨hc'.1, hc'.2, by decide, by decide, by decide, by decide, by decide, by decide⟩, ⟨⟨rfl, rfl⟩, hst, ⟨rfl, rfl⟩, ⟨rfl, rfl⟩, ⟨rfl, rfl⟩, ⟨rfl, rfl⟩, ⟨rfl, rfl⟩, ⟨rfl, rfl⟩⟩, ?_, ?_, ?_, ?_, ?_, ?_, ?_, ?_, ?_, ?_, ?_, ?_, rRule_0⟩, rtp, rmi, rke⟩
      · unfold F_X11_colours_0; rw [if_neg g1, if_pos g2, e_clear, am_b1_s]
      · intro j hj
        have h1 : (cl2 (cl1 I (nI c')) (nI c')) 2 j = 0 := z0 (⟨rfl, hj⟩ : 2 = 2 ∧ j < 4)
        have h2 : (cl2 (cl1 I (nI c')) (nI c')) 56 j = 0 := z0 (⟨rfl, hj⟩ : 56 = 56 ∧ j < 4)
        exact ⟨h1.trans h2.symm, 0, by decide, h1⟩
      · exact fun j hj => absurd hj (Nat.not_lt_zero _)
      · exact ⟨fun j hj => absurd hj (Nat.not_lt_zero _), fun i j hi => absurd hi (Nat.not_lt_zero _)⟩
      · intro j hj
        have h1 : (cl2 (cl1 I (nI c')) (nI c')) 5 j = 0 := z0 (⟨rfl, hj⟩ : 5 = 5 ∧ j < 56)
        have h2 : (cl2 (cl1 I (nI c')) (nI c')) 58 j = 0 := z0 (⟨rfl, hj⟩ : 58 = 58 ∧ j < 56)
        exact ⟨h1.trans h2.symm, 0, by decide, h1⟩
      · exact fun j hj => absurd hj (Nat.not_lt_zero _)
      · exact ⟨fun j hj => absurd hj (Nat.not_lt_zero _), fun j _ hj => z0 (⟨rfl, hj⟩ : 7 = 7 ∧ j < 28)⟩
      · exact ⟨fun j hj => absurd hj (Nat.not_lt_zero _), fun j _ hj => z0 (⟨rfl, hj⟩ : 8 = 8 ∧ j < 28)⟩
      · exact ⟨fun j hj => absurd hj (Nat.not_lt_zero _), fun j _ hj => z0 (⟨rfl, hj⟩ : 9 = 9 ∧ j < 7)⟩
      · have h1 : ∀ j, j < 49 → (cl2 (cl1 I (nI c')) (nI c')) 10 j = 0 := fun j hj => z0 (⟨rfl, hj⟩ : 10 = 10 ∧ j < 49)
        have h2 : ∀ j, j < 49 → (cl2 (cl1 I (nI c')) (nI c')) 66 j = 0 := fun j hj => z0 (⟨rfl, hj⟩ : 66 = 66 ∧ j < 49)
        exact ⟨fun j hj => ⟨(h1 j hj).trans (h2 j hj).symm, 0, by decide, h1 j hj⟩, fun u v hu hv => (h1 _ (by omega)).trans (h1 _ (by omega)).symm⟩
      · refine ⟨fun k hk => absurd hk (Nat.not_lt_zero _), fun q a b' hq ha hb' => ⟨?_, fun _ => z0 (⟨rfl, by omega⟩ : 16 = 16 ∧ 16 * q + 4 * a + b' < 112)⟩⟩
        rintro ⟨k, hk, -⟩
        exact absurd hk (Nat.not_lt_zero _)
      · intro j hj
        have h1 : (cl2 (cl1 I (nI c')) (nI c')) 19 j = 0 := z0 (⟨rfl, hj⟩ : 19 = 19 ∧ j < 9)
        have h2 : (cl2 (cl1 I (nI c')) (nI c')) 70 j = 0 := z0 (⟨rfl, hj⟩ : 70 = 70 ∧ j < 9)
        exact ⟨h1.trans h2.symm, 0, by decide, h1⟩
      · intro a ha
        refine ⟨0, by decide, z0 (⟨rfl, ha⟩ : 71 = 71 ∧ a < 9), fun b' hb' => ?_⟩
        rw [if_neg (by simp)]
        exact z0 (⟨rfl, by omega⟩ : 20 = 20 ∧ 9 * a + b' < 81)
    · refine ⟨0, I, up2 I 55 0 0, ?_, ?_, c, w, p, t, y, d, ln, n, ⟨hb, ⟨⟨hc1, hc2⟩, hst, ⟨hy1, hy2⟩, ⟨hw1, hw2⟩, ⟨hp1, hp2⟩, ⟨ht1, ht2⟩, ⟨hl1, hl2⟩, ⟨hd1, hd2⟩⟩, ⟨rpo, rpa, rho, rvi, rtr, rta, rsa, rbe, rne, rde, rlo, rli, rru⟩⟩, rtp, rmi, rke⟩
      · unfold F_X11_colours_0; rw [if_neg g1, if_neg g2]
      · unfold F_X12_colours_55; rw [am_let_s, gR2, am_b1_s, show gr a1 2 4 = 0 from by unfold gr; rw [if_neg g1, if_pos (Int32.not_le.mp g2)], if_pos rfl]
