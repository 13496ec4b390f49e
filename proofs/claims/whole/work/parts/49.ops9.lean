/-- the byte of a number from bit z on -/
def byt (a : Int32) (z : Nat) : Int32 := (a >>> (nI z &&& 31)) &&& 255
theorem byt_u (a : Int32) {z : Nat} (hz : z ≤ 24) : ((a.toUInt32 >>> ((nI z).toUInt32 &&& Int32.toUInt32 31)).toInt32) &&& 255 = byt a z := by
  apply b_ext
  intro i hi
  unfold byt
  rw [b_and, b_and, b_255, b_ushr z (by omega), b_sshr z (by omega) a hi]
  by_cases h : i < 8
  · rw [if_pos (by omega)]
  · rw [decide_eq_false h, Bool.and_false, Bool.and_false]
theorem byt_vb (a : Int32) (z : Nat) : vb 256 (byt a z) := by
  obtain ⟨j, hj, e⟩ := pk_andE (a >>> (nI z &&& 31)) (m := 255) 8 (by decide)
  exact ⟨j, hj, e⟩
/-- four bytes behind n -/
def tp4 (f : Nat → Int32) (n : Nat) (a : Int32) : Nat → Int32 := fun j => if j = n then byt a 24 else if j = n + 1 then byt a 16 else if j = n + 2 then byt a 8 else if j = n + 3 then byt a 0 else f j
def ap4 (I : am_IT) (ct cc ci n : Nat) (a : Int32) : am_IT := up2 (up2 (up2 (up2 (up2 (up2 (up2 (up2 I ct n (byt a 24)) cc ci (nI (n + 1))) ct (n + 1) (byt a 16)) cc ci (nI (n + 2))) ct (n + 2) (byt a 8)) cc ci (nI (n + 3))) ct (n + 3) (byt a 0)) cc ci (nI (n + 4))
theorem ap4_c (I : am_IT) (ct cc ci n : Nat) (a : Int32) : (ap4 I ct cc ci n a) cc ci = nI (n + 4) := by
  unfold ap4
  exact up2_s _ _ _ _
theorem ap4_t (I : am_IT) {ct cc ci n : Nat} (a : Int32) (h : ct ≠ cc) : (ap4 I ct cc ci n a) ct = tp4 (I ct) n a := by
  funext j
  unfold ap4 tp4
  rw [up2_k _ _ h, up2_r, up2_k _ _ h, up2_r, up2_k _ _ h, up2_r, up2_k _ _ h, up2_r]
  by_cases h3 : j = n + 3
  · rw [if_pos h3, if_neg (by omega), if_neg (by omega), if_neg (by omega), if_pos h3]
  · rw [if_neg h3]
    by_cases h2 : j = n + 2
    · rw [if_pos h2, if_neg (by omega), if_neg (by omega), if_pos h2]
    · rw [if_neg h2]
      by_cases h1 : j = n + 1
      · rw [if_pos h1, if_neg (by omega), if_pos h1]
      · rw [if_neg h1]
        by_cases h0 : j = n
        · rw [if_pos h0, if_pos h0]
        · rw [if_neg h0, if_neg h0, if_neg h1, if_neg h2, if_neg h3]
theorem tp4_rel {f g : Nat → Int32} {n : Nat} (a : Int32) (h : ∀ j, j < n → f j = g j ∧ vb 256 (f j)) : ∀ j, j < n + 4 → tp4 f n a j = tp4 g n a j ∧ vb 256 (tp4 f n a j) := by
  intro j hj
  unfold tp4
  by_cases h0 : j = n
  · rw [if_pos h0, if_pos h0]; exact ⟨rfl, byt_vb _ _⟩
  · rw [if_neg h0, if_neg h0]
    by_cases h1 : j = n + 1
    · rw [if_pos h1, if_pos h1]; exact ⟨rfl, byt_vb _ _⟩
    · rw [if_neg h1, if_neg h1]
      by_cases h2 : j = n + 2
      · rw [if_pos h2, if_pos h2]; exact ⟨rfl, byt_vb _ _⟩
      · rw [if_neg h2, if_neg h2]
        by_cases h3 : j = n + 3
        · rw [if_pos h3, if_pos h3]; exact ⟨rfl, byt_vb _ _⟩
        · rw [if_neg h3, if_neg h3]; exact h j (by omega)
theorem fu5 : am_fu = 999995 + 1 + 1 + 1 + 1 + 1 := rfl
theorem e_put {I : am_IT} {n : Nat} (h : I 0 9 = nI n) (hn : n + 4 ≤ 400) (a : Int32) : F_X11_putNumber_0 I a = some (ap4 I 54 0 9 n a) := by
  unfold F_X11_putNumber_0
  have st : ∀ (J : am_IT) (k z : Nat), k < 400 → z ≤ 24 → J 0 9 = nI k → (fun (l2_1 : Int32) (I_2 : am_IT) => if l2_1 < 0 then (some (.inr (I_2)) : Option ((Int32 × am_IT) ⊕ am_IT)) else (if (400 : Int32) ≤ (I_2 0 9) then (am_let (l2_1 + (-8 : Int32)) (fun (l2_11 : Int32) => some (.inl (l2_11, I_2)))) else (if am_ix (I_2 0 9) 400 = true then (am_let (up2 I_2 54 (I_2 0 9).toNatClampNeg (((a.toUInt32 >>> (l2_1.toUInt32 &&& Int32.toUInt32 31)).toInt32) &&& (255 : Int32))) (fun (I_13 : am_IT) => am_let (up2 I_13 0 9 ((I_13 0 9) + (1 : Int32))) (fun (I_14 : am_IT) => am_let (l2_1 + (-8 : Int32)) (fun (l2_15 : Int32) => some (.inl (l2_15, I_14)))))) else none))) (nI z) J = some (.inl (nI z + -8, up2 (up2 J 54 k (byt a z)) 0 9 (nI (k + 1)))) := by
    intro J k z hk hz hJ
    have h4 : ¬ (400 : Int32) ≤ nI k := nI_ge hk (by decide)
    show (if nI z < 0 then _ else _) = _
    rw [if_neg (nI_pos (by omega)), hJ, if_neg h4, if_pos (am_ix_nI hk (by decide)), am_let_s, nI_clamp (by omega), byt_u a hz, am_let_s, up2_k _ _ (show 0 ≠ 54 by decide), hJ, nI_1, am_let_s]
  rw [fu5, am_it_l (st I n 24 (by omega) (by decide) h), am_it_l (st _ (n + 1) 16 (by omega) (by decide) (up2_s _ _ _ _)), am_it_l (st _ (n + 2) 8 (by omega) (by decide) (up2_s _ _ _ _)), am_it_l (st _ (n + 3) 0 (by omega) (by decide) (up2_s _ _ _ _)), am_it_e (e := ap4 I 54 0 9 n a) (by rfl)]
  rfl
theorem e_typ {I : am_IT} {n : Nat} (h : I 55 26 = nI n) (hn : n + 4 ≤ 400) (a : Int32) : F_X12_types_55 I a = some (ap4 I 73 55 26 n a) := by
  unfold F_X12_types_55
  have st : ∀ (J : am_IT) (k z : Nat), k < 400 → z ≤ 24 → J 55 26 = nI k → (fun (l2_1 : Int32) (I_2 : am_IT) => if l2_1 < 0 then (some (.inr (I_2)) : Option ((Int32 × am_IT) ⊕ am_IT)) else (if am_ix (I_2 55 26) 400 = true then (am_let (up2 I_2 73 (I_2 55 26).toNatClampNeg ((a >>> (l2_1 &&& 31)) &&& (255 : Int32))) (fun (I_11 : am_IT) => am_let (up2 I_11 55 26 ((I_11 55 26) + (1 : Int32))) (fun (I_12 : am_IT) => am_let (l2_1 + (-8 : Int32)) (fun (l2_13 : Int32) => some (.inl (l2_13, I_12)))))) else none)) (nI z) J = some (.inl (nI z + -8, up2 (up2 J 73 k (byt a z)) 55 26 (nI (k + 1)))) := by
    intro J k z hk hz hJ
    show (if nI z < 0 then _ else _) = _
    rw [if_neg (nI_pos (by omega)), hJ, if_pos (am_ix_nI hk (by decide)), am_let_s, nI_clamp (by omega), am_let_s, up2_k _ _ (show 55 ≠ 73 by decide), hJ, nI_1, am_let_s]
    rfl
  rw [fu5, am_it_l (st I n 24 (by omega) (by decide) h), am_it_l (st _ (n + 1) 16 (by omega) (by decide) (up2_s _ _ _ _)), am_it_l (st _ (n + 2) 8 (by omega) (by decide) (up2_s _ _ _ _)), am_it_l (st _ (n + 3) 0 (by omega) (by decide) (up2_s _ _ _ _)), am_it_e (e := ap4 I 73 55 26 n a) (by rfl)]
  rfl
theorem op_11 : am_op11 RI := by
  rintro b I a1 a2 a3 a4 a5  ⟨c, w, p, t, y, d, ln, n, ⟨hb, ⟨⟨hc1, hc2⟩, hst, ⟨hy1, hy2⟩, ⟨hw1, hw2⟩, ⟨hp1, hp2⟩, ⟨ht1, ht2⟩, ⟨hl1, hl2⟩, ⟨hd1, hd2⟩⟩, ⟨rpo, rpa, rho, rvi, rtr, rta, rsa, rbe, rne, rde, rlo, rli, rru⟩⟩, rtp, rmi, rke⟩
  obtain ⟨b1, b2, b3, b4, b5, b6, b7, b8⟩ := id hb
  have h9 : I 0 9 = nI n := rtp.2.1
  have h26 : I 55 26 = nI n := rtp.2.2.1
  have hn := rtp.1
  by_cases h380 : n ≤ 380
  · have c1 : nI n + 20 ≤ (400 : Int32) := by
      rw [show nI n + 20 = nI (n + 20) from nI_add n 20]
      exact nI_le (b := 400) (by omega) (by decide)
    have c2 : nI n ≤ (380 : Int32) := nI_le (b := 380) h380 (by decide)
    refine ⟨nI (n + 20), ap4 (ap4 (ap4 (ap4 (ap4 (I) 54 0 9 n a1) 54 0 9 (n + 4) a2) 54 0 9 (n + 8) a3) 54 0 9 (n + 12) a4) 54 0 9 (n + 16) a5, ap4 (ap4 (ap4 (ap4 (ap4 (up2 (ap4 (ap4 (ap4 (ap4 (ap4 (I) 54 0 9 n a1) 54 0 9 (n + 4) a2) 54 0 9 (n + 8) a3) 54 0 9 (n + 12) a4) 54 0 9 (n + 16) a5) 55 0 0) 73 55 26 n a1) 73 55 26 (n + 4) a2) 73 55 26 (n + 8) a3) 73 55 26 (n + 12) a4) 73 55 26 (n + 16) a5, ?_, ?_, c, w, p, t, y, d, ln, n + 20, ⟨hb, ⟨⟨hc1, hc2⟩, hst, ⟨hy1, hy2⟩, ⟨hw1, hw2⟩, ⟨hp1, hp2⟩, ⟨ht1, ht2⟩, ⟨hl1, hl2⟩, ⟨hd1, hd2⟩⟩, ⟨rpo, rpa, rho, rvi, rtr, rta, rsa, rbe, rne, rde, rlo, rli, rru⟩⟩, ⟨by omega, ?_, ?_, ?_⟩, rmi, rke⟩
    · unfold F_X11_feed_0
      rw [h9, if_pos c1, e_put h9 (by omega), am_b1_s, e_put (n := n + 4) (ap4_c _ _ _ _ _ _) (by omega), am_b1_s, e_put (n := n + 8) (ap4_c _ _ _ _ _ _) (by omega), am_b1_s, e_put (n := n + 12) (ap4_c _ _ _ _ _ _) (by omega), am_b1_s, e_put (n := n + 16) (ap4_c _ _ _ _ _ _) (by omega), am_b1_s]
      rw [show (ap4 (ap4 (ap4 (ap4 (ap4 (I) 54 0 9 n a1) 54 0 9 (n + 4) a2) 54 0 9 (n + 8) a3) 54 0 9 (n + 12) a4) 54 0 9 (n + 16) a5) 0 9 = nI (n + 20) from ap4_c _ _ _ _ _ _]
    · unfold F_X12_feed_55
      rw [am_let_s, show (up2 (ap4 (ap4 (ap4 (ap4 (ap4 (I) 54 0 9 n a1) 54 0 9 (n + 4) a2) 54 0 9 (n + 8) a3) 54 0 9 (n + 12) a4) 54 0 9 (n + 16) a5) 55 0 0) 55 26 = nI n from h26, if_pos c2, e_typ (n := n) (I := up2 (ap4 (ap4 (ap4 (ap4 (ap4 (I) 54 0 9 n a1) 54 0 9 (n + 4) a2) 54 0 9 (n + 8) a3) 54 0 9 (n + 12) a4) 54 0 9 (n + 16) a5) 55 0 0) h26 (by omega), am_b1_s, e_typ (n := n + 4) (ap4_c _ _ _ _ _ _) (by omega), am_b1_s, e_typ (n := n + 8) (ap4_c _ _ _ _ _ _) (by omega), am_b1_s, e_typ (n := n + 12) (ap4_c _ _ _ _ _ _) (by omega), am_b1_s, e_typ (n := n + 16) (ap4_c _ _ _ _ _ _) (by omega), am_b1_s]
      rw [show (ap4 (ap4 (ap4 (ap4 (ap4 (up2 (ap4 (ap4 (ap4 (ap4 (ap4 (I) 54 0 9 n a1) 54 0 9 (n + 4) a2) 54 0 9 (n + 8) a3) 54 0 9 (n + 12) a4) 54 0 9 (n + 16) a5) 55 0 0) 73 55 26 n a1) 73 55 26 (n + 4) a2) 73 55 26 (n + 8) a3) 73 55 26 (n + 12) a4) 73 55 26 (n + 16) a5) 55 26 = nI (n + 20) from ap4_c _ _ _ _ _ _]
    · show (ap4 (ap4 (ap4 (ap4 (ap4 (I) 54 0 9 n a1) 54 0 9 (n + 4) a2) 54 0 9 (n + 8) a3) 54 0 9 (n + 12) a4) 54 0 9 (n + 16) a5) 0 9 = nI (n + 20)
      exact ap4_c _ _ _ _ _ _
    · show (ap4 (ap4 (ap4 (ap4 (ap4 (up2 (ap4 (ap4 (ap4 (ap4 (ap4 (I) 54 0 9 n a1) 54 0 9 (n + 4) a2) 54 0 9 (n + 8) a3) 54 0 9 (n + 12) a4) 54 0 9 (n + 16) a5) 55 0 0) 73 55 26 n a1) 73 55 26 (n + 4) a2) 73 55 26 (n + 8) a3) 73 55 26 (n + 12) a4) 73 55 26 (n + 16) a5) 55 26 = nI (n + 20)
      exact ap4_c _ _ _ _ _ _
    · have e54 : (ap4 (ap4 (ap4 (ap4 (ap4 (I) 54 0 9 n a1) 54 0 9 (n + 4) a2) 54 0 9 (n + 8) a3) 54 0 9 (n + 12) a4) 54 0 9 (n + 16) a5) 54 = tp4 (tp4 (tp4 (tp4 (tp4 (I 54) n a1) (n + 4) a2) (n + 8) a3) (n + 12) a4) (n + 16) a5 := by
        rw [ap4_t _ _ (by decide), ap4_t _ _ (by decide), ap4_t _ _ (by decide), ap4_t _ _ (by decide), ap4_t _ _ (by decide)]
      have e73 : (ap4 (ap4 (ap4 (ap4 (ap4 (up2 (ap4 (ap4 (ap4 (ap4 (ap4 (I) 54 0 9 n a1) 54 0 9 (n + 4) a2) 54 0 9 (n + 8) a3) 54 0 9 (n + 12) a4) 54 0 9 (n + 16) a5) 55 0 0) 73 55 26 n a1) 73 55 26 (n + 4) a2) 73 55 26 (n + 8) a3) 73 55 26 (n + 12) a4) 73 55 26 (n + 16) a5) 73 = tp4 (tp4 (tp4 (tp4 (tp4 (I 73) n a1) (n + 4) a2) (n + 8) a3) (n + 12) a4) (n + 16) a5 := by
        rw [ap4_t _ _ (by decide), ap4_t _ _ (by decide), ap4_t _ _ (by decide), ap4_t _ _ (by decide), ap4_t _ _ (by decide)]
        rfl
      have key := tp4_rel a5 (tp4_rel a4 (tp4_rel a3 (tp4_rel a2 (tp4_rel a1 rtp.2.2.2))))
      intro j hj
      show (ap4 (ap4 (ap4 (ap4 (ap4 (I) 54 0 9 n a1) 54 0 9 (n + 4) a2) 54 0 9 (n + 8) a3) 54 0 9 (n + 12) a4) 54 0 9 (n + 16) a5) 54 j = (ap4 (ap4 (ap4 (ap4 (ap4 (up2 (ap4 (ap4 (ap4 (ap4 (ap4 (I) 54 0 9 n a1) 54 0 9 (n + 4) a2) 54 0 9 (n + 8) a3) 54 0 9 (n + 12) a4) 54 0 9 (n + 16) a5) 55 0 0) 73 55 26 n a1) 73 55 26 (n + 4) a2) 73 55 26 (n + 8) a3) 73 55 26 (n + 12) a4) 73 55 26 (n + 16) a5) 73 j ∧ vb 256 ((ap4 (ap4 (ap4 (ap4 (ap4 (I) 54 0 9 n a1) 54 0 9 (n + 4) a2) 54 0 9 (n + 8) a3) 54 0 9 (n + 12) a4) 54 0 9 (n + 16) a5) 54 j)
      rw [e54, e73]
      exact key j hj
  · have c1 : ¬ nI n + 20 ≤ (400 : Int32) := by
      rw [show nI n + 20 = nI (n + 20) from nI_add n 20]
      exact nI_ge (a := 400) (by omega) (by omega)
    have c2 : ¬ nI n ≤ (380 : Int32) := nI_ge (a := 380) (by omega) (by omega)
    refine ⟨-1, I, up2 I 55 0 0, ?_, ?_, c, w, p, t, y, d, ln, n, ⟨hb, ⟨⟨hc1, hc2⟩, hst, ⟨hy1, hy2⟩, ⟨hw1, hw2⟩, ⟨hp1, hp2⟩, ⟨ht1, ht2⟩, ⟨hl1, hl2⟩, ⟨hd1, hd2⟩⟩, ⟨rpo, rpa, rho, rvi, rtr, rta, rsa, rbe, rne, rde, rlo, rli, rru⟩⟩, rtp, rmi, rke⟩
    · unfold F_X11_feed_0; rw [h9, if_neg c1]
    · unfold F_X12_feed_55; rw [am_let_s, show (up2 I 55 0 0) 55 26 = nI n from h26, if_neg c2]
