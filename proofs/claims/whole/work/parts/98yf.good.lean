/-! text: on success -/
theorem cc9_k {J : am_IT} {q : Nat} (h1 : q ≠ 11) (h2 : q ≠ 12) (h3 : q ≠ 13) (h4 : q ≠ 14) : cc9 J q = J q := by
  funext j
  unfold cc9 cpy2
  rw [if_neg (by omega), if_neg (by omega), if_neg (by omega), up2_k _ _ h1, up2_k _ _ h1]
theorem cc9_11 {J : am_IT} {j : Nat} : cc9 J 11 j = up2 (up2 J 11 0 (J 48 0)) 11 1 (J 48 1) 11 j := by
  unfold cc9 cpy2
  rw [if_neg (by omega), if_neg (by omega), if_neg (by omega)]
theorem cc9_12 {J : am_IT} {j : Nat} (h : j < 16) : cc9 J 12 j = J 49 j := by
  unfold cc9 cpy2
  rw [if_neg (by omega), if_neg (by omega), if_pos (by omega), up2_k _ _ (by decide), up2_k _ _ (by decide), Nat.sub_zero, Nat.zero_add]
theorem cc9_13 {J : am_IT} {j : Nat} (h : j < 16) : cc9 J 13 j = J 50 j := by
  unfold cc9 cpy2
  rw [if_neg (by omega), if_pos (by omega), if_neg (by omega), up2_k _ _ (by decide), up2_k _ _ (by decide), Nat.sub_zero, Nat.zero_add]
theorem cc9_14 {J : am_IT} {j : Nat} (h : j < 400) : cc9 J 14 j = J 51 j := by
  unfold cc9 cpy2
  rw [if_pos (by omega), if_neg (by omega), if_neg (by omega), up2_k _ _ (by decide), up2_k _ _ (by decide), Nat.sub_zero, Nat.zero_add]
def dR9 (N c : Nat) (K : am_IT) : am_IT := up2 (cpC9 N (cpL9 c (up2 K 55 26 0))) 55 32 (nI c)
theorem dR_q {N c : Nat} {K : am_IT} {q : Nat} (h1 : q ≠ 55) (h2 : q < 75 ∨ 79 < q) : dR9 N c K q = K q := by
  funext j
  unfold dR9
  rw [up2_k _ _ h1]
  unfold cpC9 cpL9
  rw [if_neg (by omega), if_neg (by omega), up2_k _ _ h1]
theorem dR_55 {N c : Nat} {K : am_IT} {j : Nat} (h : j ≠ 32) : dR9 N c K 55 j = up2 K 55 26 0 55 j := by
  unfold dR9
  rw [up2_j _ _ h]
  unfold cpC9 cpL9
  rw [if_neg (by omega), if_neg (by omega)]
theorem dR_75 {N c : Nat} {K : am_IT} {q j : Nat} (h : q = 75 ∨ q = 76 ∨ q = 77) (hj : j < c) : dR9 N c K q j = K q (16 + j) := by
  unfold dR9
  rw [up2_k _ _ (by omega)]
  unfold cpC9 cpL9
  rw [if_neg (by omega), if_pos ⟨h, hj⟩, up2_k _ _ (by omega)]
theorem dR_78 {N c : Nat} {K : am_IT} {q j : Nat} (h : q = 78 ∨ q = 79) (hj : j < N) : dR9 N c K q j = K q (400 + j) := by
  unfold dR9
  rw [up2_k _ _ (by omega)]
  unfold cpC9 cpL9
  rw [if_pos ⟨h, hj⟩, if_neg (by omega), up2_k _ _ (by omega)]
/-- the two rules that stand there are one -/
theorem rRule_9 {B : Nat → Int32} {n m k k2 : Nat} {T : Nat → Int32} {S E : Nat → Nat} {I H J I' Q : am_IT} {L L2 : List rOp} {ls : List (Nat × List rOp)} (hm : m ≤ 400) (hL : L.length ≤ k) (F : lS m T S I k L ls J) (X : mX9 B n m T S E H k2 L2 ls I') (g : ∀ q ∈ ls, gd9 q) (q12 : ∀ j, j < 16 → Q 12 j = J 49 j) (q13 : ∀ j, j < 16 → Q 13 j = J 50 j) (q14 : ∀ j, j < 400 → Q 14 j = J 51 j) (q75 : ∀ q j, (q = 75 ∨ q = 76 ∨ q = 77) → j < ls.length → Q q j = I' q (16 + j)) (q78 : ∀ q j, (q = 78 ∨ q = 79) → j < (rRefs L).length → Q q j = I' q (400 + j)) : rRule ls.length (nI L.length) (Q 12) (Q 13) (Q 14) (Q 75) (Q 76) (Q 77) (Q 78) (Q 79) := by
  obtain ⟨⟨_, c7, _, _, _, c11⟩, _, _, _, _, f6, f7, f8⟩ := F
  obtain ⟨M, _, _, x4, x5, x6, _⟩ := X
  have hk2 : k2 ≤ m := M.1
  have M6 := M.2.2.2.2.2.1
  have e2 : L2 = L := x6.trans f7.symm
  rw [e2] at x4 M6
  have b1 : L.length ≤ 400 := by omega
  have b2 : (rRefs L).length ≤ 400 := by omega
  refine ⟨ls, rfl, fun l mm code hl => ?_, by rw [← f7]; exact b1, by rw [← f7]; exact b2, by rw [← f7], fun i o ho => ?_, fun i a c ho => ?_⟩
  · have hlt : l < ls.length := by
      rcases Nat.lt_or_ge l ls.length with h | h
      · exact h
      · rw [List.getElem?_eq_none h] at hl; cases hl
    obtain ⟨g1, g2, g3⟩ := g (mm, code) (List.mem_of_getElem? hl)
    obtain ⟨u1, u2⟩ := f6 l mm code hl
    obtain ⟨w1, w2, w3⟩ := x5 l mm code hl
    exact ⟨g1, (q12 l (by omega)).trans u1, (q75 75 l (Or.inl rfl) hlt).trans w1, g2, g3, (q13 l (by omega)).trans u2, (q75 76 l (Or.inr (Or.inl rfl)) hlt).trans w2, (q75 77 l (Or.inr (Or.inr rfl)) hlt).trans w3⟩
  · rw [← f7] at ho
    have hlt : i < L.length := by
      rcases Nat.lt_or_ge i L.length with h | h
      · exact h
      · rw [List.getElem?_eq_none h] at ho; cases ho
    exact (q14 i (by omega)).trans (c11 i o ho)
  · rw [← f7] at ho
    have hlt : i < (rRefs L).length := by
      rcases Nat.lt_or_ge i (rRefs L).length with h | h
      · exact h
      · rw [List.getElem?_eq_none h] at ho; cases ho
    obtain ⟨w1, w2⟩ := M6 i a c ho
    exact ⟨(q78 78 i (Or.inl rfl) hlt).trans w1, fun _ => (q78 79 i (Or.inr rfl) hlt).trans w2⟩
theorem op13_s {b : Bool} {I J : am_IT} {n m k : Nat} {s e : Nat → Nat} {t : Nat → Int32} {L : List rOp} {ls : List (Nat × List rOp)} (hR : RI b I) (hn : n ≤ 400) (h26 : I 55 26 = nI n) (ht : ∀ j, j < n → I 54 j = I 73 j ∧ vb 256 (I 54 j)) (h74 : ∀ j, j < 85 → I 74 j = rWords.getD j 0) (Z : TZ (I 54) n m s e t) (e1 : F_X7_read_47_54 I (I 0 9) = some (1, J)) (hL : L.length ≤ k) (F : lS m (tT m t) (pS9 m n s) I k L ls J) (hg : gt (tT m t) 1000 0 [] [] = .inl ls) : ∃ (r : Int32) (I1 : am_IT) (I2 : am_IT), F_X11_text_0 I = some (r, I1) ∧ F_X12_text_55 I1 = some (r, I2) ∧ RI b I2 := by
  have hm : m ≤ 400 := by have := Z.2.1; omega
  have hT3 : ∀ k, m ≤ k → tT m t k = 300 := fun k hk => if_neg (by omega)
  have gd := gt_p (m := m) (tT_ok (fun j hj => (ht j hj).2) Z) hT3 1000 0 [] [] ls (Nat.zero_le _) (by intro q h; cases h) hg
  have F0 := F
  obtain ⟨⟨_, _, _, _, c10, _⟩, f2, f3, f4, f5, _, f7, f8⟩ := F
  have eC := c_textS e1
  obtain ⟨K, hK⟩ : ∃ K, K = up2 (up2 (up2 J 0 9 0) 0 10 (J 47 1)) 0 11 (J 47 2) := ⟨_, rfl⟩
  rw [← hK] at eC
  have k0 : ∀ q, q ≠ 0 → K q = J q := fun q h => by rw [hK, up2_k _ _ h, up2_k _ _ h, up2_k _ _ h]
  have k09 : K 0 9 = 0 ∧ K 0 10 = 0 ∧ K 0 11 = -1 := by rw [hK]; exact ⟨rfl, f4, f5⟩
  have g : ∀ q, q ≠ 0 → q ≠ 11 → q ≠ 12 → q ≠ 13 → q ≠ 14 → (q < 47 ∨ 53 < q) → cc9 K q = I q := fun q h0 h1 h2 h3 h4 h5 => by
    rw [cc9_k h1 h2 h3 h4, k0 q h0]; exact f2 q h5
  have R : RE (I 54) n (cc9 K) := RE_of (b := b) hn h26 ht h74 (by rw [g 55 (by decide) (by decide) (by decide) (by decide) (by decide) (by decide)]) (g 73 (by decide) (by decide) (by decide) (by decide) (by decide) (by decide)) (g 74 (by decide) (by decide) (by decide) (by decide) (by decide) (by decide))
  obtain ⟨J2, r2, I', e2, e3, O⟩ := r_text0 R Z
  rw [hg] at O
  obtain ⟨hr2, k2, L2, X⟩ := O
  have X0 := X
  obtain ⟨M, W, _, x4, _, x6, _⟩ := X
  have hk2 : k2 ≤ m := M.1
  have eL : L2 = L := x6.trans f7.symm
  have h38 : I' 55 38 = nI (rRefs L).length := by rw [← eL]; exact M.2.2.2.2.1
  have hN : (rRefs L).length ≤ 400 := by rw [← eL]; omega
  have eR := r_textS (c := ls.length) (N := (rRefs L).length) e2 e3 hr2 f8 hN h38
  have ti : ∀ q, q ≠ 55 → tI9 (cc9 K) q = cc9 K q := fun q h => by
    unfold tI9
    rw [up2_k _ _ h, up2_k _ _ h, up2_k _ _ h, up2_k _ _ h, up2_k _ _ h, up2_k _ _ h]
  have w : ∀ q, q ≠ 55 → (q < 75 ∨ 80 < q) → dR9 (rRefs L).length ls.length I' q = cc9 K q := fun q h1 h2 => by
    rw [dR_q h1 (by omega), W.1 q h1 h2, ti q h1]
  rw [f3] at eC
  refine ⟨nI ls.length, cc9 K, dR9 (rRefs L).length ls.length I', eC, eR, ?_⟩
  have hr : rRule ls.length (nI L.length) (dR9 (rRefs L).length ls.length I' 12) (dR9 (rRefs L).length ls.length I' 13) (dR9 (rRefs L).length ls.length I' 14) (dR9 (rRefs L).length ls.length I' 75) (dR9 (rRefs L).length ls.length I' 76) (dR9 (rRefs L).length ls.length I' 77) (dR9 (rRefs L).length ls.length I' 78) (dR9 (rRefs L).length ls.length I' 79) := by
    refine rRule_9 hm hL F0 X0 gd (fun j hj => ?_) (fun j hj => ?_) (fun j hj => ?_) (fun q j h hj => dR_75 h hj) (fun q j h hj => dR_78 h hj)
    · rw [w 12 (by decide) (by decide), cc9_12 hj, k0 49 (by decide)]
    · rw [w 13 (by decide) (by decide), cc9_13 hj, k0 50 (by decide)]
    · rw [w 14 (by decide) (by decide), cc9_14 hj, k0 51 (by decide)]
  refine RI_sm (tR_sm (ln := nI ls.length) (sc := nI L.length) (x := 0) (y := -1) (I := I) (fun a j ma hs n12 n13 n14 n75 n32 n110 n111 => ?_) ?_ ?_ ?_ ?_ ?_ ?_ ?_ ?_ ?_) (RI_tr (Q := dR9 (rRefs L).length ls.length I') 0 (-1) hR f8 hr)
  · rcases mt_c ma with ⟨rfl, hj⟩ | ⟨ha, hj⟩ | ⟨ha, hj⟩ | ⟨rfl, hj⟩ | ⟨h0, h55, ha, hb⟩
    · have nj : j ≠ 26 ∧ j ≠ 44 ∧ j ≠ 45 ∧ j ≠ 32 := ⟨fun z => hs (by unfold six9; omega), fun z => hs (by unfold six9; omega), fun z => hs (by unfold six9; omega), fun z => n32 ⟨rfl, z⟩⟩
      rw [dR_55 nj.2.2.2, up2_j _ _ nj.1, W.2.1 j (by omega) (by omega) (by omega) (by omega) (by omega) (by omega)]
      unfold tI9
      rw [up2_j _ _ (by omega), up2_j _ _ (by omega), up2_j _ _ (by omega), up2_j _ _ (by omega), up2_j _ _ (by omega), up2_j _ _ (by omega), g 55 (by decide) (by decide) (by decide) (by decide) (by decide) (by decide)]
    · omega
    · omega
    · exact absurd (Or.inl ⟨rfl, hj⟩) hs
    · rw [w a h55 hb]
      by_cases h11 : a = 11
      · subst h11
        rw [cc9_11, up2_j _ _ (fun z => n111 ⟨rfl, z⟩), up2_j _ _ (fun z => n110 ⟨rfl, z⟩), k0 11 (by decide), f2 11 (by decide)]
      · rw [g a h0 h11 n12 n13 n14 ha]
  · rw [w 0 (by decide) (by decide), cc9_k (by decide) (by decide) (by decide) (by decide)]; exact k09.1
  · rw [dR_55 (by decide)]; exact up2_s _ _ _ _
  · rw [w 0 (by decide) (by decide), cc9_k (by decide) (by decide) (by decide) (by decide)]; exact k09.2.1
  · rw [dR_55 (by decide), up2_j _ _ (by decide), W.2.1 44 (by omega) (by omega) (by omega) (by omega) (by omega) (by omega)]; rfl
  · rw [w 0 (by decide) (by decide), cc9_k (by decide) (by decide) (by decide) (by decide)]; exact k09.2.2
  · rw [dR_55 (by decide), up2_j _ _ (by decide), W.2.1 45 (by omega) (by omega) (by omega) (by omega) (by omega) (by omega)]; rfl
  · rw [w 11 (by decide) (by decide), cc9_11, up2_j _ _ (by decide), up2_s, k0 48 (by decide)]; exact f3
  · rw [w 11 (by decide) (by decide), cc9_11, up2_s, k0 48 (by decide)]; exact c10
  · exact up2_s _ _ _ _
theorem op_13 : am_op13 RI := by
  intro b I _ hR
  have hR0 := hR
  obtain ⟨c, w, p, t, y, d, ln, n, _, ⟨t1, t2, t3, t4⟩, ⟨_, _, _, m4⟩, _⟩ := hR
  obtain ⟨m, s, e, t, Z, r, J, e1, O⟩ := c_read (I := I) (B := I 54) t1 (fun _ _ => rfl) (fun i hi => (t4 i hi).2)
  rw [← t2] at e1
  cases hg : gt (tT m t) 1000 0 [] [] with
  | inl ls =>
    rw [hg] at O
    obtain ⟨rfl, k, L, hL, F⟩ := O
    exact op13_s hR0 t1 t3 t4 m4 Z e1 hL F hg
  | inr q =>
    obtain ⟨fq, kq⟩ := q
    rw [hg] at O
    obtain ⟨rfl, F⟩ := O
    exact op13_f hR0 t1 t3 t4 m4 Z e1 F hg
