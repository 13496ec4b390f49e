theorem cl0_0 (x : Int32) : 0 ≤ cl0 x := by
  unfold cl0
  by_cases h : x < 0
  · rw [if_pos h]; decide
  · rw [if_neg h]; exact Int32.not_lt.mp h
/-- the yards of wall u from where each lives, in the class's measure -/
def yC (I : am_IT) (t u : Nat) : Nat → Int32 := fun j => mC I t (7 * (I 4 j).toNatClampNeg + u)
/-- the yards of wall u from where each lives -/
def yW (I : am_IT) (t u : Nat) : Nat → Int32 := fun j => cl0 (tS I (I 57 j).toNatClampNeg u t)
theorem hse {p : Nat} {I : am_IT} (rho : rHouse p (I 4) (I 57)) {j : Nat} (hj : j < p) : ∃ h, h < 8 ∧ I 4 j = nI h ∧ I 57 j = nI h ∧ (I 57 j).toNatClampNeg = h := by
  obtain ⟨e, h, hh, eh⟩ := rho.1 j hj
  exact ⟨h, hh, eh, e.symm.trans eh, by rw [← e, eh, nI_clamp (by omega)]⟩
theorem e_dec_8 {I : am_IT} {p c yr w t ln : Nat} {ls : List (Nat × List rOp)} {lw lf lt : Nat → Int32} (hp : I 1 4 = nI p) (hp7 : p ≤ 7) (hc : I 1 0 = nI c) (h1 : 2 ≤ c) (h2 : c ≤ 4) (hyr : I 1 2 = nI yr) (hyb : yr ≤ 999) (hw : I 1 3 = nI w) (hw7 : w ≤ 7) (ht : I 1 5 = nI t) (htb : t ≤ 20)
    (hH : ∀ j, j < p → ∃ h, h < 8 ∧ I 4 j = nI h) (htr : ∀ i, i < t → ∃ q, q < 56 ∧ I 6 (3 * i) = nI q) (hlen : ls.length = ln) (h16 : ln ≤ 16) (h11 : I 11 0 = nI ln)
    (q1 : ∀ (l m : Nat) (code : List rOp), ls[l]? = some (m, code) → m < 6 ∧ I 12 l = nI (261 + m) ∧ lw l = nI (1 + m) ∧ (∀ o ∈ code, rOpOk o) ∧ (code = [] ∨ rRun code [] = some [true]) ∧
    I 13 l = nI ((ls.take (l + 1)).map (fun q => q.2.length)).sum ∧ lf l = nI ((ls.take l).map (fun q => (rRefs q.2).length)).sum ∧ lt l = nI ((ls.take (l + 1)).map (fun q => (rRefs q.2).length)).sum)
    (q2 : (ls.flatMap (fun q => q.2)).length ≤ 400) (q5 : ∀ k o, (ls.flatMap (fun q => q.2))[k]? = some o → I 14 k = nI (16 * o.2 + o.1)) :
    ∃ J : am_IT, F_X2_decide_25_8 I = some J ∧ (∀ u, u < w → J 26 u = dC ls (I 3 u) (yC I t u) (fun i k => I 8 (4 * i + k)) c p u yr) ∧ J 24 = mC I t ∧ ∀ k, k ≠ 24 → k ≠ 26 → k ≠ 28 → k ≠ 29 → J k = I k := by
  unfold F_X2_decide_25_8
  rw [e_meas ht htb htr, am_b1_s]
  refine it_b1_inv (R := fun z => ∃ J : am_IT, z = some J ∧ (∀ u, u < w → J 26 u = dC ls (I 3 u) (yC I t u) (fun i k => I 8 (4 * i + k)) c p u yr) ∧ J 24 = mC I t ∧ ∀ k, k ≠ 24 → k ≠ 26 → k ≠ 28 → k ≠ 29 → J k = I k)
    (fun i x => ∃ J : am_IT, x = (nI i, J) ∧ (∀ u, u < i → J 26 u = dC ls (I 3 u) (yC I t u) (fun i k => I 8 (4 * i + k)) c p u yr) ∧ J 24 = mC I t ∧ ∀ k, k ≠ 24 → k ≠ 26 → k ≠ 28 → k ≠ 29 → J k = I k)
    (fun J => (∀ u, u < w → J 26 u = dC ls (I 3 u) (yC I t u) (fun i k => I 8 (4 * i + k)) c p u yr) ∧ J 24 = mC I t ∧ ∀ k, k ≠ 24 → k ≠ 26 → k ≠ 28 → k ≠ 29 → J k = I k) (n := w) (by omega) ?_ ?_ ⟨st2 I 24 (mC I t), rfl, fun u hu => absurd hu (Nat.not_lt_zero u), st2_s _ _ _, fun k h _ _ _ => st2_k _ _ h⟩ (fun J h => ⟨J, rfl, h⟩)
  · rintro u x hu ⟨J, rfl, j26, j24, jk⟩
    have j1 := jk 1 (by decide) (by decide) (by decide) (by decide)
    have j3 := jk 3 (by decide) (by decide) (by decide) (by decide)
    have j4 := jk 4 (by decide) (by decide) (by decide) (by decide)
    have jC := jk 8 (by decide) (by decide) (by decide) (by decide)
    have j11 := jk 11 (by decide) (by decide) (by decide) (by decide)
    have j12 := jk 12 (by decide) (by decide) (by decide) (by decide)
    have j13 := jk 13 (by decide) (by decide) (by decide) (by decide)
    have j14 := jk 14 (by decide) (by decide) (by decide) (by decide)
    obtain ⟨K, hK, kk⟩ := e_dw_8 (I := J) (p := p) (u := u) (c := c) (yr := yr) (w := w) (y := yC I t u) (lw := lw) (lf := lf) (lt := lt) (by rw [j1]; exact hp) hp7 (by rw [j1]; exact hc) h1 h2 (by rw [j1]; exact hyr) (by omega) (by omega) (fun j hj => by
      obtain ⟨h, hh, e4⟩ := hH j hj
      refine ⟨h, hh, by rw [j4]; exact e4, ?_⟩
      unfold yC
      rw [j24, e4, nI_clamp (by omega)]) (fun j hj => by
      obtain ⟨h, hh, e4⟩ := hH j hj
      unfold yC mC
      rw [e4, nI_clamp (by omega), if_pos (by omega)]
      exact cl0_0 _) hlen h16 (by rw [j11]; exact h11) (by rw [j12, j13]; exact q1) q2 (by rw [j14]; exact q5)
    rw [j3, jC] at hK
    refine ⟨(nI (u + 1), up2 K 26 u (dC ls (I 3 u) (yC I t u) (fun i k => I 8 (4 * i + k)) c p u yr)), ?_, _, rfl, ?_, ?_, ?_⟩
    · rw [am_u2_s, show J 1 3 = nI w by rw [j1]; exact hw, if_neg (nI_ge hu (by omega)), hK, am_b2_s, if_pos (am_ix_nI (by omega) (by decide)), am_let_s, am_let_s, nI_clamp (by omega), nI_1]
    · intro v hv
      by_cases e : v = u
      · subst e; exact up2_s _ _ _ _
      · rw [up2_j _ _ e, kk 26 (by decide) (by decide)]; exact j26 v (by omega)
    · rw [up2_k _ _ (by decide), kk 24 (by decide) (by decide)]; exact j24
    · intro k h24 h26 h28 h29
      rw [up2_k _ _ h26, kk k h28 h29]; exact jk k h24 h26 h28 h29
  · rintro x ⟨J, rfl, j26, j24, jk⟩
    refine ⟨J, ?_, j26, j24, jk⟩
    rw [am_u2_s, show J 1 3 = nI w by rw [jk 1 (by decide) (by decide) (by decide) (by decide)]; exact hw, if_pos (nI_le (Nat.le_refl w) (by omega))]
theorem e_dec_27 {I : am_IT} {p c yr w t ln : Nat} {ls : List (Nat × List rOp)} {lw lf lt : Nat → Int32} (hp : I 1 4 = nI p) (hp7 : p ≤ 7) (hc : I 1 0 = nI c) (h1 : 2 ≤ c) (h2 : c ≤ 4) (hyr : I 1 2 = nI yr) (hyb : yr ≤ 999) (hw : I 1 3 = nI w) (hw7 : w ≤ 7) (ht : I 1 5 = nI t) (htb : t ≤ 20)
    (hH : ∀ j, j < p → ∃ h, h < 8 ∧ I 4 j = nI h) (htr : ∀ i, i < t → ∃ q, q < 56 ∧ I 6 (3 * i) = nI q) (hlen : ls.length = ln) (h16 : ln ≤ 16) (h11 : I 11 0 = nI ln)
    (q1 : ∀ (l m : Nat) (code : List rOp), ls[l]? = some (m, code) → m < 6 ∧ I 12 l = nI (261 + m) ∧ lw l = nI (1 + m) ∧ (∀ o ∈ code, rOpOk o) ∧ (code = [] ∨ rRun code [] = some [true]) ∧
    I 13 l = nI ((ls.take (l + 1)).map (fun q => q.2.length)).sum ∧ lf l = nI ((ls.take l).map (fun q => (rRefs q.2).length)).sum ∧ lt l = nI ((ls.take (l + 1)).map (fun q => (rRefs q.2).length)).sum)
    (q2 : (ls.flatMap (fun q => q.2)).length ≤ 400) (q5 : ∀ k o, (ls.flatMap (fun q => q.2))[k]? = some o → I 14 k = nI (16 * o.2 + o.1)) :
    ∃ J : am_IT, F_X2_decide_25_27 I = some J ∧ (∀ u, u < w → J 26 u = dC ls (I 3 u) (yC I t u) (fun i k => I 27 (4 * i + k)) c p u yr) ∧ J 24 = mC I t ∧ ∀ k, k ≠ 24 → k ≠ 26 → k ≠ 28 → k ≠ 29 → J k = I k := by
  unfold F_X2_decide_25_27
  rw [e_meas ht htb htr, am_b1_s]
  refine it_b1_inv (R := fun z => ∃ J : am_IT, z = some J ∧ (∀ u, u < w → J 26 u = dC ls (I 3 u) (yC I t u) (fun i k => I 27 (4 * i + k)) c p u yr) ∧ J 24 = mC I t ∧ ∀ k, k ≠ 24 → k ≠ 26 → k ≠ 28 → k ≠ 29 → J k = I k)
    (fun i x => ∃ J : am_IT, x = (nI i, J) ∧ (∀ u, u < i → J 26 u = dC ls (I 3 u) (yC I t u) (fun i k => I 27 (4 * i + k)) c p u yr) ∧ J 24 = mC I t ∧ ∀ k, k ≠ 24 → k ≠ 26 → k ≠ 28 → k ≠ 29 → J k = I k)
    (fun J => (∀ u, u < w → J 26 u = dC ls (I 3 u) (yC I t u) (fun i k => I 27 (4 * i + k)) c p u yr) ∧ J 24 = mC I t ∧ ∀ k, k ≠ 24 → k ≠ 26 → k ≠ 28 → k ≠ 29 → J k = I k) (n := w) (by omega) ?_ ?_ ⟨st2 I 24 (mC I t), rfl, fun u hu => absurd hu (Nat.not_lt_zero u), st2_s _ _ _, fun k h _ _ _ => st2_k _ _ h⟩ (fun J h => ⟨J, rfl, h⟩)
  · rintro u x hu ⟨J, rfl, j26, j24, jk⟩
    have j1 := jk 1 (by decide) (by decide) (by decide) (by decide)
    have j3 := jk 3 (by decide) (by decide) (by decide) (by decide)
    have j4 := jk 4 (by decide) (by decide) (by decide) (by decide)
    have jC := jk 27 (by decide) (by decide) (by decide) (by decide)
    have j11 := jk 11 (by decide) (by decide) (by decide) (by decide)
    have j12 := jk 12 (by decide) (by decide) (by decide) (by decide)
    have j13 := jk 13 (by decide) (by decide) (by decide) (by decide)
    have j14 := jk 14 (by decide) (by decide) (by decide) (by decide)
    obtain ⟨K, hK, kk⟩ := e_dw_27 (I := J) (p := p) (u := u) (c := c) (yr := yr) (w := w) (y := yC I t u) (lw := lw) (lf := lf) (lt := lt) (by rw [j1]; exact hp) hp7 (by rw [j1]; exact hc) h1 h2 (by rw [j1]; exact hyr) (by omega) (by omega) (fun j hj => by
      obtain ⟨h, hh, e4⟩ := hH j hj
      refine ⟨h, hh, by rw [j4]; exact e4, ?_⟩
      unfold yC
      rw [j24, e4, nI_clamp (by omega)]) (fun j hj => by
      obtain ⟨h, hh, e4⟩ := hH j hj
      unfold yC mC
      rw [e4, nI_clamp (by omega), if_pos (by omega)]
      exact cl0_0 _) hlen h16 (by rw [j11]; exact h11) (by rw [j12, j13]; exact q1) q2 (by rw [j14]; exact q5)
    rw [j3, jC] at hK
    refine ⟨(nI (u + 1), up2 K 26 u (dC ls (I 3 u) (yC I t u) (fun i k => I 27 (4 * i + k)) c p u yr)), ?_, _, rfl, ?_, ?_, ?_⟩
    · rw [am_u2_s, show J 1 3 = nI w by rw [j1]; exact hw, if_neg (nI_ge hu (by omega)), hK, am_b2_s, if_pos (am_ix_nI (by omega) (by decide)), am_let_s, am_let_s, nI_clamp (by omega), nI_1]
    · intro v hv
      by_cases e : v = u
      · subst e; exact up2_s _ _ _ _
      · rw [up2_j _ _ e, kk 26 (by decide) (by decide)]; exact j26 v (by omega)
    · rw [up2_k _ _ (by decide), kk 24 (by decide) (by decide)]; exact j24
    · intro k h24 h26 h28 h29
      rw [up2_k _ _ h26, kk k h28 h29]; exact jk k h24 h26 h28 h29
  · rintro x ⟨J, rfl, j26, j24, jk⟩
    refine ⟨J, ?_, j26, j24, jk⟩
    rw [am_u2_s, show J 1 3 = nI w by rw [jk 1 (by decide) (by decide) (by decide) (by decide)]; exact hw, if_pos (nI_le (Nat.le_refl w) (by omega))]
theorem e_jud {I : am_IT} {p c yr w t ln off : Nat} {s : Nat → Nat → Int32} {ls : List (Nat × List rOp)} {me se : Nat → Int32} (hp : I 55 5 = nI p) (hp7 : p ≤ 7) (hc : I 55 2 = nI c) (h1 : 2 ≤ c) (h2 : c ≤ 4) (hyr : I 55 13 = nI yr) (hyb : yr ≤ 999) (hw : I 55 4 = nI w) (hw7 : w ≤ 7) (ht : I 55 8 = nI t) (htb : t ≤ 20) (ho : off ≤ 28) (ho7 : 7 ≤ off)
    (hH : ∀ j, j < p → ∃ h, h < 8 ∧ I 57 j = nI h) (hs : ∀ J : am_IT, J 55 = I 55 → J 64 = I 64 → ∀ i k, i < p → k < 4 → F_X12_says_55 J (nI i) (nI k) = some (s i k)) (hlen : ls.length = ln) (h16 : ln ≤ 16) (h32 : I 55 32 = nI ln)
    (q1 : ∀ (l m : Nat) (code : List rOp), ls[l]? = some (m, code) → m < 6 ∧ me l = nI (261 + m) ∧ I 75 l = nI (1 + m) ∧ (∀ o ∈ code, rOpOk o) ∧ (code = [] ∨ rRun code [] = some [true]) ∧
    se l = nI ((ls.take (l + 1)).map (fun q => q.2.length)).sum ∧ I 76 l = nI ((ls.take l).map (fun q => (rRefs q.2).length)).sum ∧ I 77 l = nI ((ls.take (l + 1)).map (fun q => (rRefs q.2).length)).sum)
    (q3 : (rRefs (ls.flatMap (fun q => q.2))).length ≤ 400) (q6 : ∀ k a b, (rRefs (ls.flatMap (fun q => q.2)))[k]? = some (a, b) → I 78 k = nI a ∧ (a ≤ 1 → I 79 k = nI b)) :
    ∃ J : am_IT, F_X12_judges_55 I (nI off) = some J ∧ (∀ u, u < w → J 72 (off + u) = dC ls (I 72 u) (yW I t u) s c p u yr) ∧ (∀ j, j < off ∨ off + w ≤ j → J 72 j = I 72 j) ∧ J 83 = yM I t w 8 0 ∧ ∀ k, k ≠ 72 → k ≠ 81 → k ≠ 82 → k ≠ 83 → k ≠ 84 → J k = I k := by
  unfold F_X12_judges_55
  rw [e_fy hw hw7 ht htb, am_b1_s]
  refine it_b1_inv (R := fun z => ∃ J : am_IT, z = some J ∧ (∀ u, u < w → J 72 (off + u) = dC ls (I 72 u) (yW I t u) s c p u yr) ∧ (∀ j, j < off ∨ off + w ≤ j → J 72 j = I 72 j) ∧ J 83 = yM I t w 8 0 ∧ ∀ k, k ≠ 72 → k ≠ 81 → k ≠ 82 → k ≠ 83 → k ≠ 84 → J k = I k)
    (fun i x => ∃ J : am_IT, x = (nI i, J) ∧ (∀ u, u < i → J 72 (off + u) = dC ls (I 72 u) (yW I t u) s c p u yr) ∧ (∀ j, j < off ∨ off + i ≤ j → J 72 j = I 72 j) ∧ J 83 = yM I t w 8 0 ∧ ∀ k, k ≠ 72 → k ≠ 81 → k ≠ 82 → k ≠ 83 → k ≠ 84 → J k = I k)
    (fun J => (∀ u, u < w → J 72 (off + u) = dC ls (I 72 u) (yW I t u) s c p u yr) ∧ (∀ j, j < off ∨ off + w ≤ j → J 72 j = I 72 j) ∧ J 83 = yM I t w 8 0 ∧ ∀ k, k ≠ 72 → k ≠ 81 → k ≠ 82 → k ≠ 83 → k ≠ 84 → J k = I k) (n := w) (by omega) ?_ ?_ ⟨st2 I 83 (yM I t w 8 0), rfl, fun u hu => absurd hu (Nat.not_lt_zero u), fun j _ => rfl, st2_s _ _ _, fun k _ _ _ h _ => st2_k _ _ h⟩ (fun J h => ⟨J, rfl, h⟩)
  · rintro u x hu ⟨J, rfl, j72, j72b, j83, jk⟩
    have g : ∀ k, k ≠ 72 ∧ k ≠ 81 ∧ k ≠ 82 ∧ k ≠ 83 ∧ k ≠ 84 → J k = I k := fun k h => jk k h.1 h.2.1 h.2.2.1 h.2.2.2.1 h.2.2.2.2
    have k55 := g 55 (by decide)
    have k57 := g 57 (by decide)
    have k64 := g 64 (by decide)
    have k75 := g 75 (by decide)
    have k76 := g 76 (by decide)
    have k77 := g 77 (by decide)
    have k78 := g 78 (by decide)
    have k79 := g 79 (by decide)
    obtain ⟨K, hK, kk⟩ := e_jc (I := J) (p := p) (u := u) (c := c) (yr := yr) (s := s) (y := yW I t u) (me := me) (se := se) (by rw [k55]; exact hp) hp7 (by rw [k55]; exact hc) h1 h2 (by rw [k55]; exact hyr) (by omega) (by omega) (fun j hj => by
      obtain ⟨h, hh, e57⟩ := hH j hj
      refine ⟨h, hh, by rw [k57]; exact e57, ?_⟩
      rw [j83, yM_Y I hh hu hw7]
      unfold yW
      rw [e57, nI_clamp (by omega)]) (fun j _ => cl0_0 _) (fun K h55 h64 => hs K (h55.trans k55) (h64.trans k64)) hlen h16 (by rw [k55]; exact h32) (by rw [k75, k76, k77]; exact q1) q3 (by rw [k78, k79]; exact q6)
    rw [j72b u (Or.inl (by omega))] at hK
    refine ⟨(nI (u + 1), up2 K 72 (off + u) (dC ls (I 72 u) (yW I t u) s c p u yr)), ?_, _, rfl, ?_, ?_, ?_, ?_⟩
    · rw [am_u2_s, show J 55 4 = nI w by rw [k55]; exact hw, if_neg (nI_ge hu (by omega)), hK, am_b2_s, nI_add, if_pos (am_ix_nI (by omega) (by decide)), am_let_s, am_let_s, nI_clamp (by omega), nI_1]
    · intro v hv
      by_cases e : v = u
      · subst e; exact up2_s _ _ _ _
      · rw [up2_j _ _ (by omega), kk 72 (by decide) (by decide) (by decide)]; exact j72 v (by omega)
    · intro j hj
      rw [up2_j _ _ (by omega), kk 72 (by decide) (by decide) (by decide)]; exact j72b j (by omega)
    · rw [up2_k _ _ (by decide), kk 83 (by decide) (by decide) (by decide)]; exact j83
    · intro k h72 h81 h82 h83 h84
      rw [up2_k _ _ h72, kk k h81 h82 h84]; exact jk k h72 h81 h82 h83 h84
  · rintro x ⟨J, rfl, j72, j72b, j83, jk⟩
    refine ⟨J, ?_, j72, j72b, j83, jk⟩
    rw [am_u2_s, show J 55 4 = nI w by rw [jk 55 (by decide) (by decide) (by decide) (by decide) (by decide)]; exact hw, if_pos (nI_le (Nat.le_refl w) (by omega))]
