/-! saying otherwise -/
theorem e_sa {I : am_IT} {q cc : Nat} (hq : q < 7) (hcc : cc < 4) : ∃ K, F_X2_sayAlone_25 I (nI q) (nI cc) = some K ∧ (∀ i k, i < 7 → k < 4 → K 27 (4 * i + k) = if i = q then (if k = cc then 9 else -9) else I 8 (4 * i + k)) ∧ ∀ a, a ≠ 27 → K a = I a := by
  unfold F_X2_sayAlone_25
  rw [if_pos (by decide), am_let_s]
  refine it_b1_inv (R := fun z => ∃ K : am_IT, z = some K ∧ (∀ i k, i < 7 → k < 4 → K 27 (4 * i + k) = if i = q then (if k = cc then 9 else -9) else I 8 (4 * i + k)) ∧ ∀ a, a ≠ 27 → K a = I a)
    (fun m x => ∃ J : am_IT, x = (nI m, J) ∧ (∀ i k, i < 7 → k < 4 → J 27 (4 * i + k) = if i = q ∧ k < m then (if k = cc then 9 else -9) else I 8 (4 * i + k)) ∧ ∀ a, a ≠ 27 → J a = I a)
    (fun (J : am_IT) => (∀ i k, i < 7 → k < 4 → J 27 (4 * i + k) = if i = q then (if k = cc then 9 else -9) else I 8 (4 * i + k)) ∧ ∀ a, a ≠ 27 → J a = I a) (n := 4) (by omega) ?_ ?_ ⟨_, by rw [nI_0], ?_, ?_⟩ (fun J h => ⟨J, rfl, h⟩)
  · rintro m x hm ⟨J, rfl, j1, j2⟩
    refine ⟨(nI (m + 1), up2 J 27 (4 * q + m) (if m = cc then 9 else -9)), ?_, _, rfl, ?_, ?_⟩
    · rw [am_u2_s, if_neg (show ¬ (4 : Int32) ≤ nI m from nI_ge (a := m) (b := 4) hm (by decide)), m4, nI_1]
      by_cases z : m = cc
      · rw [if_pos (congrArg nI z), if_pos (am_ix_nI (by omega) (by decide)), am_let_s, am_let_s, nI_clamp (by omega), if_pos z]
      · rw [if_neg (fun e => z ((nI_eq (by omega) (by omega)).mp e)), if_pos (am_ix_nI (by omega) (by decide)), am_let_s, am_let_s, nI_clamp (by omega), if_neg z]
    · intro i k hi hk
      rw [up2_r]
      by_cases z : i = q ∧ k = m
      · obtain ⟨rfl, rfl⟩ := z
        rw [if_pos rfl, if_pos (show i = i ∧ k < k + 1 from ⟨rfl, by omega⟩)]
      · rw [if_neg (by omega), j1 i k hi hk]
        by_cases z2 : i = q ∧ k < m
        · rw [if_pos z2, if_pos (show i = q ∧ k < m + 1 from ⟨z2.1, by omega⟩)]
        · rw [if_neg z2, if_neg (by omega)]
    · intro a ha
      rw [up2_k _ _ ha]; exact j2 a ha
  · rintro x ⟨J, rfl, j1, j2⟩
    refine ⟨J, ?_, ?_, j2⟩
    · rw [am_u2_s, if_pos (show (4 : Int32) ≤ nI 4 from by decide)]
    · intro i k hi hk
      rw [j1 i k hi hk]
      by_cases z : i = q
      · rw [if_pos ⟨z, hk⟩, if_pos z]
      · rw [if_neg (fun e => z e.1), if_neg z]
  · intro i k hi hk
    rw [if_neg (by omega)]
    unfold cpy2
    rw [if_pos ⟨rfl, by show 0 ≤ _; omega, by show _ < 0 + 28; omega⟩]
    exact congrArg (I 8) (by show 0 + (4 * i + k - 0) = _; omega)
  · intro a ha
    funext j
    unfold cpy2
    rw [if_neg (fun e => ha e.1)]
theorem e_says2 {J : am_IT} {q cc : Nat} (h49 : J 55 49 = nI q) (h50 : J 55 50 = nI cc) (hq : q < 7) (hcc : cc < 4) : ∀ i k, i < 7 → k < 4 → F_X12_says_55 J (nI i) (nI k) = some (if i = q then (if k = cc then 9 else -9) else J 64 (4 * i + k)) := by
  intro i k hi hk
  unfold F_X12_says_55
  rw [h49, h50]
  by_cases z : i = q
  · rw [if_pos z, if_pos (congrArg nI z)]
    by_cases z2 : k = cc
    · rw [if_pos z2, if_pos (congrArg nI z2)]
    · rw [if_neg z2, if_neg (fun e => z2 ((nI_eq (by omega) (by omega)).mp e))]
  · rw [if_neg z, if_neg (fun e => z ((nI_eq (by omega) (by omega)).mp e)), m4', if_pos (am_ix_nI (by omega) (by decide)), nI_clamp (by omega)]
/-- the judged painting by sayings s, both sides -/
def jd (I : am_IT) (t : Nat) (ls : List (Nat × List rOp)) (c p y : Nat) (s : Nat → Nat → Int32) (u : Nat) : Nat := (dC ls (I 3 u) (yW I t u) s c p u y).toNatClampNeg
theorem jd_ok {I : am_IT} {c w p t y d ln u : Nat} (X : cx I c w p t y d ln) (hu : u < w) (ls : List (Nat × List rOp)) (s : Nat → Nat → Int32) : dC ls (I 3 u) (yW I t u) s c p u y = nI (jd I t ls c p y s u) ∧ jd I t ls c p y s u < c := by
  have b2 : c ≤ 4 := X.1.2.1
  have b1 : 2 ≤ c := X.1.1
  obtain ⟨h1, h2, -⟩ := pN_ok X hu
  obtain ⟨k, hk, ek⟩ := dC_b (ls := ls) (pt := I 3 u) (y := yW I t u) (s := s) (c := c) (p := p) (u := u) (yr := y) b1 ⟨_, h1, h2⟩
  unfold jd
  rw [ek, nI_clamp (by omega)]
  exact ⟨rfl, hk⟩
theorem mCt {I J : am_IT} {c w p t y d ln h u : Nat} (X : cx I c w p t y d ln) (S : sq I J) (hh : h < 8) (hu : u < 7) : mC J t (7 * h + u) = cl0 (tS I h u t) := by
  obtain ⟨⟨b1, b2, b3, b4, b5, b6, b7, b8⟩, ⟨⟨hc1, hc2⟩, hst, ⟨hy1, hy2⟩, ⟨hw1, hw2⟩, ⟨hp1, hp2⟩, ⟨ht1, ht2⟩, ⟨hl1, hl2⟩, ⟨hd1, hd2⟩⟩, ⟨rpo, rpa, rho, rvi, rtr, rta, rsa, rbe, rne, rde, rlo, rli, rru⟩⟩ := X
  rw [mC_Y (I := J) (w := w) (y := y) b3 (by rw [sq_c S (k := 5) rfl, sq_c S (k := 58) rfl]; exact rvi) (by rw [sq_c S (k := 6) rfl, sq_c S (k := 59) rfl, sq_c S (k := 60) rfl, sq_c S (k := 61) rfl, sq_c S (k := 62) rfl]; exact rtr) (by rw [sq_c S (k := 1) rfl, S 55 13 rfl]; exact hy1.trans hy2.symm) hh hu, tS_c (I := I) (J := J) (S 55 13 rfl) (sq_c S rfl) (sq_c S rfl) (sq_c S rfl) (sq_c S rfl) (sq_c S rfl)]
def rLs (ls : List (Nat × List rOp)) (ln : Nat) (sc : Int32) (me se st lw lf lt op ar : Nat → Int32) : Prop := ls.length = ln ∧
  (∀ l m code, ls[l]? = some (m, code) → m < 6 ∧ me l = nI (261 + m) ∧ lw l = nI (1 + m) ∧ (∀ o ∈ code, rOpOk o) ∧ (code = [] ∨ rRun code [] = some [true]) ∧
    se l = nI ((ls.take (l + 1)).map (fun q => q.2.length)).sum ∧ lf l = nI ((ls.take l).map (fun q => (rRefs q.2).length)).sum ∧ lt l = nI ((ls.take (l + 1)).map (fun q => (rRefs q.2).length)).sum) ∧
  (ls.flatMap (fun q => q.2)).length ≤ 400 ∧ (rRefs (ls.flatMap (fun q => q.2))).length ≤ 400 ∧ sc = nI (ls.flatMap (fun q => q.2)).length ∧
  (∀ k o, (ls.flatMap (fun q => q.2))[k]? = some o → st k = nI (16 * o.2 + o.1)) ∧
  (∀ k a b, (rRefs (ls.flatMap (fun q => q.2)))[k]? = some (a, b) → op k = nI a ∧ (a ≤ 1 → ar k = nI b))
theorem rLs_ex {I : am_IT} {c w p t y d ln : Nat} (X : cx I c w p t y d ln) : ∃ ls, rLs ls ln (I 11 1) (I 12) (I 13) (I 14) (I 75) (I 76) (I 77) (I 78) (I 79) := X.2.2.2.2.2.2.2.2.2.2.2.2.2.2
theorem jC_8 {I J : am_IT} {c w p t y d ln : Nat} {ls : List (Nat × List rOp)} {s : Nat → Nat → Int32} (X : cx I c w p t y d ln) (S : sq I J) (h3 : J 3 = I 3) (H : rLs ls ln (I 11 1) (I 12) (I 13) (I 14) (I 75) (I 76) (I 77) (I 78) (I 79)) (hs : ∀ i k, i < p → k < 4 → J 8 (4 * i + k) = s i k) :
    ∃ K, F_X2_decide_25_8 J = some K ∧ (∀ u, u < w → K 26 u = nI (jd I t ls c p y s u)) ∧ (∀ h u, h < 8 → u < 7 → K 24 (7 * h + u) = cl0 (tS I h u t)) ∧ ∀ k, k ≠ 24 → k ≠ 26 → k ≠ 28 → k ≠ 29 → K k = J k := by
  have X0 := X
  obtain ⟨⟨b1, b2, b3, b4, b5, b6, b7, b8⟩, ⟨⟨hc1, hc2⟩, hst, ⟨hy1, hy2⟩, ⟨hw1, hw2⟩, ⟨hp1, hp2⟩, ⟨ht1, ht2⟩, ⟨hl1, hl2⟩, ⟨hd1, hd2⟩⟩, ⟨rpo, rpa, rho, rvi, rtr, rta, rsa, rbe, rne, rde, rlo, rli, rru⟩⟩ := X
  obtain ⟨hlen, q1, q2, q3, q4, q5, q6⟩ := H
  have k1 := sq_c S (k := 1) rfl
  have k4 := sq_c S (k := 4) rfl
  obtain ⟨K, hK, k26, k24, kk⟩ := e_dec_8 (I := J) (p := p) (c := c) (yr := y) (w := w) (t := t) (ln := ln) (ls := ls) (lw := I 75) (lf := I 76) (lt := I 77) (by rw [k1]; exact hp1) b4 (by rw [k1]; exact hc1) b1 b2 (by rw [k1]; exact hy1) b6 (by rw [k1]; exact hw1) b3 (by rw [k1]; exact ht1) b5 (fun j hj => by
    obtain ⟨h1, h2, -⟩ := hN_ok X0 hj
    exact ⟨_, h1, by rw [k4]; exact h2⟩) (by rw [sq_c S (k := 6) rfl]; exact tr_ok b3 rtr) hlen b8 (by rw [sq_c S (k := 11) rfl]; exact hl1) (by rw [sq_c S (k := 12) rfl, sq_c S (k := 13) rfl]; exact q1) q2 (by rw [sq_c S (k := 14) rfl]; exact q5)
  refine ⟨K, hK, ?_, ?_, kk⟩
  · intro u hu
    rw [k26 u hu, h3, dC_c (z := yW I t u) (r := s) b1 b2 (fun j hj => ?_) hs]
    · exact (jd_ok X0 hu ls s).1
    · obtain ⟨h1, h2, h3'⟩ := hN_ok X0 hj
      unfold yC yW
      rw [k4, h2, h3', nI_clamp (by omega), mCt X0 S h1 (by omega)]
  · intro h u hh hu
    rw [k24]; exact mCt X0 S hh hu
theorem jC_27 {I J : am_IT} {c w p t y d ln : Nat} {ls : List (Nat × List rOp)} {s : Nat → Nat → Int32} (X : cx I c w p t y d ln) (S : sq I J) (h3 : J 3 = I 3) (H : rLs ls ln (I 11 1) (I 12) (I 13) (I 14) (I 75) (I 76) (I 77) (I 78) (I 79)) (hs : ∀ i k, i < p → k < 4 → J 27 (4 * i + k) = s i k) :
    ∃ K, F_X2_decide_25_27 J = some K ∧ (∀ u, u < w → K 26 u = nI (jd I t ls c p y s u)) ∧ (∀ h u, h < 8 → u < 7 → K 24 (7 * h + u) = cl0 (tS I h u t)) ∧ ∀ k, k ≠ 24 → k ≠ 26 → k ≠ 28 → k ≠ 29 → K k = J k := by
  have X0 := X
  obtain ⟨⟨b1, b2, b3, b4, b5, b6, b7, b8⟩, ⟨⟨hc1, hc2⟩, hst, ⟨hy1, hy2⟩, ⟨hw1, hw2⟩, ⟨hp1, hp2⟩, ⟨ht1, ht2⟩, ⟨hl1, hl2⟩, ⟨hd1, hd2⟩⟩, ⟨rpo, rpa, rho, rvi, rtr, rta, rsa, rbe, rne, rde, rlo, rli, rru⟩⟩ := X
  obtain ⟨hlen, q1, q2, q3, q4, q5, q6⟩ := H
  have k1 := sq_c S (k := 1) rfl
  have k4 := sq_c S (k := 4) rfl
  obtain ⟨K, hK, k26, k24, kk⟩ := e_dec_27 (I := J) (p := p) (c := c) (yr := y) (w := w) (t := t) (ln := ln) (ls := ls) (lw := I 75) (lf := I 76) (lt := I 77) (by rw [k1]; exact hp1) b4 (by rw [k1]; exact hc1) b1 b2 (by rw [k1]; exact hy1) b6 (by rw [k1]; exact hw1) b3 (by rw [k1]; exact ht1) b5 (fun j hj => by
    obtain ⟨h1, h2, -⟩ := hN_ok X0 hj
    exact ⟨_, h1, by rw [k4]; exact h2⟩) (by rw [sq_c S (k := 6) rfl]; exact tr_ok b3 rtr) hlen b8 (by rw [sq_c S (k := 11) rfl]; exact hl1) (by rw [sq_c S (k := 12) rfl, sq_c S (k := 13) rfl]; exact q1) q2 (by rw [sq_c S (k := 14) rfl]; exact q5)
  refine ⟨K, hK, ?_, ?_, kk⟩
  · intro u hu
    rw [k26 u hu, h3, dC_c (z := yW I t u) (r := s) b1 b2 (fun j hj => ?_) hs]
    · exact (jd_ok X0 hu ls s).1
    · obtain ⟨h1, h2, h3'⟩ := hN_ok X0 hj
      unfold yC yW
      rw [k4, h2, h3', nI_clamp (by omega), mCt X0 S h1 (by omega)]
  · intro h u hh hu
    rw [k24]; exact mCt X0 S hh hu
theorem jM {I J : am_IT} {c w p t y d ln off : Nat} {ls : List (Nat × List rOp)} {s : Nat → Nat → Int32} (X : cx I c w p t y d ln) (S : sq I (up2 J 55 49 (-1))) (h72 : ∀ j, j < 7 → J 72 j = I 72 j) (H : rLs ls ln (I 11 1) (I 12) (I 13) (I 14) (I 75) (I 76) (I 77) (I 78) (I 79)) (ho7 : 7 ≤ off) (ho : off ≤ 28) (hs : ∀ K : am_IT, K 55 = J 55 → K 64 = J 64 → ∀ i k, i < p → k < 4 → F_X12_says_55 K (nI i) (nI k) = some (s i k)) :
    ∃ K, F_X12_judges_55 J (nI off) = some K ∧ (∀ u, u < w → K 72 (off + u) = nI (jd I t ls c p y s u)) ∧ (∀ j, j < off ∨ off + w ≤ j → K 72 j = J 72 j) ∧ (∀ h u, h < 8 → u < w → K 83 (7 * h + u) = cl0 (tS I h u t)) ∧ ∀ k, k ≠ 72 → k ≠ 81 → k ≠ 82 → k ≠ 83 → k ≠ 84 → K k = J k := by
  have X0 := X
  obtain ⟨⟨b1, b2, b3, b4, b5, b6, b7, b8⟩, ⟨⟨hc1, hc2⟩, hst, ⟨hy1, hy2⟩, ⟨hw1, hw2⟩, ⟨hp1, hp2⟩, ⟨ht1, ht2⟩, ⟨hl1, hl2⟩, ⟨hd1, hd2⟩⟩, ⟨rpo, rpa, rho, rvi, rtr, rta, rsa, rbe, rne, rde, rlo, rli, rru⟩⟩ := X
  obtain ⟨hlen, q1, q2, q3, q4, q5, q6⟩ := H
  have e57 : J 57 = I 57 := sq_c S (k := 57) rfl
  have eN : ∀ k j, k = 75 ∨ k = 76 ∨ k = 77 → j < 16 → J k j = I k j := by
    intro k j hk hj
    have h := S k j (by
      unfold stc mt
      rcases hk with rfl | rfl | rfl <;> rw [decide_eq_true hj] <;> rfl)
    rw [up2_k _ _ (by omega)] at h
    exact h
  have eO : ∀ k j, k = 78 ∨ k = 79 → j < 400 → J k j = I k j := by
    intro k j hk hj
    have h := S k j (by
      unfold stc mt
      rcases hk with rfl | rfl <;> rw [decide_eq_true hj] <;> rfl)
    rw [up2_k _ _ (by omega)] at h
    exact h
  have et : ∀ h u, tS J h u t = tS I h u t := fun h u => tS_c (I := I) (J := J) (S 55 13 rfl) (sq_c S (k := 58) rfl) (sq_c S (k := 59) rfl) (sq_c S (k := 60) rfl) (sq_c S (k := 61) rfl) (sq_c S (k := 62) rfl) h u t
  obtain ⟨K, hK, k72, k72b, k83, kk⟩ := e_jud (I := J) (off := off) (p := p) (c := c) (yr := y) (w := w) (t := t) (ln := ln) (ls := ls) (s := s) (me := I 12) (se := I 13) ((S 55 5 rfl).trans hp2) b4 ((S 55 2 rfl).trans hc2) b1 b2 ((S 55 13 rfl).trans hy2) b6 ((S 55 4 rfl).trans hw2) b3 ((S 55 8 rfl).trans ht2) b5 ho ho7 (fun j hj => by
    obtain ⟨h1, -, h2⟩ := hN_ok X0 hj
    exact ⟨_, h1, by rw [e57]; exact h2⟩) hs hlen b8 ((S 55 32 rfl).trans hl2) (fun l m code hl => by
    have hlt : l < ls.length := by
      rcases Nat.lt_or_ge l ls.length with h | h
      · exact h
      · rw [List.getElem?_eq_none h] at hl; cases hl
    have h := q1 l m code hl
    rw [← eN 75 l (Or.inl rfl) (by omega), ← eN 76 l (Or.inr (Or.inl rfl)) (by omega), ← eN 77 l (Or.inr (Or.inr rfl)) (by omega)] at h
    exact h) q3 (fun k a b hk => by
    have hlt : k < 400 := by
      rcases Nat.lt_or_ge k (rRefs (ls.flatMap (fun q => q.2))).length with h | h
      · omega
      · rw [List.getElem?_eq_none h] at hk; cases hk
    have h := q6 k a b hk
    rw [← eO 78 k (Or.inl rfl) hlt, ← eO 79 k (Or.inr rfl) hlt] at h
    exact h)
  refine ⟨K, hK, ?_, k72b, ?_, kk⟩
  · intro u hu
    rw [k72 u hu, h72 u (by omega), ← (rpa u hu).1, dC_c (z := yW I t u) (r := s) b1 b2 (fun j hj => ?_) (fun _ _ _ _ => rfl)]
    · exact (jd_ok X0 hu ls s).1
    · unfold yW
      rw [e57, et]
  · intro h u hh hu
    rw [k83, yM_Y _ hh hu b3, et]
