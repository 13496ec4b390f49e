/-! saying otherwise -/
theorem e_sa {I : am_IT} {q cc : Nat} (hq : q < 7) (hcc : cc < 4) : ∃ K, F_X2_sayAlone_25 I (nI q) (nI cc) = some K ∧ (∀ i k, i < 7 → k < 4 → K 27 (4 * i + k) = if i = q then (if k = cc then 9 else -9) else I 8 (4 * i + k)) ∧ ∀ a, a ≠ 27 → K a = I a := by
  unfold F_X2_sayAlone_25
  rw [if_pos (by decide), am_let_s]
  refine it_b1_inv (R := fun z => ∃ K, z = some K ∧ (∀ i k, i < 7 → k < 4 → K 27 (4 * i + k) = if i = q then (if k = cc then 9 else -9) else I 8 (4 * i + k)) ∧ ∀ a, a ≠ 27 → K a = I a)
    (fun m x => ∃ J : am_IT, x = (nI m, J) ∧ (∀ i k, i < 7 → k < 4 → J 27 (4 * i + k) = if i = q ∧ k < m then (if k = cc then 9 else -9) else I 8 (4 * i + k)) ∧ ∀ a, a ≠ 27 → J a = I a)
    (fun J => (∀ i k, i < 7 → k < 4 → J 27 (4 * i + k) = if i = q then (if k = cc then 9 else -9) else I 8 (4 * i + k)) ∧ ∀ a, a ≠ 27 → J a = I a) (n := 4) (by omega) ?_ ?_ ⟨_, by rw [nI_0], ?_, ?_⟩ (fun J h => ⟨J, rfl, h⟩)
  · rintro m x hm ⟨J, rfl, j1, j2⟩
    refine ⟨(nI (m + 1), up2 J 27 (4 * q + m) (if m = cc then 9 else -9)), ?_, _, rfl, ?_, ?_⟩
    · rw [am_u2_s, if_neg (show ¬ (4 : Int32) ≤ nI m from nI_ge (a := m) (b := 4) hm (by decide)), m4, nI_1]
      by_cases z : m = cc
      · rw [if_pos (congrArg nI z), if_pos (am_ix_nI (by omega) (by decide)), am_let_s, am_let_s, nI_clamp (by omega), if_pos z]
      · rw [if_neg (fun e => z ((nI_eq (by omega) (by omega)).mp e)), if_pos (am_ix_nI (by omega) (by decide)), am_let_s, am_let_s, nI_clamp (by omega), if_neg z]
    · intro i k hi hk
      rw [up2_r]
      by_cases z : i = q ∧ k = m
      · obtain ⟨rfl, rfl⟩ := z
        rw [if_pos rfl, if_pos ⟨rfl, by omega⟩]
      · rw [if_neg (by omega), j1 i k hi hk]
        by_cases z2 : i = q ∧ k < m
        · rw [if_pos z2, if_pos ⟨z2.1, by omega⟩]
        · rw [if_neg z2, if_neg (by omega)]
    · intro a ha
      rw [up2_k _ _ ha]; exact j2 a ha
  · rintro x ⟨J, rfl, j1, j2⟩
    refine ⟨J, ?_, ?_, j2⟩
    · rw [am_u2_s, if_pos (show (4 : Int32) ≤ nI 4 from by decide)]
    · intro i k hi hk
      rw [j1 i k hi hk]
      by_cases z : i = q
      · rw [if_pos ⟨z, hk⟩, if_pos z]
      · rw [if_neg (fun e => z e.1), if_neg z]
  · intro i k hi hk
    rw [if_neg (by omega)]
    unfold cpy2
    rw [if_pos ⟨rfl, by show 0 ≤ _; omega, by show _ < 0 + 28; omega⟩]
    exact congrArg (I 8) (by show 0 + (4 * i + k - 0) = _; omega)
  · intro a ha
    funext j
    unfold cpy2
    rw [if_neg (fun e => ha e.1)]
theorem e_says2 {J : am_IT} {q cc : Nat} (h49 : J 55 49 = nI q) (h50 : J 55 50 = nI cc) (hq : q < 7) (hcc : cc < 4) : ∀ i k, i < 7 → k < 4 → F_X12_says_55 J (nI i) (nI k) = some (if i = q then (if k = cc then 9 else -9) else J 64 (4 * i + k)) := by
  intro i k hi hk
  unfold F_X12_says_55
  rw [h49, h50]
  by_cases z : i = q
  · rw [if_pos z, if_pos (congrArg nI z)]
    by_cases z2 : k = cc
    · rw [if_pos z2, if_pos (congrArg nI z2)]
    · rw [if_neg z2, if_neg (fun e => z2 ((nI_eq (by omega) (by omega)).mp e))]
  · rw [if_neg z, if_neg (fun e => z ((nI_eq (by omega) (by omega)).mp e)), m4', if_pos (am_ix_nI (by omega) (by decide)), nI_clamp (by omega)]
/-- the judged painting by sayings s, both sides -/
def jd (I : am_IT) (t : Nat) (ls : List (Nat × List rOp)) (c p y : Nat) (s : Nat → Nat → Int32) (u : Nat) : Nat := (dC ls (I 3 u) (yW I t u) s c p u y).toNatClampNeg
theorem jd_ok {I : am_IT} {c w p t y d ln u : Nat} (X : cx I c w p t y d ln) (hu : u < w) (ls : List (Nat × List rOp)) (s : Nat → Nat → Int32) : dC ls (I 3 u) (yW I t u) s c p u y = nI (jd I t ls c p y s u) ∧ jd I t ls c p y s u < c := by
  have b2 : c ≤ 4 := X.1.2.1
  have b1 : 2 ≤ c := X.1.1
  obtain ⟨h1, h2, -⟩ := pN_ok X hu
  obtain ⟨k, hk, ek⟩ := dC_b (ls := ls) (pt := I 3 u) (y := yW I t u) (s := s) (c := c) (p := p) (u := u) (yr := y) b1 ⟨_, h1, h2⟩
  unfold jd
  rw [ek, nI_clamp (by omega)]
  exact ⟨rfl, hk⟩
theorem mCt {I J : am_IT} {c w p t y d ln h u : Nat} (X : cx I c w p t y d ln) (S : sq I J) (hh : h < 8) (hu : u < 7) : mC J t (7 * h + u) = cl0 (tS I h u t) := by
  obtain ⟨⟨b1, b2, b3, b4, b5, b6, b7, b8⟩, ⟨⟨hc1, hc2⟩, hst, ⟨hy1, hy2⟩, ⟨hw1, hw2⟩, ⟨hp1, hp2⟩, ⟨ht1, ht2⟩, ⟨hl1, hl2⟩, ⟨hd1, hd2⟩⟩, ⟨rpo, rpa, rho, rvi, rtr, rta, rsa, rbe, rne, rde, rlo, rli, rru⟩⟩ := X
  rw [mC_Y (I := J) (w := w) (y := y) b3 (by rw [sq_c S (k := 5) rfl, sq_c S (k := 58) rfl]; exact rvi) (by rw [sq_c S (k := 6) rfl, sq_c S (k := 59) rfl, sq_c S (k := 60) rfl, sq_c S (k := 61) rfl, sq_c S (k := 62) rfl]; exact rtr) (by rw [sq_c S (k := 1) rfl, S 55 13 rfl]; exact hy1.trans hy2.symm) hh hu, tS_c (I := I) (J := J) (S 55 13 rfl) (sq_c S rfl) (sq_c S rfl) (sq_c S rfl) (sq_c S rfl) (sq_c S rfl)]
def rLs (ls : List (Nat × List rOp)) (ln : Nat) (sc : Int32) (me se st lw lf lt op ar : Nat → Int32) : Prop := ls.length = ln ∧
  (∀ l m code, ls[l]? = some (m, code) → m < 6 ∧ me l = nI (261 + m) ∧ lw l = nI (1 + m) ∧ (∀ o ∈ code, rOpOk o) ∧ (code = [] ∨ rRun code [] = some [true]) ∧
    se l = nI ((ls.take (l + 1)).map (fun q => q.2.length)).sum ∧ lf l = nI ((ls.take l).map (fun q => (rRefs q.2).length)).sum ∧ lt l = nI ((ls.take (l + 1)).map (fun q => (rRefs q.2).length)).sum) ∧
  (ls.flatMap (fun q => q.2)).length ≤ 400 ∧ (rRefs (ls.flatMap (fun q => q.2))).length ≤ 400 ∧ sc = nI (ls.flatMap (fun q => q.2)).length ∧
  (∀ k o, (ls.flatMap (fun q => q.2))[k]? = some o → st k = nI (16 * o.2 + o.1)) ∧
  (∀ k a b, (rRefs (ls.flatMap (fun q => q.2)))[k]? = some (a, b) → op k = nI a ∧ (a ≤ 1 → ar k = nI b))
theorem rLs_ex {I : am_IT} {c w p t y d ln : Nat} (X : cx I c w p t y d ln) : ∃ ls, rLs ls ln (I 11 1) (I 12) (I 13) (I 14) (I 75) (I 76) (I 77) (I 78) (I 79) := X.2.2.2.2.2.2.2.2.2.2.2.2.2.2
theorem jC_8 {I J : am_IT} {c w p t y d ln : Nat} {ls : List (Nat × List rOp)} {s : Nat → Nat → Int32} (X : cx I c w p t y d ln) (S : sq I J) (h3 : J 3 = I 3) (H : rLs ls ln (I 11 1) (I 12) (I 13) (I 14) (I 75) (I 76) (I 77) (I 78) (I 79)) (hs : ∀ i k, i < p → k < 4 → J 8 (4 * i + k) = s i k) :
    ∃ K, F_X2_decide_25_8 J = some K ∧ (∀ u, u < w → K 26 u = nI (jd I t ls c p y s u)) ∧ (∀ h u, h < 8 → u < 7 → K 24 (7 * h + u) = cl0 (tS I h u t)) ∧ ∀ k, k ≠ 24 → k ≠ 26 → k ≠ 28 → k ≠ 29 → K k = J k := by
  have X0 := X
  obtain ⟨⟨b1, b2, b3, b4, b5, b6, b7, b8⟩, ⟨⟨hc1, hc2⟩, hst, ⟨hy1, hy2⟩, ⟨hw1, hw2⟩, ⟨hp1, hp2⟩, ⟨ht1, ht2⟩, ⟨hl1, hl2⟩, ⟨hd1, hd2⟩⟩, ⟨rpo, rpa, rho, rvi, rtr, rta, rsa, rbe, rne, rde, rlo, rli, rru⟩⟩ := X
  obtain ⟨hlen, q1, q2, q3, q4, q5, q6⟩ := H
  have k1 := sq_c S (k := 1) rfl
  have k4 := sq_c S (k := 4) rfl
  obtain ⟨K, hK, k26, k24, kk⟩ := e_dec_8 (I := J) (p := p) (c := c) (yr := y) (w := w) (t := t) (ln := ln) (ls := ls) (lw := I 75) (lf := I 76) (lt := I 77) (by rw [k1]; exact hp1) b4 (by rw [k1]; exact hc1) b1 b2 (by rw [k1]; exact hy1) b6 (by rw [k1]; exact hw1) b3 (by rw [k1]; exact ht1) b5 (fun j hj => by
    obtain ⟨h1, h2, -⟩ := hN_ok X0 hj
    exact ⟨_, h1, by rw [k4]; exact h2⟩) (by rw [sq_c S (k := 6) rfl]; exact tr_ok b3 rtr) hlen b8 (by rw [sq_c S (k := 11) rfl]; exact hl1) (by rw [sq_c S (k := 12) rfl, sq_c S (k := 13) rfl]; exact q1) q2 (by rw [sq_c S (k := 14) rfl]; exact q5)
  refine ⟨K, hK, ?_, ?_, kk⟩
  · intro u hu
    rw [k26 u hu, h3, dC_c (z := yW I t u) (r := s) b1 b2 (fun j hj => ?_) hs]
    · exact (jd_ok X0 hu ls s).1
    · obtain ⟨h1, h2, h3'⟩ := hN_ok X0 hj
      unfold yC yW
      rw [k4, h2, h3', nI_clamp (by omega), mCt X0 S h1 (by omega)]
  · intro h u hh hu
    rw [k24]; exact mCt X0 S hh hu
theorem jC_27 {I J : am_IT} {c w p t y d ln : Nat} {ls : List (Nat × List rOp)} {s : Nat → Nat → Int32} (X : cx I c w p t y d ln) (S : sq I J) (h3 : J 3 = I 3) (H : rLs ls ln (I 11 1) (I 12) (I 13) (I 14) (I 75) (I 76) (I 77) (I 78) (I 79)) (hs : ∀ i k, i < p → k < 4 → J 27 (4 * i + k) = s i k) :
    ∃ K, F_X2_decide_25_27 J = some K ∧ (∀ u, u < w → K 26 u = nI (jd I t ls c p y s u)) ∧ (∀ h u, h < 8 → u < 7 → K 24 (7 * h + u) = cl0 (tS I h u t)) ∧ ∀ k, k ≠ 24 → k ≠ 26 → k ≠ 28 → k ≠ 29 → K k = J k := by
  have X0 := X
  obtain ⟨⟨b1, b2, b3, b4, b5, b6, b7, b8⟩, ⟨⟨hc1, hc2⟩, hst, ⟨hy1, hy2⟩, ⟨hw1, hw2⟩, ⟨hp1, hp2⟩, ⟨ht1, ht2⟩, ⟨hl1, hl2⟩, ⟨hd1, hd2⟩⟩, ⟨rpo, rpa, rho, rvi, rtr, rta, rsa, rbe, rne, rde, rlo, rli, rru⟩⟩ := X
  obtain ⟨hlen, q1, q2, q3, q4, q5, q6⟩ := H
  have k1 := sq_c S (k := 1) rfl
  have k4 := sq_c S (k := 4) rfl
  obtain ⟨K, hK, k26, k24, kk⟩ := e_dec_27 (I := J) (p := p) (c := c) (yr := y) (w := w) (t := t) (ln := ln) (ls := ls) (lw := I 75) (lf := I 76) (lt := I 77) (by rw [k1]; exact hp1) b4 (by rw [k1]; exact hc1) b1 b2 (by rw [k1]; exact hy1) b6 (by rw [k1]; exact hw1) b3 (by rw [k1]; exact ht1) b5 (fun j hj => by
    obtain ⟨h1, h2, -⟩ := hN_ok X0 hj
    exact ⟨_, h1, by rw [k4]; exact h2⟩) (by rw [sq_c S (k := 6) rfl]; exact tr_ok b3 rtr) hlen b8 (by rw [sq_c S (k := 11) rfl]; exact hl1) (by rw [sq_c S (k := 12) rfl, sq_c S (k := 13) rfl]; exact q1) q2 (by rw [sq_c S (k := 14) rfl]; exact q5)
  refine ⟨K, hK, ?_, ?_, kk⟩
  · intro u hu
    rw [k26 u hu, h3, dC_c (z := yW I t u) (r := s) b1 b2 (fun j hj => ?_) hs]
    · exact (jd_ok X0 hu ls s).1
    · obtain ⟨h1, h2, h3'⟩ := hN_ok X0 hj
      unfold yC yW
      rw [k4, h2, h3', nI_clamp (by omega), mCt X0 S h1 (by omega)]
  · intro h u hh hu
    rw [k24]; exact mCt X0 S hh hu
theorem jM {I J : am_IT} {c w p t y d ln off : Nat} {ls : List (Nat × List rOp)} {s : Nat → Nat → Int32} (X : cx I c w p t y d ln) (S : sq I (up2 J 55 49 (-1))) (h72 : ∀ j, j < 7 → J 72 j = I 72 j) (H : rLs ls ln (I 11 1) (I 12) (I 13) (I 14) (I 75) (I 76) (I 77) (I 78) (I 79)) (ho7 : 7 ≤ off) (ho : off ≤ 28) (hs : ∀ K : am_IT, K 55 = J 55 → K 64 = J 64 → ∀ i k, i < p → k < 4 → F_X12_says_55 K (nI i) (nI k) = some (s i k)) :
    ∃ K, F_X12_judges_55 J (nI off) = some K ∧ (∀ u, u < w → K 72 (off + u) = nI (jd I t ls c p y s u)) ∧ (∀ j, j < off ∨ off + w ≤ j → K 72 j = J 72 j) ∧ (∀ h u, h < 8 → u < w → K 83 (7 * h + u) = cl0 (tS I h u t)) ∧ ∀ k, k ≠ 72 → k ≠ 81 → k ≠ 82 → k ≠ 83 → k ≠ 84 → K k = J k := by
  have X0 := X
  obtain ⟨⟨b1, b2, b3, b4, b5, b6, b7, b8⟩, ⟨⟨hc1, hc2⟩, hst, ⟨hy1, hy2⟩, ⟨hw1, hw2⟩, ⟨hp1, hp2⟩, ⟨ht1, ht2⟩, ⟨hl1, hl2⟩, ⟨hd1, hd2⟩⟩, ⟨rpo, rpa, rho, rvi, rtr, rta, rsa, rbe, rne, rde, rlo, rli, rru⟩⟩ := X
  obtain ⟨hlen, q1, q2, q3, q4, q5, q6⟩ := H
  have e57 : J 57 = I 57 := sq_c S (k := 57) rfl
  have eN : ∀ k j, k = 75 ∨ k = 76 ∨ k = 77 → j < 16 → J k j = I k j := by
    intro k j hk hj
    have h := S k j (by
      unfold stc mt
      rcases hk with rfl | rfl | rfl <;> rw [decide_eq_true hj] <;> rfl)
    rw [up2_k _ _ (by omega)] at h
    exact h
  have eO : ∀ k j, k = 78 ∨ k = 79 → j < 400 → J k j = I k j := by
    intro k j hk hj
    have h := S k j (by
      unfold stc mt
      rcases hk with rfl | rfl <;> rw [decide_eq_true hj] <;> rfl)
    rw [up2_k _ _ (by omega)] at h
    exact h
  have et : ∀ h u, tS J h u t = tS I h u t := fun h u => tS_c (I := I) (J := J) (S 55 13 rfl) (sq_c S (k := 58) rfl) (sq_c S (k := 59) rfl) (sq_c S (k := 60) rfl) (sq_c S (k := 61) rfl) (sq_c S (k := 62) rfl) h u t
  obtain ⟨K, hK, k72, k72b, k83, kk⟩ := e_jud (I := J) (off := off) (p := p) (c := c) (yr := y) (w := w) (t := t) (ln := ln) (ls := ls) (s := s) (me := I 12) (se := I 13) ((S 55 5 rfl).trans hp2) b4 ((S 55 2 rfl).trans hc2) b1 b2 ((S 55 13 rfl).trans hy2) b6 ((S 55 4 rfl).trans hw2) b3 ((S 55 8 rfl).trans ht2) b5 ho ho7 (fun j hj => by
    obtain ⟨h1, -, h2⟩ := hN_ok X0 hj
    exact ⟨_, h1, by rw [e57]; exact h2⟩) hs hlen b8 ((S 55 32 rfl).trans hl2) (fun l m code hl => by
    have hlt : l < ls.length := by
      rcases Nat.lt_or_ge l ls.length with h | h
      · exact h
      · rw [List.getElem?_eq_none h] at hl; cases hl
    have h := q1 l m code hl
    rw [← eN 75 l (Or.inl rfl) (by omega), ← eN 76 l (Or.inr (Or.inl rfl)) (by omega), ← eN 77 l (Or.inr (Or.inr rfl)) (by omega)] at h
    exact h) q3 (fun k a b hk => by
    have hlt : k < 400 := by
      rcases Nat.lt_or_ge k (rRefs (ls.flatMap (fun q => q.2))).length with h | h
      · omega
      · rw [List.getElem?_eq_none h] at hk; cases hk
    have h := q6 k a b hk
    rw [← eO 78 k (Or.inl rfl) hlt, ← eO 79 k (Or.inr rfl) hlt] at h
    exact h)
  refine ⟨K, hK, ?_, k72b, ?_, kk⟩
  · intro u hu
    rw [k72 u hu, h72 u (by omega), ← (rpa u hu).1, dC_c (z := yW I t u) (r := s) b1 b2 (fun j hj => ?_) (fun _ _ _ _ => rfl)]
    · exact (jd_ok X0 hu ls s).1
    · unfold yW
      rw [e57, et]
  · intro h u hh hu
    rw [k83, yM_Y _ hh hu b3, et]
theorem it_b3_inv {X E1 E2 E3 Z : Type} {f : X → Option (X ⊕ (E1 × E2 × E3))} {k : E1 → E2 → E3 → Option Z} {x0 : X} {R : Option Z → Prop} (Inv : Nat → X → Prop) (Post : E1 × E2 × E3 → Prop) {n : Nat} (hn : n < 1000000) (hs : ∀ i x, i < n → Inv i x → ∃ y, f x = some (.inl y) ∧ Inv (i + 1) y) (he : ∀ x, Inv n x → ∃ e, f x = some (.inr e) ∧ Post e) (h0 : Inv 0 x0) (hk : ∀ e1 e2 e3, Post (e1, e2, e3) → R (k e1 e2 e3)) : R (am_b3 (am_it am_fu f x0) k) := by
  obtain ⟨⟨e1, e2, e3⟩, h1, h2⟩ := am_it_inv Inv Post hn hs he h0
  rw [h1]; exact hk e1 e2 e3 h2
/-- what one gains by a saying; the best of the first i -/
def sT (I : am_IT) : Nat → Nat → Int32 := fun i k => I 8 (4 * i + k)
def sL (I : am_IT) (q cc : Nat) : Nat → Nat → Int32 := fun i k => if i = q then (if k = cc then 9 else -9) else I 8 (4 * i + k)
def gg (I : am_IT) (t w : Nat) (ls : List (Nat × List rOp)) (c p y q cc : Nat) : Int32 := wV I t w q (hN I q) (jd I t ls c p y (sL I q cc)) - wV I t w q (hN I q) (jd I t ls c p y (sT I))
def gm (G : Nat → Int32) : Nat → Int32
  | 0 => 0
  | i + 1 => if G i ≤ gm G i then gm G i else G i
def gb (G : Nat → Int32) : Nat → Int32
  | 0 => -1
  | i + 1 => if G i ≤ gm G i then gb G i else nI i
theorem e_ws {I J : am_IT} {c w p t y d ln q : Nat} {ls : List (Nat × List rOp)} (X : cx I c w p t y d ln) (S : sq I J) (h3 : J 3 = I 3) (hq : q < p) (H : rLs ls ln (I 11 1) (I 12) (I 13) (I 14) (I 75) (I 76) (I 77) (I 78) (I 79)) :
    ∃ K, F_X2_weighSayings_25 J (nI q) = some K ∧ K 25 1 = gb (gg I t w ls c p y q) c ∧ K 25 2 = gm (gg I t w ls c p y q) c ∧ ∀ k, k ≠ 24 → k ≠ 25 → k ≠ 26 → k ≠ 27 → k ≠ 28 → k ≠ 29 → K k = J k := by
  have b2 : c ≤ 4 := X.1.2.1
  have b4 : p ≤ 7 := X.1.2.2.2.1
  obtain ⟨K, e, k26, k24, kk⟩ := jC_8 X S h3 H (s := sT I) (fun i k _ _ => by rw [sq_c S (k := 8) rfl]; rfl)
  have nS : ∀ {A B : am_IT}, sq I A → (∀ k, k ≠ 24 → k ≠ 26 → k ≠ 28 → k ≠ 29 → B k = A k) → sq I B := fun {A B} SA h a i ma => by
    rw [h a (st_ne (fun _ => rfl) ma) (st_ne (fun _ => rfl) ma) (st_ne (fun _ => rfl) ma) (st_ne (fun _ => rfl) ma)]; exact SA a i ma
  have SK : sq I K := nS S kk
  have jd4 : ∀ s u, u < w → jd I t ls c p y s u < 4 := fun s u hu => by
    have := (jd_ok X hu ls s).2
    omega
  unfold F_X2_weighSayings_25
  rw [e, am_b1_s, cT_26 X SK k24 (P := jd I t ls c p y (sT I)) (fun u hu => ⟨k26 u hu, jd4 _ u hu⟩) hq, am_b1_s, am_let_s, am_let_s]
  refine it_b1_inv (R := fun z => ∃ K, z = some K ∧ K 25 1 = gb (gg I t w ls c p y q) c ∧ K 25 2 = gm (gg I t w ls c p y q) c ∧ ∀ k, k ≠ 24 → k ≠ 25 → k ≠ 26 → k ≠ 27 → k ≠ 28 → k ≠ 29 → K k = J k)
    (fun i x => ∃ J' : am_IT, x = (nI i, J') ∧ J' 25 1 = gb (gg I t w ls c p y q) i ∧ J' 25 2 = gm (gg I t w ls c p y q) i ∧ ∀ k, k ≠ 24 → k ≠ 25 → k ≠ 26 → k ≠ 27 → k ≠ 28 → k ≠ 29 → J' k = J k)
    (fun J' => J' 25 1 = gb (gg I t w ls c p y q) c ∧ J' 25 2 = gm (gg I t w ls c p y q) c ∧ ∀ k, k ≠ 24 → k ≠ 25 → k ≠ 26 → k ≠ 27 → k ≠ 28 → k ≠ 29 → J' k = J k) (n := c) (by omega) ?_ ?_ ⟨_, by rw [nI_0], rfl, rfl, fun k h24 h25 h26 h27 h28 h29 => by rw [up2_k _ _ h25, up2_k _ _ h25]; exact kk k h24 h26 h28 h29⟩ (fun J' h => ⟨J', rfl, h⟩)
  · rintro i x hi ⟨J', rfl, j1, j2, j3⟩
    have SJ : sq I J' := fun a m ma => by
      rw [j3 a (st_ne (fun _ => rfl) ma) (st_ne (fun _ => rfl) ma) (st_ne (fun _ => rfl) ma) (st_ne (fun _ => rfl) ma) (st_ne (fun _ => rfl) ma) (st_ne (fun _ => rfl) ma)]; exact S a m ma
    have hc : J' 1 0 = nI c := by rw [sq_c SJ (k := 1) rfl]; exact X.2.1.1.1
    obtain ⟨A, eA, a27, ak⟩ := e_sa (I := J') (q := q) (cc := i) (by omega) (by omega)
    have SA : sq I A := sq_x SJ (fun _ => rfl) ak
    obtain ⟨B, eB, b26, b24, bk⟩ := jC_27 X SA (by rw [ak 3 (by decide), j3 3 (by decide) (by decide) (by decide) (by decide) (by decide) (by decide)]; exact h3) H (s := sL I q i) (fun a k ha hk => by
      rw [a27 a k (by omega) hk, sq_c SJ (k := 8) rfl]; rfl)
    have SB : sq I B := nS SA bk
    have eW := cT_26 X SB b24 (P := jd I t ls c p y (sL I q i)) (fun u hu => ⟨b26 u hu, jd4 _ u hu⟩) hq
    have B2 : B 25 2 = gm (gg I t w ls c p y q) i := by rw [bk 25 (by decide) (by decide) (by decide) (by decide), ak 25 (by decide)]; exact j2
    have B1 : B 25 1 = gb (gg I t w ls c p y q) i := by rw [bk 25 (by decide) (by decide) (by decide) (by decide), ak 25 (by decide)]; exact j1
    have Bk : ∀ k, k ≠ 24 → k ≠ 25 → k ≠ 26 → k ≠ 27 → k ≠ 28 → k ≠ 29 → B k = J k := fun k h24 h25 h26 h27 h28 h29 => by
      rw [bk k h24 h26 h28 h29, ak k h27]; exact j3 k h24 h25 h26 h27 h28 h29
    have e1 : gm (gg I t w ls c p y q) (i + 1) = if gg I t w ls c p y q i ≤ gm (gg I t w ls c p y q) i then gm (gg I t w ls c p y q) i else gg I t w ls c p y q i := rfl
    have e2 : gb (gg I t w ls c p y q) (i + 1) = if gg I t w ls c p y q i ≤ gm (gg I t w ls c p y q) i then gb (gg I t w ls c p y q) i else nI i := rfl
    by_cases z : gg I t w ls c p y q i ≤ gm (gg I t w ls c p y q) i
    · rw [if_pos z] at e1 e2
      refine ⟨(nI (i + 1), B), ?_, B, rfl, B1.trans e2.symm, B2.trans e1.symm, Bk⟩
      rw [am_u2_s, hc, if_neg (nI_ge hi (by omega)), eA, am_b1_s, eB, am_b1_s, eW, am_b1_s, am_let_s, B2, nI_1, if_pos (show wV I t w q (hN I q) (jd I t ls c p y (sL I q i)) - wV I t w q (hN I q) (jd I t ls c p y (sT I)) ≤ _ from z), am_let_s]
    · rw [if_neg z] at e1 e2
      refine ⟨(nI (i + 1), up2 (up2 B 25 2 (gg I t w ls c p y q i)) 25 1 (nI i)), ?_, _, rfl, (up2_s _ _ _ _).trans e2.symm, ?_, fun k h24 h25 h26 h27 h28 h29 => by rw [up2_k _ _ h25, up2_k _ _ h25]; exact Bk k h24 h25 h26 h27 h28 h29⟩
      · rw [am_u2_s, hc, if_neg (nI_ge hi (by omega)), eA, am_b1_s, eB, am_b1_s, eW, am_b1_s, am_let_s, B2, nI_1, if_neg (show ¬ wV I t w q (hN I q) (jd I t ls c p y (sL I q i)) - wV I t w q (hN I q) (jd I t ls c p y (sT I)) ≤ _ from z), am_let_s, am_let_s, am_let_s]
        rfl
      · rw [up2_j _ _ (show 2 ≠ 1 by decide), up2_s]; exact e1.symm
  · rintro x ⟨J', rfl, j1, j2, j3⟩
    have hc : J' 1 0 = nI c := by rw [j3 1 (by decide) (by decide) (by decide) (by decide) (by decide) (by decide), sq_c S (k := 1) rfl]; exact X.2.1.1.1
    exact ⟨J', by rw [am_u2_s, hc, if_pos (nI_le (Nat.le_refl c) (by omega))], j1, j2, j3⟩
theorem up2_id {I : am_IT} {k j : Nat} {v : Int32} (h : I k j = v) : up2 I k j v = I := by
  funext a i
  unfold up2
  by_cases z : a = k ∧ i = j
  · obtain ⟨rfl, rfl⟩ := z; rw [if_pos ⟨rfl, rfl⟩, h]
  · rw [if_neg z]
theorem e_gm {I J : am_IT} {c w p t y d ln q : Nat} {ls : List (Nat × List rOp)} {a2 : Int32} (X : cx I c w p t y d ln) (S : sq I J) (h49 : I 55 49 = -1) (h72 : ∀ j, j < 7 → J 72 j = I 72 j) (hq : q < p) (g5 : gr a2 0 1 = 1) (H : rLs ls ln (I 11 1) (I 12) (I 13) (I 14) (I 75) (I 76) (I 77) (I 78) (I 79)) :
    ∃ L, F_X12_gains_55 J (nI q) a2 = some (if a2 = 0 then gb (gg I t w ls c p y q) c else gm (gg I t w ls c p y q) c, L) ∧ sq I L ∧ L 3 = J 3 ∧ ∀ j, j < 7 → L 72 j = J 72 j := by
  have b2 : c ≤ 4 := X.1.2.1
  have b3 : w ≤ 7 := X.1.2.2.1
  have b4 : p ≤ 7 := X.1.2.2.2.1
  have rsa := X.2.2.2.2.2.2.2.2.1
  have S1 : sq I (up2 J 55 0 0) := sq_u 0 S rfl
  have hp2 : (up2 J 55 0 0) 55 5 = nI p := by rw [S1 55 5 rfl]; exact X.2.1.2.2.2.2.1.2
  have g1 : gd (nI q) p = 1 := by unfold gd; rw [if_neg (nI_pos (by omega)), if_neg (nI_ge hq (by omega))]
  have jd4 : ∀ s u, u < w → jd I t ls c p y s u < 4 := fun s u hu => by
    have := (jd_ok X hu ls s).2
    omega
  have nS : ∀ {A B : am_IT}, (∀ k, k ≠ 72 → k ≠ 81 → k ≠ 82 → k ≠ 83 → k ≠ 84 → B k = A k) → ∀ a i, stc a i = true → B a i = A a i := fun {A B} h a i ma => by
    rw [h a (stc_ne ma).2 (st_ne (fun _ => rfl) ma) (st_ne (fun _ => rfl) ma) (st_ne (fun _ => rfl) ma) (st_ne (fun _ => rfl) ma)]
  have i64 : ∀ i k, i < p → k < 4 → I 64 (4 * i + k) = I 8 (4 * i + k) := fun i k hi hk => (rsa.1 (4 * i + k) (by omega)).1.symm
  obtain ⟨K, e, k72, k72b, k83, kk⟩ := jM (off := 7) (s := sT I) X (J := up2 J 55 0 0) (by rw [up2_id (S1 55 49 rfl |>.trans h49)]; exact S1) (fun j hj => h72 j hj) H (by decide) (by decide) (fun K h55 h64 i k hi hk => by
    rw [e_says (I := K) (q := i) (k := k) (by rw [h55]; exact (S1 55 49 rfl).trans h49) (by omega) hk, h64, sq_c S1 (k := 64) rfl, i64 i k hi hk]; rfl)
  have SK : sq I K := fun a i ma => (nS kk a i ma).trans (S1 a i ma)
  have eW := mT X SK k83 (off := 7) (by decide) (P := jd I t ls c p y (sT I)) (fun u hu => ⟨k72 u hu, jd4 _ u hu⟩) hq
  unfold F_X12_gains_55
  rw [am_let_s, gP2 (n := p) hp2, am_b1_s, g1, if_neg (by decide), gR2, am_b1_s, g5, if_neg (by decide), show F_X12_judges_55 (up2 J 55 0 0) (7 : Int32) = _ from e, am_b1_s, show F_X12_worthOf_55 K (nI q) (7 : Int32) = _ from eW, am_b1_s]
  refine it_b3_inv (R := fun z => ∃ L, z = some (if a2 = 0 then gb (gg I t w ls c p y q) c else gm (gg I t w ls c p y q) c, L) ∧ sq I L ∧ L 3 = J 3 ∧ ∀ j, j < 7 → L 72 j = J 72 j)
    (fun i x => ∃ J' : am_IT, x = (gb (gg I t w ls c p y q) i, gm (gg I t w ls c p y q) i, nI i, J') ∧ sq I J' ∧ J' 3 = J 3 ∧ ∀ j, j < 7 → J' 72 j = J 72 j)
    (fun x => ∃ J' : am_IT, x = (gb (gg I t w ls c p y q) c, gm (gg I t w ls c p y q) c, J') ∧ sq I J' ∧ J' 3 = J 3 ∧ ∀ j, j < 7 → J' 72 j = J 72 j) (n := c) (by omega) ?_ ?_ ⟨K, by rw [nI_0]; rfl, SK, by rw [kk 3 (by decide) (by decide) (by decide) (by decide) (by decide)]; rfl, fun j hj => by rw [k72b j (Or.inl hj)]; rfl⟩ ?_
  · rintro i x hi ⟨J', rfl, SJ, j3, j72⟩
    have hc : J' 55 2 = nI c := by rw [SJ 55 2 rfl]; exact X.2.1.1.2
    have e49 : (up2 (up2 (up2 J' 55 49 (nI q)) 55 50 (nI i)) 55 49 (-1)) = up2 J' 55 50 (nI i) := by
      funext a m
      unfold up2
      by_cases z1 : a = 55 ∧ m = 49
      · obtain ⟨rfl, rfl⟩ := z1
        rw [if_pos ⟨rfl, rfl⟩, if_neg (by decide)]
        exact ((SJ 55 49 rfl).trans h49).symm
      · rw [if_neg z1]
        by_cases z2 : a = 55 ∧ m = 50
        · rw [if_pos z2, if_pos z2]
        · rw [if_neg z2, if_neg z2, if_neg z1]
    have S5 : sq I (up2 J' 55 50 (nI i)) := sq_u _ SJ rfl
    obtain ⟨A, eA, a72, a72b, a83, ak⟩ := jM (off := 21) (s := sL I q i) X (J := up2 (up2 J' 55 49 (nI q)) 55 50 (nI i)) (by rw [e49]; exact S5) (fun j hj => (j72 j hj).trans (h72 j hj)) H (by decide) (by decide) (fun K h55 h64 a k ha hk => by
      rw [e_says2 (J := K) (q := q) (cc := i) (by rw [h55]; rfl) (by rw [h55]; rfl) (by omega) (by omega) a k (by omega) hk, h64, show (up2 (up2 J' 55 49 (nI q)) 55 50 (nI i)) 64 = J' 64 from rfl, sq_c SJ (k := 64) rfl, i64 a k ha hk]; rfl)
    have SB : sq I (up2 A 55 49 (-1)) := fun a m ma => by
      rw [← S5 a m ma, ← e49]
      unfold up2
      by_cases z1 : a = 55 ∧ m = 49
      · rw [if_pos z1, if_pos z1]
      · rw [if_neg z1, if_neg z1]
        exact nS ak a m ma
    have eW := mT X SB a83 (off := 21) (by decide) (P := jd I t ls c p y (sL I q i)) (fun u hu => ⟨a72 u hu, jd4 _ u hu⟩) hq
    have e1 : gm (gg I t w ls c p y q) (i + 1) = if gg I t w ls c p y q i ≤ gm (gg I t w ls c p y q) i then gm (gg I t w ls c p y q) i else gg I t w ls c p y q i := rfl
    have e2 : gb (gg I t w ls c p y q) (i + 1) = if gg I t w ls c p y q i ≤ gm (gg I t w ls c p y q) i then gb (gg I t w ls c p y q) i else nI i := rfl
    refine ⟨(gb (gg I t w ls c p y q) (i + 1), gm (gg I t w ls c p y q) (i + 1), nI (i + 1), up2 A 55 49 (-1)), ?_, _, rfl, SB, ?_, ?_⟩
    · show (if J' 55 2 ≤ nI i then _ else _) = _
      rw [hc, if_neg (nI_ge hi (by omega)), am_let_s, am_let_s, show F_X12_judges_55 (up2 (up2 J' 55 49 (nI q)) 55 50 (nI i)) (21 : Int32) = _ from eA, am_b1_s, am_let_s, show F_X12_worthOf_55 (up2 A 55 49 (-1)) (nI q) (21 : Int32) = _ from eW, am_b1_s, am_let_s, am_let_s, am_let_s, nI_1, e1, e2]
      by_cases z : gg I t w ls c p y q i ≤ gm (gg I t w ls c p y q) i
      · rw [if_pos z, if_pos z, if_neg (Int32.not_lt.mpr (show wV I t w q (hN I q) (jd I t ls c p y (sL I q i)) - wV I t w q (hN I q) (jd I t ls c p y (sT I)) ≤ _ from z))]
      · rw [if_neg z, if_neg z, if_pos (show _ < wV I t w q (hN I q) (jd I t ls c p y (sL I q i)) - wV I t w q (hN I q) (jd I t ls c p y (sT I)) from Int32.not_le.mp z)]
        rfl
    · rw [up2_k _ _ (by decide), ak 3 (by decide) (by decide) (by decide) (by decide) (by decide)]; exact j3
    · intro j hj
      rw [up2_k _ _ (by decide), a72b j (Or.inl (by omega))]; exact j72 j hj
  · rintro x ⟨J', rfl, SJ, j3, j72⟩
    have hc : J' 55 2 = nI c := by rw [SJ 55 2 rfl]; exact X.2.1.1.2
    refine ⟨_, ?_, J', rfl, SJ, j3, j72⟩
    show (if J' 55 2 ≤ nI c then _ else _) = _
    rw [hc, if_pos (nI_le (Nat.le_refl c) (by omega))]
  · rintro e1 e2 e3 ⟨J', hx, SJ, j3, j72⟩
    cases hx
    refine ⟨J', ?_, SJ, j3, j72⟩
    by_cases z : a2 = 0
    · rw [if_pos z, if_pos z]
    · rw [if_neg z, if_neg z]
theorem op_19 : am_op19 RI := by
  intro b I a1 a2 hR
  have hR0 := hR
  obtain ⟨c, w, p, t, y, d, ln, n, X, -, rmi, -⟩ := hR
  have hp1 : I 1 4 = nI p := X.2.1.2.2.2.2.1.1
  have hp2 : I 55 5 = nI p := X.2.1.2.2.2.2.1.2
  have b4 : p ≤ 7 := X.1.2.2.2.1
  have no : F_X11_gains_0 I a1 a2 = some (-100000, I) → F_X12_gains_55 I a1 a2 = some (-100000, up2 I 55 0 0) → ∃ (r : Int32) (I1 : am_IT) (I2 : am_IT), F_X11_gains_0 I a1 a2 = some (r, I1) ∧ F_X12_gains_55 I1 a1 a2 = some (r, I2) ∧ RI b I2 := fun h1 h2 => ⟨_, I, _, h1, h2, RI_sm (sm_u 0 rfl) hR0⟩
  rcases gd_cases a1 (n := p) (by omega) with g1 | ⟨g1, q, hq, rfl⟩
  · refine no ?_ ?_
    · unfold F_X11_gains_0; rw [gP1 (n := p) hp1, am_b1_s, g1, if_pos rfl]
    · unfold F_X12_gains_55; rw [am_let_s, gP2 (I := up2 I 55 0 0) (n := p) hp2, am_b1_s, g1, if_pos rfl]
  rcases gr_cases a2 (m := 1) (n := 1) rfl (by decide) with g5 | ⟨g5, k, hk, rfl⟩
  · refine no ?_ ?_
    · have h0 : ¬ a2 = 0 := by rintro rfl; exact absurd g5 (by decide)
      have h1 : ¬ a2 = 1 := by rintro rfl; exact absurd g5 (by decide)
      unfold F_X11_gains_0; rw [gP1 (n := p) hp1, am_b1_s, g1, if_neg (by decide), if_neg h0, if_neg h1]
    · unfold F_X12_gains_55; rw [am_let_s, gP2 (I := up2 I 55 0 0) (n := p) hp2, am_b1_s, g1, if_neg (by decide), gR2, am_b1_s, g5, if_pos rfl]
  obtain ⟨ls, H⟩ := rLs_ex X
  obtain ⟨K, e, k1, k2, kk⟩ := e_ws X (sq_r I) rfl hq H
  have SK : sq I K := fun a m ma => by
      rw [kk a (st_ne (fun _ => rfl) ma) (st_ne (fun _ => rfl) ma) (st_ne (fun _ => rfl) ma) (st_ne (fun _ => rfl) ma) (st_ne (fun _ => rfl) ma) (st_ne (fun _ => rfl) ma)]
  have k3 : K 3 = I 3 := kk 3 (by decide) (by decide) (by decide) (by decide) (by decide) (by decide)
  have k72 : K 72 = I 72 := kk 72 (by decide) (by decide) (by decide) (by decide) (by decide) (by decide)
  obtain ⟨L, e2, SL, l3, l72⟩ := e_gm (a2 := nI k) X SK rmi.2.1 (fun j _ => by rw [k72]) hq g5 H
  refine ⟨_, K, L, ?_, e2, RI_sm (sq_3 SL (l3.trans k3) (fun j hj => by rw [l72 j hj, k72])) hR0⟩
  unfold F_X11_gains_0
  rw [gP1 (n := p) hp1, am_b1_s, g1, if_neg (by decide), e, am_b1_s, am_b1_s, k1, k2]
  rcases (show k = 0 ∨ k = 1 by omega) with rfl | rfl
  · rw [if_pos (show nI 0 = 0 from rfl), if_pos (show nI 0 = 0 from rfl), if_pos (show nI 0 = 0 from rfl)]
  · rw [if_neg (show ¬ nI 1 = 0 by decide), if_pos (show nI 1 = 1 from rfl), if_neg (show ¬ nI 1 = 0 by decide), if_neg (show ¬ nI 1 = 0 by decide)]
