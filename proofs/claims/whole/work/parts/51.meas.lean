/-- a state with one cell set -/
def st2 (I : am_IT) (k : Nat) (f : Nat → Int32) : am_IT := fun k' => if k' = k then f else I k'
theorem st2_s (I : am_IT) (k : Nat) (f : Nat → Int32) : st2 I k f k = f := by simp [st2]
theorem st2_k (I : am_IT) {k k2 : Nat} (f : Nat → Int32) (h : k2 ≠ k) : st2 I k f k2 = I k2 := by simp [st2, h]
theorem st2_u (I : am_IT) (k : Nat) (f : Nat → Int32) (j : Nat) (v : Int32) : up2 (st2 I k f) k j v = st2 I k (fun i => if i = j then v else f i) := by
  funext a i
  unfold up2 st2
  by_cases h : a = k
  · subst h
    by_cases hi : i = j
    · simp [hi]
    · simp [hi]
  · simp [h]
theorem st2_I (I : am_IT) (k : Nat) : st2 I k (I k) = I := by
  funext a
  unfold st2
  by_cases h : a = k
  · subst h; simp
  · simp [h]
theorem st2_e (I : am_IT) {k : Nat} {f g : Nat → Int32} (h : ∀ j, f j = g j) : st2 I k f = st2 I k g := by rw [show f = g from funext h]
theorem it_b1 {X E Z : Type} {f : X → Option (X ⊕ E)} {k : E → Option Z} {z : Option Z} {x0 : X} {e : E} {n : Nat} (S : Nat → X) (h0 : x0 = S 0) (hn : n < 1000000) (hs : ∀ i, i < n → f (S i) = some (.inl (S (i + 1)))) (he : f (S n) = some (.inr e)) (hk : k e = z) : am_b1 (am_it am_fu f x0) k = z := by
  rw [h0, am_it_up S hn hs he]; exact hk
theorem it_u2 {A B E Z : Type} {f : A → B → Option ((A × B) ⊕ E)} {k : E → Option Z} {z : Option Z} {a0 : A} {b0 : B} {e : E} {n : Nat} (P : Nat → A) (Q : Nat → B) (h0 : (a0, b0) = (P 0, Q 0)) (hn : n < 1000000) (hs : ∀ i, i < n → f (P i) (Q i) = some (.inl (P (i + 1), Q (i + 1)))) (he : f (P n) (Q n) = some (.inr e)) (hk : k e = z) : am_b1 (am_it am_fu (am_u2 f) (a0, b0)) k = z :=
  it_b1 (fun i => (P i, Q i)) h0 hn hs he hk
def cl0 (x : Int32) : Int32 := if x < 0 then 0 else x
def mS (I : am_IT) : Nat → Nat → Int32
  | 0 => fun j => if j < 56 then I 5 j else I 24 j
  | i + 1 => fun j => if j = (I 6 (3 * i)).toNatClampNeg then mS I i (I 6 (3 * i)).toNatClampNeg - ((I 1 2 - I 6 (3 * i + 2)) * I 6 (3 * i + 1)) else mS I i j
def mC (I : am_IT) (t : Nat) : Nat → Int32 := fun j => if j < 56 then cl0 (mS I t j) else mS I t j
theorem e_meas {I : am_IT} {t : Nat} (ht : I 1 5 = nI t) (htb : t ≤ 20) (hp : ∀ i, i < t → ∃ q, q < 56 ∧ I 6 (3 * i) = nI q) : F_X8_measure_23 I = some (st2 I 24 (mC I t)) := by
  unfold F_X8_measure_23
  have e0 : cpy2 I 5 24 (0 : Int32).toNatClampNeg (0 : Int32).toNatClampNeg (56 : Int32).toNatClampNeg = st2 I 24 (mS I 0) := by
    rw [show (0 : Int32).toNatClampNeg = 0 from rfl, show (56 : Int32).toNatClampNeg = 56 from rfl]
    funext k j
    unfold cpy2 st2 mS
    by_cases hk : k = 24
    · subst hk
      by_cases hj : j < 56
      · simp [hj]
      · simp [hj]
    · simp [hk]
  rw [if_pos (by decide), e0, am_let_s]
  refine it_u2 (fun i => nI i) (fun i => st2 I 24 (mS I i)) (n := t) (e := st2 I 24 (mS I t)) rfl (by omega) (fun i hi => ?_) ?_ ?_
  rotate_left 2
  · refine it_u2 (fun i => nI i) (fun i => st2 I 24 (fun j => if j < i then cl0 (mS I t j) else mS I t j)) (n := 56) (e := st2 I 24 (mC I t)) ?_ (by omega) (fun i hi => ?_) ?_ rfl
    · show ((0 : Int32), st2 I 24 (mS I t)) = (nI 0, st2 I 24 (fun j => if j < 0 then cl0 (mS I t j) else mS I t j))
      rw [show (fun j => if j < 0 then cl0 (mS I t j) else mS I t j) = mS I t from funext (fun j => if_neg (by omega))]; rfl
    · rw [show (56 : Int32) = nI 56 from rfl]
      rw [if_neg (nI_ge (a := i) (b := 56) hi (by decide)), if_pos (am_ix_nI hi (by decide)), if_pos (am_ix_nI hi (by decide)), am_let_s, am_let_s, nI_clamp (by omega), st2_s, st2_u, if_neg (show ¬ i < i by omega), nI_succ]
      refine congrArg (fun z => some (Sum.inl (nI i + 1, z))) (st2_e I (fun j => ?_))
      by_cases hj : j = i
      · subst hj; rw [if_pos rfl]; show cl0 (mS I t j) = _; rw [if_pos (by omega)]
      · rw [if_neg hj]
        by_cases h2 : j < i
        · rw [if_pos h2, if_pos (by omega)]
        · rw [if_neg h2, if_neg (by omega)]
    · show (if (56 : Int32) ≤ nI 56 then _ else _) = _
      rw [if_pos (by decide)]; rfl
  · obtain ⟨q, hq, eq⟩ := hp i hi
    have e3 : nI i * 3 = nI (3 * i) := by rw [show (3 : Int32) = nI 3 from rfl, pk_mul, Nat.mul_comm]
    have ea : nI (3 * i) + 2 = nI (3 * i + 2) := nI_add _ 2
    have eb : nI (3 * i) + 0 = nI (3 * i) := nI_add _ 0
    have ec : nI (3 * i) + 1 = nI (3 * i + 1) := nI_add _ 1
    rw [show (st2 I 24 (mS I i)) 1 5 = nI t from ht, if_neg (nI_ge hi (by omega)), am_let_s, e3, ea, eb, ec, if_pos (am_ix_nI (by omega) (by decide)), am_let_s, if_pos (am_ix_nI (by omega) (by decide)), nI_clamp (by omega), nI_clamp (by omega), nI_clamp (by omega), show (st2 I 24 (mS I i)) 6 (3 * i) = nI q from eq, if_pos (am_ix_nI hq (by decide)), if_pos (am_ix_nI (by omega) (by decide)), if_pos (am_ix_nI hq (by decide)), am_let_s, am_let_s, st2_s, nI_clamp (by omega), st2_u]
    show some (Sum.inl (nI i + 1, st2 I 24 (fun j => if j = q then mS I i q - ((I 1 2 - I 6 (3 * i + 2)) * I 6 (3 * i + 1)) else mS I i j))) = some (Sum.inl (nI (i + 1), st2 I 24 (fun j => if j = (I 6 (3 * i)).toNatClampNeg then mS I i (I 6 (3 * i)).toNatClampNeg - ((I 1 2 - I 6 (3 * i + 2)) * I 6 (3 * i + 1)) else mS I i j)))
    rw [eq, nI_clamp (by omega), nI_succ]
  · show (if (st2 I 24 (mS I t)) 1 5 ≤ nI t then _ else _) = _
    rw [show (st2 I 24 (mS I t)) 1 5 = nI t from ht, if_pos (nI_le (Nat.le_refl t) (by omega))]
def tS (I : am_IT) (h u : Nat) : Nat → Int32
  | 0 => I 58 (7 * h + u)
  | i + 1 => if I 59 i = nI h ∧ I 60 i = nI u then tS I h u i - ((I 55 13 - I 62 i) * I 61 i) else tS I h u i
theorem e_seen {I : am_IT} {t h u : Nat} (ht : I 55 8 = nI t) (htb : t ≤ 20) (hh : h < 8) (hu : u < 7) : F_X12_seenFrom_55 I (nI h) (nI u) = some (cl0 (tS I h u t)) := by
  unfold F_X12_seenFrom_55
  have e1 : 7 * nI h + nI u = nI (7 * h + u) := by rw [show (7 : Int32) = nI 7 from rfl, pk_mul, nI_add]
  rw [e1, if_pos (am_ix_nI (by omega) (by decide)), am_let_s, nI_clamp (by omega)]
  refine it_u2 (fun i => tS I h u i) (fun i => nI i) (n := t) (e := tS I h u t) rfl (by omega) (fun i hi => ?_) ?_ ?_
  rotate_left 2
  · unfold cl0
    by_cases hz : tS I h u t < 0
    · rw [if_neg (Int32.not_le.mpr hz), if_pos hz]
    · rw [if_pos (Int32.not_lt.mp hz), if_neg hz]
  · show (if I 55 8 ≤ nI i then _ else _) = some (Sum.inl ((if I 59 i = nI h ∧ I 60 i = nI u then tS I h u i - ((I 55 13 - I 62 i) * I 61 i) else tS I h u i), nI (i + 1)))
    have hx : am_ix (nI i) 20 = true := am_ix_nI (by omega) (by decide)
    rw [ht, if_neg (nI_ge hi (by omega)), if_pos hx, nI_clamp (by omega), nI_succ]
    by_cases c1 : I 59 i = nI h
    · rw [if_pos c1, if_pos hx]
      by_cases c2 : I 60 i = nI u
      · rw [if_pos c2, if_pos hx, if_pos hx, if_pos ⟨c1, c2⟩]; rfl
      · rw [if_neg c2, if_neg (fun e => c2 e.2)]; rfl
    · rw [if_neg c1, if_neg (fun e => c1 e.1)]; rfl
  · show (if I 55 8 ≤ nI t then _ else _) = _
    rw [ht, if_pos (nI_le (Nat.le_refl t) (by omega))]
theorem tr_ok {I : am_IT} {w y t : Nat} (hw : w ≤ 7) (rtr : rTree w y t (I 6) (I 59) (I 60) (I 61) (I 62)) : ∀ i, i < t → ∃ q, q < 56 ∧ I 6 (3 * i) = nI q := by
  intro i hi
  obtain ⟨h, u, g, s, h1, h2, h3, h4, e1, -⟩ := rtr i hi
  exact ⟨7 * h + u, by omega, e1⟩
theorem mS_tS {I : am_IT} {w y t : Nat} (hw : w ≤ 7) (rvi : rView (I 5) (I 58)) (rtr : rTree w y t (I 6) (I 59) (I 60) (I 61) (I 62)) (hy : I 1 2 = I 55 13) {h u : Nat} (hh : h < 8) (hu : u < 7) : ∀ i, i ≤ t → mS I i (7 * h + u) = tS I h u i
  | 0, _ => by
    show (if 7 * h + u < 56 then I 5 (7 * h + u) else _) = I 58 (7 * h + u)
    rw [if_pos (by omega)]
    exact (rvi _ (by omega)).1
  | i + 1, hi => by
    have ih := mS_tS hw rvi rtr hy hh hu i (by omega)
    obtain ⟨h', u', g, s, h1, h2, h3, h4, e1, e2, e3, e4, e5, e6, e7⟩ := rtr i (by omega)
    show (if 7 * h + u = (I 6 (3 * i)).toNatClampNeg then mS I i (I 6 (3 * i)).toNatClampNeg - ((I 1 2 - I 6 (3 * i + 2)) * I 6 (3 * i + 1)) else mS I i (7 * h + u)) = (if I 59 i = nI h ∧ I 60 i = nI u then tS I h u i - ((I 55 13 - I 62 i) * I 61 i) else tS I h u i)
    rw [e1, e2, e3, e4, e5, e6, e7, nI_clamp (by omega), hy]
    by_cases c : h' = h ∧ u' = u
    · obtain ⟨rfl, rfl⟩ := c
      rw [if_pos rfl, if_pos ⟨rfl, rfl⟩, ih]
    · rw [if_neg (by omega), if_neg (fun e => c ⟨(nI_eq (by omega) (by omega)).mp e.1, (nI_eq (by omega) (by omega)).mp e.2⟩), ih]
/-- the yards of a wall from a house, as the reference finds them -/
theorem mC_Y {I : am_IT} {w y t : Nat} (hw : w ≤ 7) (rvi : rView (I 5) (I 58)) (rtr : rTree w y t (I 6) (I 59) (I 60) (I 61) (I 62)) (hy : I 1 2 = I 55 13) {h u : Nat} (hh : h < 8) (hu : u < 7) : mC I t (7 * h + u) = cl0 (tS I h u t) := by
  unfold mC
  rw [if_pos (by omega), mS_tS hw rvi rtr hy hh hu t (Nat.le_refl t)]
theorem op_15 : am_op15 RI := by
  rintro b I a1 a2  ⟨c, w, p, t, y, d, ln, n, ⟨hb, ⟨⟨hc1, hc2⟩, hst, ⟨hy1, hy2⟩, ⟨hw1, hw2⟩, ⟨hp1, hp2⟩, ⟨ht1, ht2⟩, ⟨hl1, hl2⟩, ⟨hd1, hd2⟩⟩, ⟨rpo, rpa, rho, rvi, rtr, rta, rsa, rbe, rne, rde, rlo, rli, rru⟩⟩, rtp, rmi, rke⟩
  obtain ⟨b1, b2, b3, b4, b5, b6, b7, b8⟩ := id hb
  have no : F_X11_sees_0 I a1 a2 = some (-1, I) → F_X12_sees_55 I a1 a2 = some (-1, up2 I 55 0 0) → ∃ (r : Int32) (I1 : am_IT) (I2 : am_IT), F_X11_sees_0 I a1 a2 = some (r, I1) ∧ F_X12_sees_55 I1 a1 a2 = some (r, I2) ∧ RI b I2 := fun h1 h2 => ⟨_, I, _, h1, h2, c, w, p, t, y, d, ln, n, ⟨hb, ⟨⟨hc1, hc2⟩, hst, ⟨hy1, hy2⟩, ⟨hw1, hw2⟩, ⟨hp1, hp2⟩, ⟨ht1, ht2⟩, ⟨hl1, hl2⟩, ⟨hd1, hd2⟩⟩, ⟨rpo, rpa, rho, rvi, rtr, rta, rsa, rbe, rne, rde, rlo, rli, rru⟩⟩, rtp, rmi, rke⟩
  rcases gd_cases a1 (n := p) (by omega) with g1 | ⟨g1, j, hj, rfl⟩
  · refine no ?_ ?_
    · unfold F_X11_sees_0; rw [gP1 (n := p) hp1, am_b1_s, g1, if_pos rfl]
    · unfold F_X12_sees_55; rw [am_let_s, gP2 (I := up2 I 55 0 0) (n := p) hp2, am_b1_s, g1, if_pos rfl]
  rcases gd_cases a2 (n := w) (by omega) with g2 | ⟨g2, u, hu, rfl⟩
  · refine no ?_ ?_
    · unfold F_X11_sees_0; rw [gP1 (n := p) hp1, am_b1_s, g1, if_neg (by decide), gW1 (n := w) hw1, am_b1_s, g2, if_pos rfl]
    · unfold F_X12_sees_55; rw [am_let_s, gP2 (I := up2 I 55 0 0) (n := p) hp2, am_b1_s, g1, if_neg (by decide), gW2 (I := up2 I 55 0 0) (n := w) hw2, am_b1_s, g2, if_pos rfl]
  obtain ⟨eh, h, hh, e4⟩ := rho.1 j hj
  have hy : I 1 2 = I 55 13 := hy1.trans hy2.symm
  have e7 : nI h * 7 + nI u = nI (7 * h + u) := by rw [show (7 : Int32) = nI 7 from rfl, pk_mul, nI_add, Nat.mul_comm]
  refine ⟨cl0 (tS I h u t), st2 I 24 (mC I t), up2 (st2 I 24 (mC I t)) 55 0 0, ?_, ?_, c, w, p, t, y, d, ln, n, ⟨hb, ⟨⟨hc1, hc2⟩, hst, ⟨hy1, hy2⟩, ⟨hw1, hw2⟩, ⟨hp1, hp2⟩, ⟨ht1, ht2⟩, ⟨hl1, hl2⟩, ⟨hd1, hd2⟩⟩, ⟨rpo, rpa, rho, rvi, rtr, rta, rsa, rbe, rne, rde, rlo, rli, rru⟩⟩, rtp, rmi, rke⟩
  · unfold F_X11_sees_0
    rw [gP1 (n := p) hp1, am_b1_s, g1, if_neg (by decide), gW1 (n := w) hw1, am_b1_s, g2, if_neg (by decide), e_meas ht1 (by omega) (tr_ok b3 rtr), am_b1_s]
    unfold F_X8_yardsOf_23
    rw [if_pos (am_ix_nI (by omega) (by decide)), nI_clamp (by omega), st2_k _ _ (show 4 ≠ 24 by decide), e4, e7, if_pos (am_ix_nI (by omega) (by decide)), am_b1_s, nI_clamp (by omega), st2_s, mC_Y b3 rvi rtr hy hh (by omega)]
  · unfold F_X12_sees_55
    have e57 : (up2 (st2 I 24 (mC I t)) 55 0 0) 57 j = nI h := eh.symm.trans e4
    rw [am_let_s, gP2 (I := up2 (st2 I 24 (mC I t)) 55 0 0) (n := p) hp2, am_b1_s, g1, if_neg (by decide), gW2 (I := up2 (st2 I 24 (mC I t)) 55 0 0) (n := w) hw2, am_b1_s, g2, if_neg (by decide), if_pos (am_ix_nI (by omega) (by decide)), nI_clamp (by omega), e57, e_seen (I := up2 (st2 I 24 (mC I t)) 55 0 0) (t := t) ht2 (by omega) hh (by omega), am_b1_s]
    have et : ∀ i, tS (up2 (st2 I 24 (mC I t)) 55 0 0) h u i = tS I h u i := by
      intro i
      induction i with
      | zero => rfl
      | succ i ih => show (if I 59 i = nI h ∧ I 60 i = nI u then tS (up2 (st2 I 24 (mC I t)) 55 0 0) h u i - ((I 55 13 - I 62 i) * I 61 i) else tS (up2 (st2 I 24 (mC I t)) 55 0 0) h u i) = _; rw [ih]; rfl
    rw [et]
