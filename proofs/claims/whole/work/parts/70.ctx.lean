/-! queries in a context: what both read of a state, and what they leave alone -/
def cx (I : am_IT) (c w p t y d ln : Nat) : Prop := rBnd c w p t y d ln ∧ rSc c w p t y d ln I I ∧ rRest c w p t y d ln I I
def stc (k j : Nat) : Bool := mt k j && (!(k == 3) && !(k == 72))
def sq (I J : am_IT) : Prop := ∀ k j, stc k j = true → J k j = I k j
theorem sq_r (I : am_IT) : sq I I := fun _ _ _ => rfl
theorem sq_t {I J K : am_IT} (h : sq I J) (g : sq J K) : sq I K := fun k j m => (g k j m).trans (h k j m)
theorem stc_mt {k j : Nat} (h : stc k j = true) : mt k j = true := by
  unfold stc at h
  cases e : mt k j with
  | true => rfl
  | false => rw [e] at h; cases h
theorem stc_ne {k j : Nat} (h : stc k j = true) : k ≠ 3 ∧ k ≠ 72 := by
  constructor
  · rintro rfl; unfold stc at h; cases e : mt 3 j <;> rw [e] at h <;> exact absurd h (by decide)
  · rintro rfl; unfold stc at h; cases e : mt 72 j <;> rw [e] at h <;> exact absurd h (by decide)
theorem sq_of {I J : am_IT} (h : sm I J) : sq I J := fun k j m => h k j (stc_mt m)
theorem sq_c {I J : am_IT} (h : sq I J) {k : Nat} (hk : (mtC k && (!(k == 3) && !(k == 72))) = true) : J k = I k := funext (fun j => h k j (by
  unfold stc mt
  cases e : mtC k with
  | true => rw [e] at hk; simpa using hk
  | false => rw [e] at hk; cases hk))
theorem st_ne {a k j : Nat} (h0 : ∀ j, stc a j = false) (h : stc k j = true) : k ≠ a := by
  rintro rfl
  rw [h0] at h; cases h
theorem sq_x {I J K : am_IT} {a : Nat} (h : sq I J) (h0 : ∀ j, stc a j = false) (g : ∀ k, k ≠ a → K k = J k) : sq I K := fun k j m => by rw [g k (st_ne h0 m)]; exact h k j m
theorem sq_u {I J : am_IT} {k j : Nat} (v : Int32) (h : sq I J) (h0 : stc k j = false) : sq I (up2 J k j v) := by
  intro a i m
  unfold up2
  rw [if_neg]
  · exact h a i m
  · rintro ⟨rfl, rfl⟩
    rw [h0] at m; cases m
theorem sq_3 {I J : am_IT} (h : sq I J) (h3 : J 3 = I 3) (h72 : ∀ j, j < 7 → J 72 j = I 72 j) : sm I J := by
  intro k j m
  by_cases e3 : k = 3
  · subst e3; rw [h3]
  · by_cases e72 : k = 72
    · subst e72
      refine h72 j ?_
      by_cases hj : j < 7
      · exact hj
      · exfalso
        unfold mt mtC at m
        rw [decide_eq_false hj] at m
        exact absurd m (by simp)
    · refine h k j ?_
      unfold stc
      rw [m]
      simp [e3, e72]
/-- the house of one, the colour of a wall, as numbers -/
def hN (I : am_IT) (q : Nat) : Nat := (I 4 q).toNatClampNeg
def pN (I : am_IT) (u : Nat) : Nat := (I 3 u).toNatClampNeg
theorem hN_ok {I : am_IT} {c w p t y d ln q : Nat} (X : cx I c w p t y d ln) (hq : q < p) : hN I q < 8 ∧ I 4 q = nI (hN I q) ∧ I 57 q = nI (hN I q) := by
  obtain ⟨⟨b1, b2, b3, b4, b5, b6, b7, b8⟩, ⟨⟨hc1, hc2⟩, hst, ⟨hy1, hy2⟩, ⟨hw1, hw2⟩, ⟨hp1, hp2⟩, ⟨ht1, ht2⟩, ⟨hl1, hl2⟩, ⟨hd1, hd2⟩⟩, ⟨rpo, rpa, rho, rvi, rtr, rta, rsa, rbe, rne, rde, rlo, rli, rru⟩⟩ := X
  obtain ⟨e, h, hh, eh⟩ := rho.1 q hq
  unfold hN
  rw [← e, eh, nI_clamp (by omega)]
  exact ⟨hh, rfl, rfl⟩
theorem pN_ok {I : am_IT} {c w p t y d ln u : Nat} (X : cx I c w p t y d ln) (hu : u < w) : pN I u < c ∧ I 3 u = nI (pN I u) ∧ I 72 u = nI (pN I u) := by
  obtain ⟨⟨b1, b2, b3, b4, b5, b6, b7, b8⟩, ⟨⟨hc1, hc2⟩, hst, ⟨hy1, hy2⟩, ⟨hw1, hw2⟩, ⟨hp1, hp2⟩, ⟨ht1, ht2⟩, ⟨hl1, hl2⟩, ⟨hd1, hd2⟩⟩, ⟨rpo, rpa, rho, rvi, rtr, rta, rsa, rbe, rne, rde, rlo, rli, rru⟩⟩ := X
  obtain ⟨e, h, hh, eh⟩ := rpa u hu
  unfold pN
  rw [← e, eh, nI_clamp (by omega)]
  exact ⟨hh, rfl, rfl⟩
theorem ms {I J : am_IT} {c w p t y d ln : Nat} (X : cx I c w p t y d ln) (S : sq I J) : ∃ K, F_X8_measure_23 J = some K ∧ (∀ h u, h < 8 → u < 7 → K 24 (7 * h + u) = cl0 (tS I h u t)) ∧ ∀ k, k ≠ 24 → K k = J k := by
  obtain ⟨⟨b1, b2, b3, b4, b5, b6, b7, b8⟩, ⟨⟨hc1, hc2⟩, hst, ⟨hy1, hy2⟩, ⟨hw1, hw2⟩, ⟨hp1, hp2⟩, ⟨ht1, ht2⟩, ⟨hl1, hl2⟩, ⟨hd1, hd2⟩⟩, ⟨rpo, rpa, rho, rvi, rtr, rta, rsa, rbe, rne, rde, rlo, rli, rru⟩⟩ := X
  refine ⟨_, e_meas (I := J) (t := t) (by rw [sq_c S (k := 1) rfl]; exact ht1) b5 ?_, ?_, fun k hk => st2_k _ _ hk⟩
  · rw [sq_c S (k := 6) rfl]; exact tr_ok b3 rtr
  · intro h u hh hu
    rw [st2_s, mC_Y (I := J) (w := w) (y := y) b3 (by rw [sq_c S (k := 5) rfl, sq_c S (k := 58) rfl]; exact rvi) (by rw [sq_c S (k := 6) rfl, sq_c S (k := 59) rfl, sq_c S (k := 60) rfl, sq_c S (k := 61) rfl, sq_c S (k := 62) rfl]; exact rtr) (by rw [sq_c S (k := 1) rfl, S 55 13 rfl]; exact hy1.trans hy2.symm) hh hu, tS_c (I := I) (J := J) (S 55 13 rfl) (sq_c S rfl) (sq_c S rfl) (sq_c S rfl) (sq_c S rfl) (sq_c S rfl)]
theorem fy {I J : am_IT} {c w p t y d ln : Nat} (X : cx I c w p t y d ln) (S : sq I J) : ∃ K, F_X12_findsYards_55 J = some K ∧ (∀ h u, h < 8 → u < w → K 83 (7 * h + u) = cl0 (tS I h u t)) ∧ ∀ k, k ≠ 83 → K k = J k := by
  obtain ⟨⟨b1, b2, b3, b4, b5, b6, b7, b8⟩, ⟨⟨hc1, hc2⟩, hst, ⟨hy1, hy2⟩, ⟨hw1, hw2⟩, ⟨hp1, hp2⟩, ⟨ht1, ht2⟩, ⟨hl1, hl2⟩, ⟨hd1, hd2⟩⟩, ⟨rpo, rpa, rho, rvi, rtr, rta, rsa, rbe, rne, rde, rlo, rli, rru⟩⟩ := X
  refine ⟨_, e_fy (I := J) (t := t) (w := w) (by rw [S 55 4 rfl]; exact hw2) b3 (by rw [S 55 8 rfl]; exact ht2) b5, ?_, fun k hk => st2_k _ _ hk⟩
  intro h u hh hu
  rw [st2_s, yM_Y _ hh hu b3, tS_c (I := I) (J := J) (S 55 13 rfl) (sq_c S rfl) (sq_c S rfl) (sq_c S rfl) (sq_c S rfl) (sq_c S rfl)]
/-- WORTH of a painting to one from a house -/
def wV (I : am_IT) (t w q h : Nat) (P : Nat → Nat) : Int32 := wS (fun u => cl0 (tS I h u t)) P (fun k => I 7 (4 * q + k)) (I 10) (I 9 q) w
theorem cW_3 {I J : am_IT} {c w p t y d ln : Nat} (X : cx I c w p t y d ln) (S : sq I J) (hy : ∀ h u, h < 8 → u < 7 → J 24 (7 * h + u) = cl0 (tS I h u t)) {P : Nat → Nat} (hP : ∀ u, u < w → J 3 u = nI (P u) ∧ P u < 4) {q h : Nat} (hq : q < p) (hh : h < 8) : F_X8_worthIn_23_3 J (nI q) (nI h) = some (wV I t w q h P) := by
  obtain ⟨⟨b1, b2, b3, b4, b5, b6, b7, b8⟩, ⟨⟨hc1, hc2⟩, hst, ⟨hy1, hy2⟩, ⟨hw1, hw2⟩, ⟨hp1, hp2⟩, ⟨ht1, ht2⟩, ⟨hl1, hl2⟩, ⟨hd1, hd2⟩⟩, ⟨rpo, rpa, rho, rvi, rtr, rta, rsa, rbe, rne, rde, rlo, rli, rru⟩⟩ := X
  rw [e_wi_3 (I := J) (w := w) (Y := fun u => cl0 (tS I h u t)) (P := P) (T := fun k => I 7 (4 * q + k)) (by rw [sq_c S (k := 1) rfl]; exact hw1) b3 (by omega) hh hP (fun u hu => hy h u hh (by omega)) (fun k hk => by rw [sq_c S (k := 7) rfl]), sq_c S (k := 10) rfl, sq_c S (k := 9) rfl]
  rfl
theorem cT_3 {I J : am_IT} {c w p t y d ln : Nat} (X : cx I c w p t y d ln) (S : sq I J) (hy : ∀ h u, h < 8 → u < 7 → J 24 (7 * h + u) = cl0 (tS I h u t)) {P : Nat → Nat} (hP : ∀ u, u < w → J 3 u = nI (P u) ∧ P u < 4) {q : Nat} (hq : q < p) : F_X8_worthTo_23_3 J (nI q) = some (wV I t w q (hN I q) P) := by
  obtain ⟨h1, h2, h3⟩ := hN_ok X hq
  have b4 : p ≤ 7 := X.1.2.2.2.1
  unfold F_X8_worthTo_23_3
  rw [if_pos (am_ix_nI (by omega) (by decide)), nI_clamp (by omega), sq_c S (k := 4) rfl, h2, cW_3 X S hy hP hq h1, am_b1_s]
theorem cW_26 {I J : am_IT} {c w p t y d ln : Nat} (X : cx I c w p t y d ln) (S : sq I J) (hy : ∀ h u, h < 8 → u < 7 → J 24 (7 * h + u) = cl0 (tS I h u t)) {P : Nat → Nat} (hP : ∀ u, u < w → J 26 u = nI (P u) ∧ P u < 4) {q h : Nat} (hq : q < p) (hh : h < 8) : F_X8_worthIn_23_26 J (nI q) (nI h) = some (wV I t w q h P) := by
  obtain ⟨⟨b1, b2, b3, b4, b5, b6, b7, b8⟩, ⟨⟨hc1, hc2⟩, hst, ⟨hy1, hy2⟩, ⟨hw1, hw2⟩, ⟨hp1, hp2⟩, ⟨ht1, ht2⟩, ⟨hl1, hl2⟩, ⟨hd1, hd2⟩⟩, ⟨rpo, rpa, rho, rvi, rtr, rta, rsa, rbe, rne, rde, rlo, rli, rru⟩⟩ := X
  rw [e_wi_26 (I := J) (w := w) (Y := fun u => cl0 (tS I h u t)) (P := P) (T := fun k => I 7 (4 * q + k)) (by rw [sq_c S (k := 1) rfl]; exact hw1) b3 (by omega) hh hP (fun u hu => hy h u hh (by omega)) (fun k hk => by rw [sq_c S (k := 7) rfl]), sq_c S (k := 10) rfl, sq_c S (k := 9) rfl]
  rfl
theorem cT_26 {I J : am_IT} {c w p t y d ln : Nat} (X : cx I c w p t y d ln) (S : sq I J) (hy : ∀ h u, h < 8 → u < 7 → J 24 (7 * h + u) = cl0 (tS I h u t)) {P : Nat → Nat} (hP : ∀ u, u < w → J 26 u = nI (P u) ∧ P u < 4) {q : Nat} (hq : q < p) : F_X8_worthTo_23_26 J (nI q) = some (wV I t w q (hN I q) P) := by
  obtain ⟨h1, h2, h3⟩ := hN_ok X hq
  have b4 : p ≤ 7 := X.1.2.2.2.1
  unfold F_X8_worthTo_23_26
  rw [if_pos (am_ix_nI (by omega) (by decide)), nI_clamp (by omega), sq_c S (k := 4) rfl, h2, cW_26 X S hy hP hq h1, am_b1_s]
theorem cW_31 {I J : am_IT} {c w p t y d ln : Nat} (X : cx I c w p t y d ln) (S : sq I J) (hy : ∀ h u, h < 8 → u < 7 → J 24 (7 * h + u) = cl0 (tS I h u t)) {P : Nat → Nat} (hP : ∀ u, u < w → J 31 u = nI (P u) ∧ P u < 4) {q h : Nat} (hq : q < p) (hh : h < 8) : F_X8_worthIn_23_31 J (nI q) (nI h) = some (wV I t w q h P) := by
  obtain ⟨⟨b1, b2, b3, b4, b5, b6, b7, b8⟩, ⟨⟨hc1, hc2⟩, hst, ⟨hy1, hy2⟩, ⟨hw1, hw2⟩, ⟨hp1, hp2⟩, ⟨ht1, ht2⟩, ⟨hl1, hl2⟩, ⟨hd1, hd2⟩⟩, ⟨rpo, rpa, rho, rvi, rtr, rta, rsa, rbe, rne, rde, rlo, rli, rru⟩⟩ := X
  rw [e_wi_31 (I := J) (w := w) (Y := fun u => cl0 (tS I h u t)) (P := P) (T := fun k => I 7 (4 * q + k)) (by rw [sq_c S (k := 1) rfl]; exact hw1) b3 (by omega) hh hP (fun u hu => hy h u hh (by omega)) (fun k hk => by rw [sq_c S (k := 7) rfl]), sq_c S (k := 10) rfl, sq_c S (k := 9) rfl]
  rfl
theorem cT_31 {I J : am_IT} {c w p t y d ln : Nat} (X : cx I c w p t y d ln) (S : sq I J) (hy : ∀ h u, h < 8 → u < 7 → J 24 (7 * h + u) = cl0 (tS I h u t)) {P : Nat → Nat} (hP : ∀ u, u < w → J 31 u = nI (P u) ∧ P u < 4) {q : Nat} (hq : q < p) : F_X8_worthTo_23_31 J (nI q) = some (wV I t w q (hN I q) P) := by
  obtain ⟨h1, h2, h3⟩ := hN_ok X hq
  have b4 : p ≤ 7 := X.1.2.2.2.1
  unfold F_X8_worthTo_23_31
  rw [if_pos (am_ix_nI (by omega) (by decide)), nI_clamp (by omega), sq_c S (k := 4) rfl, h2, cW_31 X S hy hP hq h1, am_b1_s]
theorem cW_41 {I J : am_IT} {c w p t y d ln : Nat} (X : cx I c w p t y d ln) (S : sq I J) (hy : ∀ h u, h < 8 → u < 7 → J 24 (7 * h + u) = cl0 (tS I h u t)) {P : Nat → Nat} (hP : ∀ u, u < w → J 41 u = nI (P u) ∧ P u < 4) {q h : Nat} (hq : q < p) (hh : h < 8) : F_X8_worthIn_23_41 J (nI q) (nI h) = some (wV I t w q h P) := by
  obtain ⟨⟨b1, b2, b3, b4, b5, b6, b7, b8⟩, ⟨⟨hc1, hc2⟩, hst, ⟨hy1, hy2⟩, ⟨hw1, hw2⟩, ⟨hp1, hp2⟩, ⟨ht1, ht2⟩, ⟨hl1, hl2⟩, ⟨hd1, hd2⟩⟩, ⟨rpo, rpa, rho, rvi, rtr, rta, rsa, rbe, rne, rde, rlo, rli, rru⟩⟩ := X
  rw [e_wi_41 (I := J) (w := w) (Y := fun u => cl0 (tS I h u t)) (P := P) (T := fun k => I 7 (4 * q + k)) (by rw [sq_c S (k := 1) rfl]; exact hw1) b3 (by omega) hh hP (fun u hu => hy h u hh (by omega)) (fun k hk => by rw [sq_c S (k := 7) rfl]), sq_c S (k := 10) rfl, sq_c S (k := 9) rfl]
  rfl
theorem cT_41 {I J : am_IT} {c w p t y d ln : Nat} (X : cx I c w p t y d ln) (S : sq I J) (hy : ∀ h u, h < 8 → u < 7 → J 24 (7 * h + u) = cl0 (tS I h u t)) {P : Nat → Nat} (hP : ∀ u, u < w → J 41 u = nI (P u) ∧ P u < 4) {q : Nat} (hq : q < p) : F_X8_worthTo_23_41 J (nI q) = some (wV I t w q (hN I q) P) := by
  obtain ⟨h1, h2, h3⟩ := hN_ok X hq
  have b4 : p ≤ 7 := X.1.2.2.2.1
  unfold F_X8_worthTo_23_41
  rw [if_pos (am_ix_nI (by omega) (by decide)), nI_clamp (by omega), sq_c S (k := 4) rfl, h2, cW_41 X S hy hP hq h1, am_b1_s]
theorem mW {I J : am_IT} {c w p t y d ln off : Nat} (X : cx I c w p t y d ln) (S : sq I J) (hy : ∀ h u, h < 8 → u < w → J 83 (7 * h + u) = cl0 (tS I h u t)) (ho : off ≤ 28) {P : Nat → Nat} (hP : ∀ u, u < w → J 72 (off + u) = nI (P u) ∧ P u < 4) {q h : Nat} (hq : q < p) (hh : h < 8) : F_X12_worthFrom_55 J (nI h) (nI q) (nI off) = some (wV I t w q h P) := by
  obtain ⟨⟨b1, b2, b3, b4, b5, b6, b7, b8⟩, ⟨⟨hc1, hc2⟩, hst, ⟨hy1, hy2⟩, ⟨hw1, hw2⟩, ⟨hp1, hp2⟩, ⟨ht1, ht2⟩, ⟨hl1, hl2⟩, ⟨hd1, hd2⟩⟩, ⟨rpo, rpa, rho, rvi, rtr, rta, rsa, rbe, rne, rde, rlo, rli, rru⟩⟩ := X
  rw [e_wf (I := J) (w := w) (off := off) (Y := fun u => cl0 (tS I h u t)) (P := P) (T := fun k => I 7 (4 * q + k)) (N := I 10) (B := I 9 q) (by rw [S 55 4 rfl]; exact hw2) b3 (by omega) hh ho hP (fun u hu => hy h u hh hu) (fun k hk => by rw [sq_c S (k := 63) rfl]; exact (rta.1 (4 * q + k) (by omega)).1.symm) (by rw [sq_c S (k := 66) rfl]; exact rne.1) (by rw [sq_c S (k := 65) rfl]; exact (rbe.1 q hq).1.symm)]
  rfl
theorem mT {I J : am_IT} {c w p t y d ln off : Nat} (X : cx I c w p t y d ln) (S : sq I J) (hy : ∀ h u, h < 8 → u < w → J 83 (7 * h + u) = cl0 (tS I h u t)) (ho : off ≤ 28) {P : Nat → Nat} (hP : ∀ u, u < w → J 72 (off + u) = nI (P u) ∧ P u < 4) {q : Nat} (hq : q < p) : F_X12_worthOf_55 J (nI q) (nI off) = some (wV I t w q (hN I q) P) := by
  obtain ⟨h1, h2, h3⟩ := hN_ok X hq
  have b4 : p ≤ 7 := X.1.2.2.2.1
  unfold F_X12_worthOf_55
  rw [if_pos (am_ix_nI (by omega) (by decide)), nI_clamp (by omega), sq_c S (k := 57) rfl, h3, mW X S hy ho hP hq h1, am_b1_s]
