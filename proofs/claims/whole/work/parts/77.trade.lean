/-! trades, the class's side -/
theorem fe_n {Z0 Z : Type} (φ : Z0 → Z) (d : Option Z) : fe none φ d = d := rfl
theorem fe_s {Z0 Z : Type} (z : Z0) (φ : Z0 → Z) (d : Option Z) : fe (some z) φ d = some (φ z) := rfl
theorem fx_n {X E Z0 Z : Type} (φ : Z0 → Z) (y : X) : (fx none φ y : Option (X ⊕ (E ⊕ Z))) = some (.inl y) := rfl
theorem it_fs2 {B E Z0 Z : Type} {f : Int32 → B → Option ((Int32 × B) ⊕ (E ⊕ Z))} {k : E → Option Z} {x0 : Int32} {y0 : B} {R : Option Z} {a n : Nat} {e0 : E} (h0 : x0 = nI a) (g : Nat → Option Z0) (φ : Z0 → Z) (ha : a ≤ n) (hn : n < 1000000) (hs : ∀ i, a ≤ i → i < n → f (nI i) y0 = fx (g i) φ (nI (i + 1), y0)) (he : f (nI n) y0 = some (.inr (.inl e0))) (hR : fe (fs g a (n - a)) φ (k e0) = R) : am_lr (am_it am_fu (am_u2 f) (x0, y0)) k = R := by
  subst h0
  rw [← hR]
  have go : ∀ (m j i : Nat), a ≤ i → i + j = n → j < m → am_lr (am_it m (am_u2 f) (nI i, y0)) k = fe (fs g i j) φ (k e0) := by
    intro m
    induction m with
    | zero => intro j i _ _ h; omega
    | succ m ih =>
      intro j i hi hj hm
      cases j with
      | zero =>
        have hin : i = n := by omega
        subst hin
        rw [am_it_e (f := am_u2 f) (x := (nI i, y0)) (e := .inl e0) he]; rfl
      | succ j =>
        have h1 := hs i hi (by omega)
        cases hg : g i with
        | none =>
          rw [hg] at h1
          rw [am_it_l (f := am_u2 f) (x := (nI i, y0)) (y := (nI (i + 1), y0)) h1, fs_n hg]
          exact ih j (i + 1) (by omega) (by omega) (by omega)
        | some z =>
          rw [hg] at h1
          rw [am_it_e (f := am_u2 f) (x := (nI i, y0)) (e := .inr (φ z)) h1, fs_y hg]; rfl
  exact go am_fu (n - a) a (Nat.le_refl a) (by omega) (by show n - a < 1000000; omega)
theorem fs_in {Z : Type} {g : Nat → Option Z} {z : Z} : ∀ {m a : Nat}, fs g a m = some z → ∃ i, a ≤ i ∧ i < a + m ∧ g i = some z
  | 0, a, h => by cases h
  | m + 1, a, h => by
    cases hg : g a with
    | none =>
      rw [fs_n hg] at h
      obtain ⟨i, h1, h2, h3⟩ := fs_in h
      exact ⟨i, by omega, by omega, h3⟩
    | some y =>
      rw [fs_y hg] at h
      cases h
      exact ⟨a, Nat.le_refl a, by omega, hg⟩
/-- yards, tastes of one -/
def YY (I : am_IT) (t q : Nat) : Nat → Int32 := fun u => cl0 (tS I (hN I q) u t)
def TT (I : am_IT) (q : Nat) : Nat → Int32 := fun k => I 7 (4 * q + k)
def VV (I : am_IT) (t w q : Nat) (P : Nat → Nat) : Int32 := wS (YY I t q) P (TT I q) (I 10) (I 9 q) w
def PZ (I : am_IT) (t q : Nat) (P : Nat → Nat) (u k w : Nat) : Int32 := pz (YY I t q) (I 10) (TT I q) (I 9 q) P u k w
def TW (I : am_IT) (t q u v : Nat) : Int32 := tw2 (YY I t q) (I 10) (I 9 q) u v
theorem e_prs (I : am_IT) {a b c d : Nat} (ha : a < 4) (hb : b < 4) (hc : c < 4) (hd : d < 4) : F_X10_pairsGained I (nI a) (nI b) (nI c) (nI d) = some (prs a b c d) := by
  unfold F_X10_pairsGained prs
  have hq : ∀ x y : Nat, x < 4 → y < 4 → ((nI x = nI y) ↔ x = y) := fun x y hx hy => nI_eq (by omega) (by omega)
  by_cases z1 : c = d
  · rw [if_pos (congrArg nI z1), if_pos z1, am_b1_s]
    by_cases z2 : c = b
    · rw [if_pos (congrArg nI z2), if_pos z2, am_b1_s, am_let_s]
      by_cases z3 : a = d
      · rw [if_pos (congrArg nI z3), if_pos z3, am_b1_s, am_let_s]
        by_cases z4 : a = b
        · rw [if_pos (congrArg nI z4), if_pos z4] <;> rfl
        · rw [if_neg (fun e => z4 ((hq a b ha hb).mp e)), if_neg z4] <;> rfl
      · rw [if_neg (fun e => z3 ((hq a d ha hd).mp e)), if_neg z3, am_b1_s, am_let_s]
        by_cases z4 : a = b
        · rw [if_pos (congrArg nI z4), if_pos z4] <;> rfl
        · rw [if_neg (fun e => z4 ((hq a b ha hb).mp e)), if_neg z4] <;> rfl
    · rw [if_neg (fun e => z2 ((hq c b hc hb).mp e)), if_neg z2, am_b1_s, am_let_s]
      by_cases z3 : a = d
      · rw [if_pos (congrArg nI z3), if_pos z3, am_b1_s, am_let_s]
        by_cases z4 : a = b
        · rw [if_pos (congrArg nI z4), if_pos z4] <;> rfl
        · rw [if_neg (fun e => z4 ((hq a b ha hb).mp e)), if_neg z4] <;> rfl
      · rw [if_neg (fun e => z3 ((hq a d ha hd).mp e)), if_neg z3, am_b1_s, am_let_s]
        by_cases z4 : a = b
        · rw [if_pos (congrArg nI z4), if_pos z4] <;> rfl
        · rw [if_neg (fun e => z4 ((hq a b ha hb).mp e)), if_neg z4] <;> rfl
  · rw [if_neg (fun e => z1 ((hq c d hc hd).mp e)), if_neg z1, am_b1_s]
    by_cases z2 : c = b
    · rw [if_pos (congrArg nI z2), if_pos z2, am_b1_s, am_let_s]
      by_cases z3 : a = d
      · rw [if_pos (congrArg nI z3), if_pos z3, am_b1_s, am_let_s]
        by_cases z4 : a = b
        · rw [if_pos (congrArg nI z4), if_pos z4] <;> rfl
        · rw [if_neg (fun e => z4 ((hq a b ha hb).mp e)), if_neg z4] <;> rfl
      · rw [if_neg (fun e => z3 ((hq a d ha hd).mp e)), if_neg z3, am_b1_s, am_let_s]
        by_cases z4 : a = b
        · rw [if_pos (congrArg nI z4), if_pos z4] <;> rfl
        · rw [if_neg (fun e => z4 ((hq a b ha hb).mp e)), if_neg z4] <;> rfl
    · rw [if_neg (fun e => z2 ((hq c b hc hb).mp e)), if_neg z2, am_b1_s, am_let_s]
      by_cases z3 : a = d
      · rw [if_pos (congrArg nI z3), if_pos z3, am_b1_s, am_let_s]
        by_cases z4 : a = b
        · rw [if_pos (congrArg nI z4), if_pos z4] <;> rfl
        · rw [if_neg (fun e => z4 ((hq a b ha hb).mp e)), if_neg z4] <;> rfl
      · rw [if_neg (fun e => z3 ((hq a d ha hd).mp e)), if_neg z3, am_b1_s, am_let_s]
        by_cases z4 : a = b
        · rw [if_pos (congrArg nI z4), if_pos z4] <;> rfl
        · rw [if_neg (fun e => z4 ((hq a b ha hb).mp e)), if_neg z4] <;> rfl
/-- a couple's trade of two walls -/
def cnd (I : am_IT) (t w q r : Nat) (P : Nat → Nat) (u v a b : Nat) : Option (Nat × Nat × Nat × Nat) := if VV I t w q (pu (pu P u a) v b) ≤ VV I t w q P then none else if VV I t w r (pu (pu P u a) v b) ≤ VV I t w r P then none else some (u, v, a, b)
def trW (I : am_IT) (t w c q r : Nat) (P : Nat → Nat) (u v : Nat) : Option (Nat × Nat × Nat × Nat) := fs (fun a => fs (fun b => cnd I t w q r P u v a b) 0 c) 0 c
def trS (I : am_IT) (t w c q r : Nat) (P : Nat → Nat) : Option (Nat × Nat × Nat × Nat) := fs (fun u => fs (fun v => trW I t w c q r P u v) (u + 1) (w - (u + 1))) 0 w
theorem trS_in {I : am_IT} {t w c q r : Nat} {P : Nat → Nat} {z : Nat × Nat × Nat × Nat} (h : trS I t w c q r P = some z) : z.1 < z.2.1 ∧ z.2.1 < w ∧ z.2.2.1 < c ∧ z.2.2.2 < c := by
  obtain ⟨u, h1, h2, h3⟩ := fs_in h
  obtain ⟨v, h4, h5, h6⟩ := fs_in h3
  obtain ⟨a, h7, h8, h9⟩ := fs_in h6
  obtain ⟨b, h10, h11, h12⟩ := fs_in h9
  unfold cnd at h12
  split at h12
  · cases h12
  · split at h12
    · cases h12
    · cases h12
      exact ⟨by show u < v; omega, by show v < w; omega, by show a < c; omega, by show b < c; omega⟩
theorem VV_ch {I : am_IT} {c w p t y d ln q u v a b : Nat} {P : Nat → Nat} (X : cx I c w p t y d ln) (hq : q < p) (hP : ∀ x, x < w → P x < c) (huv : u < v) (hv : v < w) (ha : a < c) (hb : b < c) :
    (PZ I t q P u a w - PZ I t q P u (P u) w) + (PZ I t q P v b w - PZ I t q P v (P v) w) + prs (P u) (P v) a b * TW I t q u v ≤ 0 ↔ VV I t w q (pu (pu P u a) v b) ≤ VV I t w q P := by
  have b2 : c ≤ 4 := X.1.2.1
  have b3 : w ≤ 7 := X.1.2.2.1
  have hN1 := (hN_ok X hq).1
  have hne : rNei (I 10) (I 66) := X.2.2.2.2.2.2.2.2.2.2.1
  have h := wS_2 (Y := YY I t q) (N := I 10) (T := TT I q) (B := I 9 q) (P := P) (a := a) (b := b) (fun x y hx hy => tw2_s (hne.2 x y hx hy)) b3 huv hv
  have e : VV I t w q (pu (pu P u a) v b) - VV I t w q P = (PZ I t q P u a w - PZ I t q P u (P u) w) + (PZ I t q P v b w - PZ I t q P v (P v) w) + prs (P u) (P v) a b * TW I t q u v := h
  rw [← e]
  exact sub_le0 (m := 43659) (n := 43659) (wV_b X hq hN1 (P := pu (pu P u a) v b) (fun x hx => by
    unfold pu
    have := hP x hx
    split
    · omega
    · split <;> omega)) (wV_b X hq hN1 (P := P) (fun x hx => by have := hP x hx; omega)) (by omega)
theorem e_wp_3_38 {I J : am_IT} {c w p t y d ln q : Nat} {P : Nat → Nat} (X : cx I c w p t y d ln) (S : sq I J) (hy : ∀ h u, h < 8 → u < 7 → J 24 (7 * h + u) = cl0 (tS I h u t)) (hP : ∀ u, u < w → J 3 u = nI (P u) ∧ P u < c) (hq : q < p) :
    ∃ K, F_X10_weighParts_36_3_38 J (nI q) = some K ∧ (∀ u k, u < w → k < c → K 38 (4 * u + k) = PZ I t q P u k w) ∧ ∀ a, a ≠ 38 → K a = J a := by
  have b2 : c ≤ 4 := X.1.2.1
  have b3 : w ≤ 7 := X.1.2.2.1
  have b4 : p ≤ 7 := X.1.2.2.2.1
  obtain ⟨h1, h2, -⟩ := hN_ok X hq
  unfold F_X10_weighParts_36_3_38
  refine it_b1_inv (R := fun z => ∃ K : am_IT, z = some K ∧ (∀ u k, u < w → k < c → K 38 (4 * u + k) = PZ I t q P u k w) ∧ ∀ a, a ≠ 38 → K a = J a)
    (fun i x => ∃ J' : am_IT, x = (nI i, J') ∧ (∀ u k, u < i → k < c → J' 38 (4 * u + k) = PZ I t q P u k w) ∧ ∀ a, a ≠ 38 → J' a = J a)
    (fun (K : am_IT) => (∀ u k, u < w → k < c → K 38 (4 * u + k) = PZ I t q P u k w) ∧ ∀ a, a ≠ 38 → K a = J a) (n := w) (by omega) ?_ ?_ ⟨J, by rw [nI_0], fun u k hu => absurd hu (Nat.not_lt_zero u), fun _ _ => rfl⟩ (fun K h => ⟨K, rfl, h⟩)
  · rintro u x hu ⟨J', rfl, j1, j2⟩
    have SJ : ∀ {L : am_IT}, (∀ a, a ≠ 38 → L a = J a) → sq I L := fun {L} h => sq_x S (fun _ => rfl) h
    have w1 : ∀ {L : am_IT}, (∀ a, a ≠ 38 → L a = J a) → L 1 3 = nI w := fun {L} h => by rw [sq_c (SJ h) (k := 1) rfl]; exact X.2.1.2.2.2.1.1
    have c1 : ∀ {L : am_IT}, (∀ a, a ≠ 38 → L a = J a) → L 1 0 = nI c := fun {L} h => by rw [sq_c (SJ h) (k := 1) rfl]; exact X.2.1.1.1
    have q4 : ∀ {L : am_IT}, (∀ a, a ≠ 38 → L a = J a) → L 4 q = nI (hN I q) := fun {L} h => by rw [sq_c (SJ h) (k := 4) rfl]; exact h2
    rw [am_u2_s, w1 j2, if_neg (nI_ge hu (by omega))]
    refine it_b1_inv (R := fun (z : Option ((Int32 × am_IT) ⊕ am_IT)) => ∃ y : Int32 × am_IT, z = some (.inl y) ∧ ∃ J' : am_IT, y = (nI (u + 1), J') ∧ (∀ x k, x < u + 1 → k < c → J' 38 (4 * x + k) = PZ I t q P x k w) ∧ ∀ a, a ≠ 38 → J' a = J a)
      (fun i x => ∃ L : am_IT, x = (nI i, L) ∧ (∀ x k, x < u → k < c → L 38 (4 * x + k) = PZ I t q P x k w) ∧ (∀ k, k < i → L 38 (4 * u + k) = PZ I t q P u k 0) ∧ ∀ a, a ≠ 38 → L a = J a)
      (fun (L : am_IT) => (∀ x k, x < u → k < c → L 38 (4 * x + k) = PZ I t q P x k w) ∧ (∀ k, k < c → L 38 (4 * u + k) = PZ I t q P u k 0) ∧ ∀ a, a ≠ 38 → L a = J a) (n := c) (by omega) ?_ ?_ ⟨J', by rw [nI_0], j1, fun k hk => absurd hk (Nat.not_lt_zero k), j2⟩ ?_
    · rintro k x hk ⟨L, rfl, l1, l2, l3⟩
      refine ⟨(nI (k + 1), up2 L 38 (4 * u + k) (YY I t q u * TT I q k)), ?_, _, rfl, ?_, ?_, ?_⟩
      · rw [am_u2_s, c1 l3, if_neg (nI_ge hk (by omega)), e_yo (h := hN I q) (by omega) (by omega) h1 (q4 l3), am_b1_s, m4, m4, if_pos (am_ix_nI (by omega) (by decide)), if_pos (am_ix_nI (by omega) (by decide)), am_let_s, am_let_s, nI_clamp (by omega), nI_clamp (by omega), nI_1, l3 24 (by decide), hy _ u h1 (by omega), l3 7 (by decide), sq_c S (k := 7) rfl]
        rfl
      · intro x k' hx hk'
        rw [up2_j _ _ (by omega)]; exact l1 x k' hx hk'
      · intro k' hk'
        by_cases z : k' = k
        · subst z; exact up2_s _ _ _ _
        · rw [up2_j _ _ (by omega)]; exact l2 k' (by omega)
      · intro a ha
        rw [up2_k _ _ ha]; exact l3 a ha
    · rintro x ⟨L, rfl, l1, l2, l3⟩
      exact ⟨L, by rw [am_u2_s, c1 l3, if_pos (nI_le (Nat.le_refl c) (by omega))], l1, l2, l3⟩
    rintro M ⟨m1, m2, m3⟩
    refine it_b1_inv (R := fun (z : Option ((Int32 × am_IT) ⊕ am_IT)) => ∃ y : Int32 × am_IT, z = some (.inl y) ∧ ∃ J' : am_IT, y = (nI (u + 1), J') ∧ (∀ x k, x < u + 1 → k < c → J' 38 (4 * x + k) = PZ I t q P x k w) ∧ ∀ a, a ≠ 38 → J' a = J a)
      (fun i x => ∃ L : am_IT, x = (nI i, L) ∧ (∀ x k, x < u → k < c → L 38 (4 * x + k) = PZ I t q P x k w) ∧ (∀ k, k < c → L 38 (4 * u + k) = PZ I t q P u k i) ∧ ∀ a, a ≠ 38 → L a = J a)
      (fun (L : am_IT) => (∀ x k, x < u → k < c → L 38 (4 * x + k) = PZ I t q P x k w) ∧ (∀ k, k < c → L 38 (4 * u + k) = PZ I t q P u k w) ∧ ∀ a, a ≠ 38 → L a = J a) (n := w) (by omega) ?_ ?_ ⟨M, by rw [nI_0], m1, m2, m3⟩ ?_
    · rintro v x hv ⟨L, rfl, l1, l2, l3⟩
      obtain ⟨eP, hP4⟩ := hP v hv
      have ePL : L 3 v = nI (P v) := by rw [l3 3 (by decide)]; exact eP
      rw [am_u2_s, w1 l3, if_neg (nI_ge hv (by omega))]
      by_cases z : v = u
      · refine ⟨(nI (v + 1), L), by rw [if_pos (congrArg nI z), am_let_s, nI_1], L, rfl, l1, ?_, l3⟩
        intro k hk
        rw [l2 k hk]
        exact (if_pos z).symm
      · refine ⟨(nI (v + 1), up2 L 38 (4 * u + P v) (L 38 (4 * u + P v) + TW I t q u v)), ?_, _, rfl, ?_, ?_, ?_⟩
        · rw [if_neg (fun e => z ((nI_eq (by omega) (by omega)).mp e)), if_pos (am_ix_nI (by omega) (by decide)), nI_clamp (by omega), ePL, m4, if_pos (am_ix_nI (by omega) (by decide)), if_pos (am_ix_nI (by omega) (by decide)), nI_clamp (by omega), q4 l3, e_w2 (by omega) h1 (by omega) (by omega), am_b1_s, if_pos (am_ix_nI (by omega) (by decide)), am_let_s, am_let_s, nI_clamp (by omega), nI_1, l3 24 (by decide), hy _ u h1 (by omega), hy _ v h1 (by omega), l3 10 (by decide), l3 9 (by decide), sq_c S (k := 10) rfl, sq_c S (k := 9) rfl]
          rfl
        · intro x k' hx hk'
          rw [up2_j _ _ (by omega)]; exact l1 x k' hx hk'
        · intro k hk
          have e : PZ I t q P u k (v + 1) = if P v = k then PZ I t q P u k v + TW I t q u v else PZ I t q P u k v := if_neg z
          rw [e]
          by_cases z2 : P v = k
          · rw [if_pos z2, ← z2, up2_s, l2 (P v) hP4]
          · rw [if_neg z2, up2_j _ _ (by omega)]; exact l2 k hk
        · intro a ha
          rw [up2_k _ _ ha]; exact l3 a ha
    · rintro x ⟨L, rfl, l1, l2, l3⟩
      exact ⟨L, by rw [am_u2_s, w1 l3, if_pos (nI_le (Nat.le_refl w) (by omega))], l1, l2, l3⟩
    rintro L ⟨l1, l2, l3⟩
    refine ⟨(nI (u + 1), L), by rw [am_let_s, nI_1], L, rfl, ?_, l3⟩
    intro x k hx hk
    by_cases z : x = u
    · subst z; exact l2 k hk
    · exact l1 x k (by omega) hk
  · rintro x ⟨J', rfl, j1, j2⟩
    have w1 : J' 1 3 = nI w := by rw [j2 1 (by decide), sq_c S (k := 1) rfl]; exact X.2.1.2.2.2.1.1
    exact ⟨J', by rw [am_u2_s, w1, if_pos (nI_le (Nat.le_refl w) (by omega))], j1, j2⟩
theorem e_cg_38_3 {K : am_IT} {w c u v a b : Nat} {P : Nat → Nat} {W : Nat → Nat → Int32} (hc : c ≤ 4) (hw : w ≤ 7) (hP : ∀ u, u < w → K 3 u = nI (P u) ∧ P u < c) (hW : ∀ u k, u < w → k < c → K 38 (4 * u + k) = W u k) (hu : u < w) (hv : v < w) (ha : a < c) (hb : b < c) : F_X10_change_38_3 K (nI u) (nI v) (nI a) (nI b) = some ((W u a - W u (P u)) + (W v b - W v (P v))) := by
  obtain ⟨e1, p1⟩ := hP u hu
  obtain ⟨e2, p2⟩ := hP v hv
  unfold F_X10_change_38_3
  rw [m4, if_pos (am_ix_nI (by omega) (by decide)), if_pos (am_ix_nI (by omega) (by decide)), nI_clamp (show u < 2 ^ 31 by omega), e1, m4 u (P u), if_pos (am_ix_nI (by omega) (by decide)), am_let_s, m4 v b, if_pos (am_ix_nI (by omega) (by decide)), if_pos (am_ix_nI (by omega) (by decide)), nI_clamp (show v < 2 ^ 31 by omega), e2, m4 v (P v), if_pos (am_ix_nI (by omega) (by decide)), am_let_s, nI_clamp (show 4 * u + a < 2 ^ 31 by omega), nI_clamp (show 4 * u + P u < 2 ^ 31 by omega), nI_clamp (show 4 * v + b < 2 ^ 31 by omega), nI_clamp (show 4 * v + P v < 2 ^ 31 by omega), hW u a hu ha, hW u _ hu p1, hW v b hv hb, hW v _ hv p2]
theorem e_wp_3_39 {I J : am_IT} {c w p t y d ln q : Nat} {P : Nat → Nat} (X : cx I c w p t y d ln) (S : sq I J) (hy : ∀ h u, h < 8 → u < 7 → J 24 (7 * h + u) = cl0 (tS I h u t)) (hP : ∀ u, u < w → J 3 u = nI (P u) ∧ P u < c) (hq : q < p) :
    ∃ K, F_X10_weighParts_36_3_39 J (nI q) = some K ∧ (∀ u k, u < w → k < c → K 39 (4 * u + k) = PZ I t q P u k w) ∧ ∀ a, a ≠ 39 → K a = J a := by
  have b2 : c ≤ 4 := X.1.2.1
  have b3 : w ≤ 7 := X.1.2.2.1
  have b4 : p ≤ 7 := X.1.2.2.2.1
  obtain ⟨h1, h2, -⟩ := hN_ok X hq
  unfold F_X10_weighParts_36_3_39
  refine it_b1_inv (R := fun z => ∃ K : am_IT, z = some K ∧ (∀ u k, u < w → k < c → K 39 (4 * u + k) = PZ I t q P u k w) ∧ ∀ a, a ≠ 39 → K a = J a)
    (fun i x => ∃ J' : am_IT, x = (nI i, J') ∧ (∀ u k, u < i → k < c → J' 39 (4 * u + k) = PZ I t q P u k w) ∧ ∀ a, a ≠ 39 → J' a = J a)
    (fun (K : am_IT) => (∀ u k, u < w → k < c → K 39 (4 * u + k) = PZ I t q P u k w) ∧ ∀ a, a ≠ 39 → K a = J a) (n := w) (by omega) ?_ ?_ ⟨J, by rw [nI_0], fun u k hu => absurd hu (Nat.not_lt_zero u), fun _ _ => rfl⟩ (fun K h => ⟨K, rfl, h⟩)
  · rintro u x hu ⟨J', rfl, j1, j2⟩
    have SJ : ∀ {L : am_IT}, (∀ a, a ≠ 39 → L a = J a) → sq I L := fun {L} h => sq_x S (fun _ => rfl) h
    have w1 : ∀ {L : am_IT}, (∀ a, a ≠ 39 → L a = J a) → L 1 3 = nI w := fun {L} h => by rw [sq_c (SJ h) (k := 1) rfl]; exact X.2.1.2.2.2.1.1
    have c1 : ∀ {L : am_IT}, (∀ a, a ≠ 39 → L a = J a) → L 1 0 = nI c := fun {L} h => by rw [sq_c (SJ h) (k := 1) rfl]; exact X.2.1.1.1
    have q4 : ∀ {L : am_IT}, (∀ a, a ≠ 39 → L a = J a) → L 4 q = nI (hN I q) := fun {L} h => by rw [sq_c (SJ h) (k := 4) rfl]; exact h2
    rw [am_u2_s, w1 j2, if_neg (nI_ge hu (by omega))]
    refine it_b1_inv (R := fun (z : Option ((Int32 × am_IT) ⊕ am_IT)) => ∃ y : Int32 × am_IT, z = some (.inl y) ∧ ∃ J' : am_IT, y = (nI (u + 1), J') ∧ (∀ x k, x < u + 1 → k < c → J' 39 (4 * x + k) = PZ I t q P x k w) ∧ ∀ a, a ≠ 39 → J' a = J a)
      (fun i x => ∃ L : am_IT, x = (nI i, L) ∧ (∀ x k, x < u → k < c → L 39 (4 * x + k) = PZ I t q P x k w) ∧ (∀ k, k < i → L 39 (4 * u + k) = PZ I t q P u k 0) ∧ ∀ a, a ≠ 39 → L a = J a)
      (fun (L : am_IT) => (∀ x k, x < u → k < c → L 39 (4 * x + k) = PZ I t q P x k w) ∧ (∀ k, k < c → L 39 (4 * u + k) = PZ I t q P u k 0) ∧ ∀ a, a ≠ 39 → L a = J a) (n := c) (by omega) ?_ ?_ ⟨J', by rw [nI_0], j1, fun k hk => absurd hk (Nat.not_lt_zero k), j2⟩ ?_
    · rintro k x hk ⟨L, rfl, l1, l2, l3⟩
      refine ⟨(nI (k + 1), up2 L 39 (4 * u + k) (YY I t q u * TT I q k)), ?_, _, rfl, ?_, ?_, ?_⟩
      · rw [am_u2_s, c1 l3, if_neg (nI_ge hk (by omega)), e_yo (h := hN I q) (by omega) (by omega) h1 (q4 l3), am_b1_s, m4, m4, if_pos (am_ix_nI (by omega) (by decide)), if_pos (am_ix_nI (by omega) (by decide)), am_let_s, am_let_s, nI_clamp (by omega), nI_clamp (by omega), nI_1, l3 24 (by decide), hy _ u h1 (by omega), l3 7 (by decide), sq_c S (k := 7) rfl]
        rfl
      · intro x k' hx hk'
        rw [up2_j _ _ (by omega)]; exact l1 x k' hx hk'
      · intro k' hk'
        by_cases z : k' = k
        · subst z; exact up2_s _ _ _ _
        · rw [up2_j _ _ (by omega)]; exact l2 k' (by omega)
      · intro a ha
        rw [up2_k _ _ ha]; exact l3 a ha
    · rintro x ⟨L, rfl, l1, l2, l3⟩
      exact ⟨L, by rw [am_u2_s, c1 l3, if_pos (nI_le (Nat.le_refl c) (by omega))], l1, l2, l3⟩
    rintro M ⟨m1, m2, m3⟩
    refine it_b1_inv (R := fun (z : Option ((Int32 × am_IT) ⊕ am_IT)) => ∃ y : Int32 × am_IT, z = some (.inl y) ∧ ∃ J' : am_IT, y = (nI (u + 1), J') ∧ (∀ x k, x < u + 1 → k < c → J' 39 (4 * x + k) = PZ I t q P x k w) ∧ ∀ a, a ≠ 39 → J' a = J a)
      (fun i x => ∃ L : am_IT, x = (nI i, L) ∧ (∀ x k, x < u → k < c → L 39 (4 * x + k) = PZ I t q P x k w) ∧ (∀ k, k < c → L 39 (4 * u + k) = PZ I t q P u k i) ∧ ∀ a, a ≠ 39 → L a = J a)
      (fun (L : am_IT) => (∀ x k, x < u → k < c → L 39 (4 * x + k) = PZ I t q P x k w) ∧ (∀ k, k < c → L 39 (4 * u + k) = PZ I t q P u k w) ∧ ∀ a, a ≠ 39 → L a = J a) (n := w) (by omega) ?_ ?_ ⟨M, by rw [nI_0], m1, m2, m3⟩ ?_
    · rintro v x hv ⟨L, rfl, l1, l2, l3⟩
      obtain ⟨eP, hP4⟩ := hP v hv
      have ePL : L 3 v = nI (P v) := by rw [l3 3 (by decide)]; exact eP
      rw [am_u2_s, w1 l3, if_neg (nI_ge hv (by omega))]
      by_cases z : v = u
      · refine ⟨(nI (v + 1), L), by rw [if_pos (congrArg nI z), am_let_s, nI_1], L, rfl, l1, ?_, l3⟩
        intro k hk
        rw [l2 k hk]
        exact (if_pos z).symm
      · refine ⟨(nI (v + 1), up2 L 39 (4 * u + P v) (L 39 (4 * u + P v) + TW I t q u v)), ?_, _, rfl, ?_, ?_, ?_⟩
        · rw [if_neg (fun e => z ((nI_eq (by omega) (by omega)).mp e)), if_pos (am_ix_nI (by omega) (by decide)), nI_clamp (by omega), ePL, m4, if_pos (am_ix_nI (by omega) (by decide)), if_pos (am_ix_nI (by omega) (by decide)), nI_clamp (by omega), q4 l3, e_w2 (by omega) h1 (by omega) (by omega), am_b1_s, if_pos (am_ix_nI (by omega) (by decide)), am_let_s, am_let_s, nI_clamp (by omega), nI_1, l3 24 (by decide), hy _ u h1 (by omega), hy _ v h1 (by omega), l3 10 (by decide), l3 9 (by decide), sq_c S (k := 10) rfl, sq_c S (k := 9) rfl]
          rfl
        · intro x k' hx hk'
          rw [up2_j _ _ (by omega)]; exact l1 x k' hx hk'
        · intro k hk
          have e : PZ I t q P u k (v + 1) = if P v = k then PZ I t q P u k v + TW I t q u v else PZ I t q P u k v := if_neg z
          rw [e]
          by_cases z2 : P v = k
          · rw [if_pos z2, ← z2, up2_s, l2 (P v) hP4]
          · rw [if_neg z2, up2_j _ _ (by omega)]; exact l2 k hk
        · intro a ha
          rw [up2_k _ _ ha]; exact l3 a ha
    · rintro x ⟨L, rfl, l1, l2, l3⟩
      exact ⟨L, by rw [am_u2_s, w1 l3, if_pos (nI_le (Nat.le_refl w) (by omega))], l1, l2, l3⟩
    rintro L ⟨l1, l2, l3⟩
    refine ⟨(nI (u + 1), L), by rw [am_let_s, nI_1], L, rfl, ?_, l3⟩
    intro x k hx hk
    by_cases z : x = u
    · subst z; exact l2 k hk
    · exact l1 x k (by omega) hk
  · rintro x ⟨J', rfl, j1, j2⟩
    have w1 : J' 1 3 = nI w := by rw [j2 1 (by decide), sq_c S (k := 1) rfl]; exact X.2.1.2.2.2.1.1
    exact ⟨J', by rw [am_u2_s, w1, if_pos (nI_le (Nat.le_refl w) (by omega))], j1, j2⟩
theorem e_cg_39_3 {K : am_IT} {w c u v a b : Nat} {P : Nat → Nat} {W : Nat → Nat → Int32} (hc : c ≤ 4) (hw : w ≤ 7) (hP : ∀ u, u < w → K 3 u = nI (P u) ∧ P u < c) (hW : ∀ u k, u < w → k < c → K 39 (4 * u + k) = W u k) (hu : u < w) (hv : v < w) (ha : a < c) (hb : b < c) : F_X10_change_39_3 K (nI u) (nI v) (nI a) (nI b) = some ((W u a - W u (P u)) + (W v b - W v (P v))) := by
  obtain ⟨e1, p1⟩ := hP u hu
  obtain ⟨e2, p2⟩ := hP v hv
  unfold F_X10_change_39_3
  rw [m4, if_pos (am_ix_nI (by omega) (by decide)), if_pos (am_ix_nI (by omega) (by decide)), nI_clamp (show u < 2 ^ 31 by omega), e1, m4 u (P u), if_pos (am_ix_nI (by omega) (by decide)), am_let_s, m4 v b, if_pos (am_ix_nI (by omega) (by decide)), if_pos (am_ix_nI (by omega) (by decide)), nI_clamp (show v < 2 ^ 31 by omega), e2, m4 v (P v), if_pos (am_ix_nI (by omega) (by decide)), am_let_s, nI_clamp (show 4 * u + a < 2 ^ 31 by omega), nI_clamp (show 4 * u + P u < 2 ^ 31 by omega), nI_clamp (show 4 * v + b < 2 ^ 31 by omega), nI_clamp (show 4 * v + P v < 2 ^ 31 by omega), hW u a hu ha, hW u _ hu p1, hW v b hv hb, hW v _ hv p2]
def pt3 (K : am_IT) (r : Nat × Nat × Nat × Nat) : am_IT := up2 (up2 K 3 r.1 (nI r.2.2.1)) 3 r.2.1 (nI r.2.2.2)
theorem e_hr_3 {I K : am_IT} {c w p t y d ln q r u v : Nat} {P : Nat → Nat} (X : cx I c w p t y d ln) (S : sq I K) (hy : ∀ h u, h < 8 → u < 7 → K 24 (7 * h + u) = cl0 (tS I h u t)) (hP : ∀ u, u < w → K 3 u = nI (P u) ∧ P u < c) (h38 : ∀ u k, u < w → k < c → K 38 (4 * u + k) = PZ I t q P u k w) (h39 : ∀ u k, u < w → k < c → K 39 (4 * u + k) = PZ I t r P u k w) (hq : q < p) (hr : r < p) (huv : u < v) (hv : v < w) :
    F_X10_hasRepainted_36_3 K (nI q) (nI r) (nI u) (nI v) = fe (trW I t w c q r P u v) (fun z => ((1 : Int32), pt3 K z)) (some (0, K)) := by
  have b2 : c ≤ 4 := X.1.2.1
  have b3 : w ≤ 7 := X.1.2.2.1
  have b4 : p ≤ 7 := X.1.2.2.2.1
  obtain ⟨h1, h2, -⟩ := hN_ok X hq
  obtain ⟨g1, g2, -⟩ := hN_ok X hr
  have hc1 : K 1 0 = nI c := by rw [sq_c S (k := 1) rfl]; exact X.2.1.1.1
  have tq : F_X8_worthOfTwo_23 K (nI q) (nI (hN I q)) (nI u) (nI v) = some (TW I t q u v) := by
    rw [e_w2 (by omega) h1 (by omega) (by omega), hy _ u h1 (by omega), hy _ v h1 (by omega), sq_c S (k := 10) rfl, sq_c S (k := 9) rfl]; rfl
  have tr : F_X8_worthOfTwo_23 K (nI r) (nI (hN I r)) (nI u) (nI v) = some (TW I t r u v) := by
    rw [e_w2 (by omega) g1 (by omega) (by omega), hy _ u g1 (by omega), hy _ v g1 (by omega), sq_c S (k := 10) rfl, sq_c S (k := 9) rfl]; rfl
  unfold F_X10_hasRepainted_36_3
  rw [if_pos (am_ix_nI (by omega) (by decide)), nI_clamp (show q < 2 ^ 31 by omega), sq_c S (k := 4) rfl, h2, tq, am_b1_s, if_pos (am_ix_nI (by omega) (by decide)), nI_clamp (show r < 2 ^ 31 by omega), g2, tr, am_b1_s]
  refine it_fs2 (n := c) (e0 := K) nI_0.symm (fun a => fs (fun b => cnd I t w q r P u v a b) 0 c) (fun z => ((1 : Int32), pt3 K z)) (Nat.zero_le _) (by omega) (fun a _ ha => ?_) ?_ ?_
  · rw [hc1, if_neg (nI_ge ha (by omega))]
    refine it_fs2 (n := c) (e0 := K) nI_0.symm (fun b => cnd I t w q r P u v a b) (fun z => .inr (.inr ((1 : Int32), pt3 K z))) (Nat.zero_le _) (by omega) (fun b _ hb => ?_) ?_ ?_
    · have pu1 := hP u (by omega)
      have pv1 := hP v hv
      rw [hc1, if_neg (nI_ge hb (by omega)), if_pos (am_ix_nI (by omega) (by decide)), if_pos (am_ix_nI (by omega) (by decide)), nI_clamp (show u < 2 ^ 31 by omega), nI_clamp (show v < 2 ^ 31 by omega), pu1.1, pv1.1, e_prs K (by omega) (by omega) (by omega) (by omega), am_b1_s, e_cg_38_3 b2 b3 hP h38 (by omega) hv ha hb, am_b1_s, e_cg_39_3 b2 b3 hP h39 (by omega) hv ha hb, am_b1_s]
      unfold cnd
      by_cases z1 : VV I t w q (pu (pu P u a) v b) ≤ VV I t w q P
      · rw [if_pos z1, if_pos ((VV_ch X hq (fun x hx => (hP x hx).2) huv hv ha hb).mpr z1), am_let_s, nI_1] <;> rfl
      · rw [if_neg z1, if_neg (fun e => z1 ((VV_ch X hq (fun x hx => (hP x hx).2) huv hv ha hb).mp e))]
        by_cases z2 : VV I t w r (pu (pu P u a) v b) ≤ VV I t w r P
        · rw [if_pos z2, if_pos ((VV_ch X hr (fun x hx => (hP x hx).2) huv hv ha hb).mpr z2), am_let_s, nI_1] <;> rfl
        · rw [if_neg z2, if_neg (fun e => z2 ((VV_ch X hr (fun x hx => (hP x hx).2) huv hv ha hb).mp e)), if_pos (am_ix_nI (by omega) (by decide)), am_let_s, if_pos (am_ix_nI (by omega) (by decide)), am_let_s] <;> rfl
    · rw [hc1, if_pos (nI_le (Nat.le_refl c) (by omega))]
    · rw [Nat.sub_zero]
      cases fs (fun b => cnd I t w q r P u v a b) 0 c with
      | none => rw [fe_n, am_let_s, nI_1, fx_n]
      | some z => rfl
  · rw [hc1, if_pos (nI_le (Nat.le_refl c) (by omega))]
  · rw [Nat.sub_zero]; rfl
theorem e_ht_3 {I J : am_IT} {c w p t y d ln q r : Nat} {P : Nat → Nat} (X : cx I c w p t y d ln) (S : sq I J) (hy : ∀ h u, h < 8 → u < 7 → J 24 (7 * h + u) = cl0 (tS I h u t)) (hP : ∀ u, u < w → J 3 u = nI (P u) ∧ P u < c) (hq : q < p) (hr : r < p) :
    ∃ K, F_X10_hasTraded_36_3 J (nI q) (nI r) = fe (trS I t w c q r P) (fun z => ((1 : Int32), pt3 K z)) (some (0, K)) ∧ ∀ k, k ≠ 38 → k ≠ 39 → K k = J k := by
  have b3 : w ≤ 7 := X.1.2.2.1
  obtain ⟨L, eL, l38, lk⟩ := e_wp_3_38 X S hy hP hq
  have SL : sq I L := sq_x S (fun _ => rfl) lk
  obtain ⟨K, eK, k39, kk⟩ := e_wp_3_39 X SL (fun h u hh hu => by rw [lk 24 (by decide)]; exact hy h u hh hu) (fun u hu => by rw [lk 3 (by decide)]; exact hP u hu) hr
  have SK : sq I K := sq_x SL (fun _ => rfl) kk
  have hw1 : K 1 3 = nI w := by rw [sq_c SK (k := 1) rfl]; exact X.2.1.2.2.2.1.1
  refine ⟨K, ?_, fun k h1 h2 => by rw [kk k h2, lk k h1]⟩
  unfold F_X10_hasTraded_36_3
  rw [eL, am_b1_s, eK, am_b1_s]
  refine it_fs2 (n := w) (e0 := K) nI_0.symm (fun u => fs (fun v => trW I t w c q r P u v) (u + 1) (w - (u + 1))) (fun z => ((1 : Int32), pt3 K z)) (Nat.zero_le _) (by omega) (fun u _ hu => ?_) ?_ ?_
  · rw [hw1, if_neg (nI_ge hu (by omega)), am_let_s]
    refine it_fs2 (a := u + 1) (n := w) (e0 := K) (nI_1 u) (fun v => trW I t w c q r P u v) (fun z => .inr (.inr ((1 : Int32), pt3 K z))) (by omega) (by omega) (fun v hv hvw => ?_) ?_ ?_
    · rw [hw1, if_neg (nI_ge hvw (by omega)), e_hr_3 X SK (fun h u hh hu => by rw [kk 24 (by decide), lk 24 (by decide)]; exact hy h u hh hu) (fun u hu => by rw [kk 3 (by decide), lk 3 (by decide)]; exact hP u hu) (fun u k hu hk => by rw [kk 38 (by decide)]; exact l38 u k hu hk) k39 hq hr (by omega) hvw]
      cases trW I t w c q r P u v with
      | none => rw [fe_n, am_b2_s, if_pos rfl, am_let_s, nI_1, fx_n]
      | some z => rw [fe_s, am_b2_s, if_neg (by decide)] <;> rfl
    · rw [hw1, if_pos (nI_le (Nat.le_refl w) (by omega))]
    · cases fs (fun v => trW I t w c q r P u v) (u + 1) (w - (u + 1)) with
      | none => rw [fe_n, am_let_s, nI_1, fx_n]
      | some z => rfl
  · rw [hw1, if_pos (nI_le (Nat.le_refl w) (by omega))]
  · rw [Nat.sub_zero]; rfl
