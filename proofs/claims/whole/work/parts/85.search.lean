/-! the search itself -/
theorem e_won {L : am_IT} {A G : Nat → Nat → Int32} {P : Nat → Nat} {i k : Nat} (hi : i < 7) (hk : k < 4) (hA : L 32 (4 * i + k) = A i k) (hG : ∀ v, v < i → L 33 (7 * i + v) = G i v) (hP : ∀ v, v < i → L 34 v = nI (P v) ∧ P v < 4) : F_X0_worthOfNext_30 L (nI i) (nI k) = some (wn A G P i k i) := by
  unfold F_X0_worthOfNext_30
  rw [m4, if_pos (am_ix_nI (by omega) (by decide)), am_let_s, nI_clamp (by omega), hA]
  refine it_u2 (fun v => wn A G P i k v) (fun v => nI v) (n := i) (e := wn A G P i k i) rfl (by omega) (fun v hv => ?_) ?_ rfl
  · obtain ⟨h1, h2⟩ := hP v hv
    have e : wn A G P i k (v + 1) = if P v = k then wn A G P i k v + G i v else wn A G P i k v := rfl
    rw [if_neg (nI_ge hv (by omega)), if_pos (am_ix_nI (by omega) (by decide)), nI_clamp (show v < 2 ^ 31 by omega), h1, m7, if_pos (am_ix_nI (by omega) (by decide)), nI_clamp (show 7 * i + v < 2 ^ 31 by omega), hG v hv, nI_1, e]
    by_cases z : P v = k
    · rw [if_pos (congrArg nI z), if_pos z] <;> rfl
    · rw [if_neg (fun q => z ((nI_eq (by omega) (by omega)).mp q)), if_neg z] <;> rfl
  · rw [if_pos (nI_le (Nat.le_refl i) (by omega))]
/-- a leaf's value by the cells -/
def fL (A G : Nat → Nat → Int32) (pot : Nat → Int32) (c w n : Nat) : Int32 := w2s A G (dg c w n) w - ps pot (dg c w n) w
theorem e_tf {B : am_IT} {A G : Nat → Nat → Int32} {c w : Nat} (hc0 : 0 < c) (hc : c ≤ 4) (hw : w ≤ 7) (b1 : B 1 3 = nI w) (b2 : B 1 0 = nI c) (hA : ∀ u k, u < w → k < c → B 32 (4 * u + k) = A u k) (hG : ∀ u v, u < w → v < u → B 33 (7 * u + v) = G u v) (hf : ∀ n, ¬ fL A G (B 2) c w n ≤ -2147483648) :
    ∀ (k i fu m : Nat) (J : am_IT), i + k = w → k < fu → (∀ a, a ≠ 30 → a ≠ 34 → a ≠ 35 → J a = B a) → (∀ u, u < i → J 34 u = nI (dg c i m u)) → J 30 7 = mxv (fL A G (B 2) c w) (m * c ^ k) → (∀ u, u < w → 0 < m * c ^ k → J 35 u = nI (dg c w (mxi (fL A G (B 2) c w) (m * c ^ k)) u)) →
      ∃ K, G_X0_tryFrom_30 fu J (nI i) (w2s A G (dg c i m) i - ps (B 2) (dg c i m) i) (nI (um (dg c i m) i)) = some K ∧ (∀ a, a ≠ 30 → a ≠ 34 → a ≠ 35 → K a = B a) ∧ (∀ u, u < i → K 34 u = J 34 u) ∧ K 30 7 = mxv (fL A G (B 2) c w) ((m + 1) * c ^ k) ∧ ∀ u, u < w → K 35 u = nI (dg c w (mxi (fL A G (B 2) c w) ((m + 1) * c ^ k)) u) := by
  intro k
  induction k with
  | zero =>
    intro i fu m J hik hfu hJ h34 h30 h35
    have hiw : i = w := by omega
    subst hiw
    cases fu with
    | zero => omega
    | succ fu =>
      rw [Nat.pow_zero, Nat.mul_one] at h30 h35
      rw [Nat.pow_zero, Nat.mul_one]
      show ∃ K, B_X0_tryFrom_30 (G_X0_tryFrom_30 fu) J (nI i) _ _ = some K ∧ _
      unfold B_X0_tryFrom_30
      rw [hJ 1 (by decide) (by decide) (by decide), b1, if_pos (nI_le (Nat.le_refl i) (by omega)), h30]
      have e1 : mxv (fL A G (B 2) c i) (m + 1) = if fL A G (B 2) c i m ≤ mxv (fL A G (B 2) c i) m then mxv (fL A G (B 2) c i) m else fL A G (B 2) c i m := rfl
      have e2 : mxi (fL A G (B 2) c i) (m + 1) = if fL A G (B 2) c i m ≤ mxv (fL A G (B 2) c i) m then mxi (fL A G (B 2) c i) m else m := rfl
      by_cases z : fL A G (B 2) c i m ≤ mxv (fL A G (B 2) c i) m
      · rw [if_pos z] at e1 e2
        refine ⟨J, if_pos z, hJ, fun _ _ => rfl, h30.trans e1.symm, fun u hu => ?_⟩
        have hm : 0 < m := by
          rcases Nat.eq_zero_or_pos m with h | h
          · subst h; exact absurd z (hf 0)
          · exact h
        rw [h35 u hu hm, e2]
      · rw [if_neg z] at e1 e2
        refine ⟨cpy2 (up2 J 30 7 (fL A G (B 2) c i m)) 34 35 0 0 7, ?_, ?_, ?_, ?_, ?_⟩
        · rw [if_neg (show ¬ w2s A G (dg c i m) i - ps (B 2) (dg c i m) i ≤ mxv (fL A G (B 2) c i) m from z), am_let_s, if_pos (by decide), am_let_s]
          rfl
        · intro a h1 h2 h3
          rw [← hJ a h1 h2 h3]
          funext j
          unfold cpy2
          rw [if_neg (fun e => h3 e.1), up2_k _ _ h1]
        · intro u hu
          unfold cpy2
          rw [if_neg (fun e => absurd e.1 (by decide)), up2_k _ _ (by decide)]
        · rw [e1]
          unfold cpy2
          rw [if_neg (fun e => absurd e.1 (by decide)), up2_s]
        · intro u hu
          rw [e2, ← h34 u hu]
          unfold cpy2
          rw [if_pos ⟨rfl, Nat.zero_le _, by omega⟩, up2_k _ _ (by decide)]
          exact congrArg (J 34) (by omega)
  | succ k ih =>
    intro i fu m J hik hfu hJ h34 h30 h35
    cases fu with
    | zero => omega
    | succ fu =>
      have hiw : i < w := by omega
      have hp4 : ∀ u, dg c i m u < 4 := fun u => Nat.lt_of_lt_of_le (dg_lt hc0) hc
      show ∃ K, B_X0_tryFrom_30 (G_X0_tryFrom_30 fu) J (nI i) _ _ = some K ∧ _
      unfold B_X0_tryFrom_30
      rw [hJ 1 (by decide) (by decide) (by decide), b1, if_neg (nI_ge hiw (by omega)), if_pos (show nI i < 7 from nI_lt (a := i) (b := 7) (by omega) (by decide))]
      have eC : m * c ^ (k + 1) = (c * m + 0) * c ^ k := by rw [Nat.pow_succ, Nat.add_zero, Nat.mul_comm (c ^ k) c, ← Nat.mul_assoc, Nat.mul_comm m c]
      have eE : (m + 1) * c ^ (k + 1) = (c * m + c) * c ^ k := by rw [Nat.pow_succ, Nat.mul_comm (c ^ k) c, ← Nat.mul_assoc, Nat.mul_comm (m + 1) c, Nat.mul_add, Nat.mul_one]
      rw [eC] at h30 h35
      rw [eE]
      refine it_b1_inv (R := fun z => ∃ K : am_IT, z = some K ∧ (∀ a, a ≠ 30 → a ≠ 34 → a ≠ 35 → K a = B a) ∧ (∀ u, u < i → K 34 u = J 34 u) ∧ K 30 7 = mxv (fL A G (B 2) c w) ((c * m + c) * c ^ k) ∧ ∀ u, u < w → K 35 u = nI (dg c w (mxi (fL A G (B 2) c w) ((c * m + c) * c ^ k)) u))
        (fun q x => ∃ L : am_IT, x = (nI q, L) ∧ (∀ a, a ≠ 30 → a ≠ 34 → a ≠ 35 → L a = B a) ∧ (∀ u, u < i → L 34 u = J 34 u) ∧ L 30 7 = mxv (fL A G (B 2) c w) ((c * m + q) * c ^ k) ∧ ∀ u, u < w → 0 < (c * m + q) * c ^ k → L 35 u = nI (dg c w (mxi (fL A G (B 2) c w) ((c * m + q) * c ^ k)) u))
        (fun (K : am_IT) => (∀ a, a ≠ 30 → a ≠ 34 → a ≠ 35 → K a = B a) ∧ (∀ u, u < i → K 34 u = J 34 u) ∧ K 30 7 = mxv (fL A G (B 2) c w) ((c * m + c) * c ^ k) ∧ ∀ u, u < w → K 35 u = nI (dg c w (mxi (fL A G (B 2) c w) ((c * m + c) * c ^ k)) u)) (n := c) (by omega) ?_ ?_ ⟨J, by rw [nI_0], hJ, fun _ _ => rfl, h30, h35⟩ (fun K h => ⟨K, rfl, h⟩)
      · rintro q x hq ⟨L, rfl, l1, l2, l3, l4⟩
        have hu16 : um (dg c i m) i < 16 := um_16 i (fun u _ => hp4 u)
        have hpre : ∀ u, u < i → dg c i m u = dg c (i + 1) (c * m + q) u := fun u hu => (dg_pre hc0 hq hu).symm
        have hlast : dg c (i + 1) (c * m + q) i = q := dg_last hq
        obtain ⟨K, eK, k1, k2, k3, k4⟩ := ih (i + 1) fu (c * m + q) (up2 L 34 i (nI q)) (by omega) (by omega) (fun a h1 h2 h3 => by rw [up2_k _ _ h2]; exact l1 a h1 h2 h3) (fun u hu => by
          rw [up2_r]
          by_cases z : u = i
          · rw [if_pos z, z, hlast]
          · rw [if_neg z, l2 u (by omega), h34 u (by omega), hpre u (by omega)]) (by rw [up2_k _ _ (by decide)]; exact l3) (fun u hu h0 => by rw [up2_k _ _ (by decide)]; exact l4 u hu h0)
        have ew : w2s A G (dg c (i + 1) (c * m + q)) (i + 1) - ps (B 2) (dg c (i + 1) (c * m + q)) (i + 1) = ((w2s A G (dg c i m) i - ps (B 2) (dg c i m) i) + wn A G (dg c i m) i q i) - (if (um (dg c i m) i).testBit q = true then 0 else B 2 q) := by
          have a1 : w2s A G (dg c (i + 1) (c * m + q)) (i + 1) = w2s A G (dg c (i + 1) (c * m + q)) i + wn A G (dg c (i + 1) (c * m + q)) i (dg c (i + 1) (c * m + q) i) i := rfl
          have a2 : ps (B 2) (dg c (i + 1) (c * m + q)) (i + 1) = ps (B 2) (dg c (i + 1) (c * m + q)) i + (if (um (dg c (i + 1) (c * m + q)) i).testBit (dg c (i + 1) (c * m + q) i) = true then 0 else B 2 (dg c (i + 1) (c * m + q) i)) := rfl
          rw [a1, a2, hlast, ← w2s_c (A := A) (G := G) (P := dg c i m) i (fun u hu => ⟨hpre u hu, rfl, fun _ _ => rfl⟩), ← wn_c (A := A) (G := G) (P := dg c i m) (u := i) (k := q) rfl i (fun x hx => ⟨rfl, hpre x hx⟩), ← ps_c (P := dg c i m) i hpre, ← um_c (P := dg c i m) i hpre]
          grind
        have eu : um (dg c (i + 1) (c * m + q)) (i + 1) = um (dg c i m) i ||| 2 ^ q := by
          show um (dg c (i + 1) (c * m + q)) i ||| 2 ^ (dg c (i + 1) (c * m + q) i) = _
          rw [hlast, ← um_c (P := dg c i m) i hpre]
        rw [ew, eu] at eK
        have eW : F_X0_worthOfNext_30 (up2 L 34 i (nI q)) (nI i) (nI q) = some (wn A G (dg c i m) i q i) := e_won (by omega) (by omega) (by rw [up2_k _ _ (by decide), l1 32 (by decide) (by decide) (by decide)]; exact hA i q hiw hq) (fun v hv => by rw [up2_k _ _ (by decide), l1 33 (by decide) (by decide) (by decide)]; exact hG i v hiw hv) (fun v hv => by
          rw [up2_j _ _ (by omega), l2 v hv, h34 v hv]
          exact ⟨rfl, hp4 v⟩)
        have e3 : (c * m + (q + 1)) * c ^ k = (c * m + q + 1) * c ^ k := rfl
        refine ⟨(nI (q + 1), K), ?_, K, rfl, k1, fun u hu => ?_, k3, fun u hu _ => k4 u hu⟩
        · rw [am_u2_s, show L 1 0 = nI c by rw [l1 1 (by decide) (by decide) (by decide)]; exact b2, if_neg (nI_ge hq (by omega)), bt_m q (by omega) _ hu16, if_pos (am_ix_nI (show q < 4 by omega) (by decide)), nI_clamp (show q < 2 ^ 31 by omega), l1 2 (by decide) (by decide) (by decide)]
          have eP : (if (if (um (dg c i m) i).testBit q = true then (1 : Int32) else 0) = 0 then some (B 2 q) else some 0) = some (if (um (dg c i m) i).testBit q = true then 0 else B 2 q) := by
            by_cases z : (um (dg c i m) i).testBit q = true
            · rw [if_pos z, if_pos z, if_neg (by decide)]
            · rw [if_neg z, if_neg z, if_pos rfl]
          rw [eP, am_b1_s, if_pos (am_ix_nI (by omega) (by decide)), am_let_s, nI_clamp (show i < 2 ^ 31 by omega), eW, am_b1_s, nI_1, bt_o q (by omega) _ hu16, eK, am_b1_s, am_let_s, nI_1]
        · rw [k2 u (by omega), up2_j _ _ (by omega)]; exact l2 u hu
      · rintro x ⟨L, rfl, l1, l2, l3, l4⟩
        refine ⟨L, by rw [am_u2_s, show L 1 0 = nI c by rw [l1 1 (by decide) (by decide) (by decide)]; exact b2, if_pos (nI_le (Nat.le_refl c) (by omega))], l1, l2, l3, fun u hu => l4 u hu ?_⟩
        exact Nat.mul_pos (by omega) (Nat.pow_pos hc0)
theorem c7 {c w : Nat} (h1 : 0 < c) (h : c ≤ 4) (hw : w ≤ 7) : 0 < c ^ w ∧ c ^ w ≤ 16384 := ⟨Nat.pow_pos h1, Nat.le_trans (Nat.pow_le_pow_left h w) (Nat.pow_le_pow_right (by decide) hw)⟩
/-- the best painting -/
def bP (I : am_IT) (t w c p lf : Nat) : Nat → Nat := dg c w (mxi (fB I t w c p lf) (c ^ w))
theorem e_gw {I J : am_IT} {c w p t y d ln lf : Nat} {a1 : Int32} (X : cx I c w p t y d ln) (S : sq I J) (hy : ∀ h u, h < 8 → u < 7 → J 24 (7 * h + u) = cl0 (tS I h u t)) (hl : ∀ q, q < p → (nI q = a1 ↔ q = lf)) :
    ∃ K, F_X0_greatestWithout_30 J a1 = some (mxv (fB I t w c p lf) (c ^ w), K) ∧ (∀ u, u < w → K 35 u = nI (bP I t w c p lf u)) ∧ ∀ a, a ≠ 30 → a ≠ 32 → a ≠ 33 → a ≠ 34 → a ≠ 35 → K a = J a := by
  have c2 : 2 ≤ c := X.1.1
  have c4 : c ≤ 4 := X.1.2.1
  have b3 : w ≤ 7 := X.1.2.2.1
  obtain ⟨A, eA, a32, a33, ak⟩ := e_au X S hy hl
  have ef : ∀ n, fL (AL I t p lf) (TO I t p lf) ((up2 A 30 7 (-2147483648 : Int32)) 2) c w n = fB I t w c p lf n := by
    intro n
    rw [up2_k _ _ (by decide), ak 2 (by decide) (by decide), sq_c S (k := 2) rfl]; rfl
  have efun : fL (AL I t p lf) (TO I t p lf) ((up2 A 30 7 (-2147483648 : Int32)) 2) c w = fB I t w c p lf := funext ef
  obtain ⟨K, eK, k1, k2, k3, k4⟩ := e_tf (B := up2 A 30 7 (-2147483648 : Int32)) (A := AL I t p lf) (G := TO I t p lf) (c := c) (w := w) (by omega) c4 b3 (by rw [up2_k _ _ (by decide), ak 1 (by decide) (by decide), sq_c S (k := 1) rfl]; exact X.2.1.2.2.2.1.1) (by rw [up2_k _ _ (by decide), ak 1 (by decide) (by decide), sq_c S (k := 1) rfl]; exact X.2.1.1.1) (fun u k hu hk => by rw [up2_k _ _ (by decide)]; exact a32 u k hu hk) (fun u v hu hv => by rw [up2_k _ _ (by decide)]; exact a33 u v hu hv) (fun n => by rw [ef n]; exact fB_b X) w 0 64 0 (up2 A 30 7 (-2147483648 : Int32)) (by omega) (by omega) (fun _ _ _ _ => rfl) (fun u hu => absurd hu (Nat.not_lt_zero u)) (by rw [Nat.zero_mul, up2_s]; rfl) (fun u _ h0 => by rw [Nat.zero_mul] at h0; omega)
  rw [efun, Nat.zero_add, Nat.one_mul] at k3 k4
  refine ⟨K, ?_, k4, fun a h30 h32 h33 h34 h35 => by rw [k1 a h30 h34 h35, up2_k _ _ h30]; exact ak a h32 h33⟩
  unfold F_X0_greatestWithout_30 F_X0_tryFrom_30
  rw [eA, am_b1_s, am_let_s]
  have z1 : ∀ (A' G' : Nat → Nat → Int32) (P' : Nat → Nat) (pot' : Nat → Int32), w2s A' G' P' 0 - ps pot' P' 0 = 0 := fun _ _ _ _ => Int32.sub_zero 0
  have z2 : um (dg c 0 0) 0 = 0 := rfl
  rw [z1, z2, nI_0] at eK
  rw [eK, am_b1_s, k3]
theorem e_ch {I J : am_IT} {c w p t y d ln : Nat} (X : cx I c w p t y d ln) (S : sq I J) : ∃ K, F_X0_choose_30 J = some (mxv (fB I t w c p 100) (c ^ w), K) ∧ (∀ u, u < w → K 31 u = nI (bP I t w c p 100 u)) ∧ (∀ h u, h < 8 → u < 7 → K 24 (7 * h + u) = cl0 (tS I h u t)) ∧ ∀ a, a ≠ 24 → a ≠ 30 → a ≠ 31 → a ≠ 32 → a ≠ 33 → a ≠ 34 → a ≠ 35 → K a = J a := by
  have b3 : w ≤ 7 := X.1.2.2.1
  have b4 : p ≤ 7 := X.1.2.2.2.1
  obtain ⟨A, eA, ya, ak⟩ := ms X S
  obtain ⟨K, eK, k35, kk⟩ := e_gw (lf := 100) (a1 := -1) X (sq_x S (fun _ => rfl) ak) ya (fun q hq => ⟨fun e => by
    exfalso
    have := congrArg Int32.toInt e
    rw [nI_toInt (by omega), show (-1 : Int32).toInt = -1 by decide] at this
    omega, fun e => by omega⟩)
  unfold F_X0_choose_30
  rw [eA, am_b1_s, eK, am_b2_s, if_pos (by decide), am_let_s]
  refine ⟨_, rfl, fun u hu => ?_, fun h u hh hu => ?_, fun a h24 h30 h31 h32 h33 h34 h35 => ?_⟩
  · rw [← k35 u hu]
    unfold cpy2
    rw [if_pos ⟨rfl, Nat.zero_le _, by show u < 0 + 7; omega⟩]
    exact congrArg (K 35) (by show 0 + (u - 0) = u; omega)
  · rw [← ya h u hh hu, ← kk 24 (by decide) (by decide) (by decide) (by decide) (by decide)]
    unfold cpy2
    rw [if_neg (fun e => absurd e.1 (by decide))]
  · rw [← ak a h24, ← kk a h30 h32 h33 h34 h35]
    funext j
    unfold cpy2
    rw [if_neg (fun e => h31 e.1)]
