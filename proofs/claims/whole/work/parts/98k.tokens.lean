/-! text: tokens, and how the reference reads them -/
def nv (B : Nat → Int32) (a : Nat) : Nat → Nat
  | 0 => 0
  | m + 1 => 10 * nv B a m + ((B (a + m)).toNatClampNeg - 48)
def rn (B : Nat → Int32) (n : Nat) (c : Int32) (s e : Nat) : Prop := s < e ∧ e ≤ n ∧ (∀ i, s ≤ i → i < e → kd (B i) = c) ∧ (e < n → ¬ kd (B e) = c)
def isT (B : Nat → Int32) (n q s e : Nat) (t : Int32) : Prop := q ≤ s ∧ s ≤ n ∧ (∀ i, q ≤ i → i < s → kd (B i) = 1) ∧
  ((s = n ∧ e = n ∧ t = 300) ∨ (s < n ∧ kd (B s) = 0 ∧ e = s + 1 ∧ t = if isMk (B s) = true then B s else 301) ∨
   (rn B n 2 s e ∧ ((∃ j, j < 17 ∧ eW B s e j ∧ t = nI (256 + j)) ∨ (t = 301 ∧ ∀ j, j < 17 → ¬ eW B s e j))) ∨
   (rn B n 3 s e ∧ t = if e - s ≤ 4 then nI (1000 + nv B s (e - s)) else 301))
/-- the reference's kind and value of a token -/
def KV (t k v : Int32) : Prop := (t = 300 ∧ k = 0) ∨ (t = 301 ∧ k = 1) ∨ (∃ r, r < 17 ∧ t = nI (256 + wp r) ∧ k = 2 ∧ v = nI r) ∨ (∃ x, x < 10000 ∧ t = nI (1000 + x) ∧ k = 3 ∧ v = nI x) ∨ (isMk t = true ∧ k = 4 ∧ v = t)
def sr (I J : am_IT) : Prop := (∀ k, k ≠ 55 → J k = I k) ∧ ∀ j, (j < 27 ∨ 30 < j) → J 55 j = I 55 j
theorem sr_r (I : am_IT) : sr I I := ⟨fun _ _ => rfl, fun _ _ => rfl⟩
theorem sr_t {I J K : am_IT} (h : sr I J) (g : sr J K) : sr I K := ⟨fun k hk => (g.1 k hk).trans (h.1 k hk), fun j hj => (g.2 j hj).trans (h.2 j hj)⟩
theorem sr_u {I J : am_IT} {j : Nat} {v : Int32} (h : sr I J) (h1 : 27 ≤ j) (h2 : j ≤ 30) : sr I (up2 J 55 j v) := ⟨fun k hk => (up2_k _ _ hk).trans (h.1 k hk), fun i hi => (up2_j _ _ (by omega)).trans (h.2 i hi)⟩
def RE (B : Nat → Int32) (n : Nat) (I : am_IT) : Prop := n ≤ 400 ∧ I 55 26 = nI n ∧ (∀ i, i < n → I 73 i = B i) ∧ (∀ i, i < n → vb 256 (B i)) ∧ ∀ j, j < 85 → I 74 j = rWords.getD j 0
theorem RE_s {B : Nat → Int32} {n : Nat} {I J : am_IT} (E : RE B n I) (S : sr I J) : RE B n J := by
  refine ⟨E.1, (S.2 26 (by decide)).trans E.2.1, ?_, E.2.2.2.1, ?_⟩
  · rw [S.1 73 (by decide)]; exact E.2.2.1
  · rw [S.1 74 (by decide)]; exact E.2.2.2.2
theorem e_raw {B : Nat → Int32} {n : Nat} {I : am_IT} (E : RE B n I) {i : Nat} (hi : i ≤ n) : F_X12_raw_55 I (nI i) = some (if i < n then B i else -1) := by
  obtain ⟨h1, h2, h3, h4, h5⟩ := E
  unfold F_X12_raw_55
  rw [h2]
  by_cases h : i < n
  · rw [if_neg (nI_ge h (by omega)), if_pos (am_ix_nI (by omega) (by decide)), nI_clamp (by omega), h3 i h, if_pos h]
  · rw [if_pos (nI_le (by omega) (by omega)), if_neg h]
theorem kd_b (x : Int32) : kd x = 1 ↔ x = 32 ∨ x = 10 := by
  unfold kd
  by_cases h : x = 32 ∨ x = 10
  · rw [if_pos h]; exact ⟨fun _ => h, fun _ => rfl⟩
  · rw [if_neg h]
    refine ⟨fun z => ?_, fun z => absurd z h⟩
    split at z
    · exact absurd z (by decide)
    · split at z <;> exact absurd z (by decide)
theorem kd_d {x : Int32} (h : vb 256 x) (k : kd x = 3) : ∃ d, d < 10 ∧ x = nI (48 + d) := by
  obtain ⟨k', hk, rfl⟩ := h
  have : ∀ k, k < 256 → kd (nI k) = 3 → 48 ≤ k ∧ k < 58 := by decide +kernel
  obtain ⟨h1, h2⟩ := this k' hk k
  exact ⟨k' - 48, by omega, by rw [show 48 + (k' - 48) = k' by omega]⟩
theorem nv_s {B : Nat → Int32} {a m d : Nat} (h : B (a + m) = nI (48 + d)) (hd : d < 10) : nv B a (m + 1) = 10 * nv B a m + d := by
  show 10 * nv B a m + ((B (a + m)).toNatClampNeg - 48) = _
  rw [h, nI_clamp (by omega)]; omega
theorem nv_b {B : Nat → Int32} {a : Nat} : ∀ {m : Nat}, (∀ i, i < m → vb 256 (B (a + i)) ∧ kd (B (a + i)) = 3) → nv B a m < 10 ^ m
  | 0, _ => by show 0 < 1; decide
  | m + 1, h => by
    have ih := nv_b (m := m) (fun i hi => h i (by omega))
    obtain ⟨d, hd, e⟩ := kd_d (h m (by omega)).1 (h m (by omega)).2
    rw [nv_s e hd, Nat.pow_succ]; omega
theorem nI_dg (a d : Nat) : nI a + nI (48 + d) - 48 = nI (a + d) := by
  rw [nI_add, show (48 : Int32) = nI 48 from rfl, pk_sub (by omega)]; congr 1; omega
theorem nI_mul (a b : Nat) : nI a * nI b = nI (a * b) := (Int32.ofNat_mul a b).symm
theorem kd_3 (x : Int32) : kd x = 0 ∨ kd x = 1 ∨ kd x = 2 ∨ kd x = 3 := by
  unfold kd
  split
  · exact Or.inr (Or.inl rfl)
  · split
    · exact Or.inr (Or.inr (Or.inl rfl))
    · split
      · exact Or.inr (Or.inr (Or.inr rfl))
      · exact Or.inl rfl
theorem e_reads {B : Nat → Int32} {n q s e : Nat} {t : Int32} {I : am_IT} (E : RE B n I) (h27 : I 55 27 = nI q) (T : isT B n q s e t) : ∃ J, F_X12_reads_55 I = some J ∧ sr I J ∧ J 55 27 = nI e ∧ J 55 28 = nI s ∧ KV t (J 55 29) (J 55 30) := by
  obtain ⟨T1, T2, T3, T4⟩ := T
  have hn : n ≤ 400 := E.1
  have hv : ∀ i, i < n → vb 256 (B i) := E.2.2.2.1
  unfold F_X12_reads_55
  refine it_b1_inv (R := fun z => ∃ J, z = some J ∧ sr I J ∧ J 55 27 = nI e ∧ J 55 28 = nI s ∧ KV t (J 55 29) (J 55 30)) (fun i x => sr I x ∧ x 55 27 = nI (q + i)) (fun x => sr I x ∧ x 55 27 = nI s) (n := s - q) (by omega) ?_ ?_ ⟨sr_r I, h27⟩ ?_
  · rintro i x hi ⟨S, h⟩
    have k1 := (kd_b _).mp (T3 (q + i) (by omega) (by omega))
    have ex := e_raw (RE_s E S) (i := q + i) (by omega)
    rw [if_pos (show q + i < n by omega)] at ex
    rw [h, ex, am_b1_s]
    rcases k1 with k1 | k1
    · rw [if_pos k1, am_let_s]
      exact ⟨_, rfl, sr_u S (by decide) (by decide), by rw [up2_s, nI_1]; rfl⟩
    · rw [if_neg (show ¬ B (q + i) = 32 by rw [k1]; decide), am_b1_s, if_pos k1, am_let_s]
      exact ⟨_, rfl, sr_u S (by decide) (by decide), by rw [up2_s, nI_1]; rfl⟩
  · rintro x ⟨S, h⟩
    rw [show q + (s - q) = s by omega] at h
    have ex := e_raw (RE_s E S) (i := s) T2
    have k1 : ¬ (if s < n then B s else -1) = 32 ∧ ¬ (if s < n then B s else -1) = 10 := by
      by_cases hs : s < n
      · rw [if_pos hs]
        have k : ¬ kd (B s) = 1 := by
          rcases T4 with ⟨z, _⟩ | ⟨_, z, _⟩ | ⟨z, _⟩ | ⟨z, _⟩
          · omega
          · rw [z]; decide
          · rw [z.2.2.1 s (Nat.le_refl _) z.1]; decide
          · rw [z.2.2.1 s (Nat.le_refl _) z.1]; decide
        exact ⟨fun z => k ((kd_b _).mpr (Or.inl z)), fun z => k ((kd_b _).mpr (Or.inr z))⟩
      · rw [if_neg hs]; exact ⟨by decide, by decide⟩
    rw [h, ex, am_b1_s, if_neg k1.1, am_b1_s, if_neg k1.2]
    exact ⟨_, rfl, S, h⟩
  · rintro J ⟨S, h⟩
    have S2 : sr I (up2 (up2 J 55 28 (nI s)) 55 29 1) := sr_u (sr_u S (by decide) (by decide)) (by decide) (by decide)
    have h27' : (up2 (up2 J 55 28 (nI s)) 55 29 1) 55 27 = nI s := h
    rw [h, am_let_s, am_let_s, h27', e_raw (RE_s E S2) T2, am_b1_s]
    have nm : ∀ i, i < n → ¬ B i = -1 := fun i hi => by
      obtain ⟨k, hk, e⟩ := hv i hi
      rw [e]
      have : ∀ k, k < 256 → ¬ nI k = -1 := by decide +kernel
      exact this k hk
    rcases T4 with ⟨z1, z2, z3⟩ | ⟨z1, z2, z3, z4⟩ | ⟨⟨z1, z2, z3, z4⟩, z5⟩ | ⟨⟨z1, z2, z3, z4⟩, z5⟩
    · subst z1
      rw [if_neg (Nat.lt_irrefl _), if_pos rfl, am_let_s]
      exact ⟨_, rfl, sr_u S2 (by decide) (by decide), by rw [z2]; exact h, rfl, Or.inl ⟨z3, rfl⟩⟩
    · have l1 : ∀ K, F_X12_isLetter_55 K (B s) = some 0 := fun K => by rw [e_let K (hv s z1), z2]; rfl
      have l2 : ∀ K, F_X12_isDigit_55 K (B s) = some 0 := fun K => by rw [e_dig K (hv s z1), z2]; rfl
      rw [if_pos z1, if_neg (nm s z1), am_let_s, nI_1, am_let_s, l1, am_b1_s, if_pos rfl, l2, am_b1_s, if_pos rfl, e_mk _ (hv s z1), am_b1_s]
      have S3 : sr I (up2 (up2 (up2 (up2 J 55 28 (nI s)) 55 29 1) 55 27 (nI (s + 1))) 55 30 (B s)) := sr_u (sr_u S2 (by decide) (by decide)) (by decide) (by decide)
      by_cases m : isMk (B s) = true
      · rw [if_pos m, if_neg (by decide), am_let_s]
        rw [if_pos m] at z4
        exact ⟨_, rfl, sr_u S3 (by decide) (by decide), by rw [z3]; rfl, rfl, Or.inr (Or.inr (Or.inr (Or.inr ⟨by rw [z4]; exact m, rfl, z4.symm⟩)))⟩
      · rw [if_neg m, if_pos rfl]
        rw [if_neg m] at z4
        exact ⟨_, rfl, S3, by rw [z3]; rfl, rfl, Or.inr (Or.inl ⟨z4, rfl⟩)⟩
    · have l1 : ∀ K, F_X12_isLetter_55 K (B s) = some 1 := fun K => by rw [e_let K (hv s (by omega)), z3 s (Nat.le_refl _) z1]; rfl
      have S3 : sr I (up2 (up2 (up2 (up2 J 55 28 (nI s)) 55 29 1) 55 27 (nI (s + 1))) 55 30 (B s)) := sr_u (sr_u S2 (by decide) (by decide)) (by decide) (by decide)
      rw [if_pos (show s < n by omega), if_neg (nm s (by omega)), am_let_s, nI_1, am_let_s, l1, am_b1_s, if_neg (by decide)]
      refine it_b1_inv (R := fun z => ∃ J, z = some J ∧ sr I J ∧ J 55 27 = nI e ∧ J 55 28 = nI s ∧ KV t (J 55 29) (J 55 30)) (fun i x => sr I x ∧ x 55 27 = nI (s + 1 + i) ∧ x 55 28 = nI s ∧ x 55 29 = 1) (fun x => sr I x ∧ x 55 27 = nI e ∧ x 55 28 = nI s ∧ x 55 29 = 1) (n := e - s - 1) (by omega) ?_ ?_ ⟨S3, rfl, rfl, rfl⟩ ?_
      · rintro i x hi ⟨S4, a1, a2, a3⟩
        rw [a1, e_raw (RE_s E S4) (by omega), am_b1_s, if_pos (show s + 1 + i < n by omega), e_let _ (hv _ (by omega)), z3 (s + 1 + i) (by omega) (by omega), am_b1_s, if_pos rfl, if_neg (by decide), am_let_s]
        exact ⟨_, rfl, sr_u S4 (by decide) (by decide), by rw [up2_s, nI_1]; rfl, a2, a3⟩
      · rintro x ⟨S4, a1, a2, a3⟩
        rw [show s + 1 + (e - s - 1) = e by omega] at a1
        rw [a1, e_raw (RE_s E S4) z2, am_b1_s]
        by_cases hen : e < n
        · rw [if_pos hen, e_let _ (hv _ hen), if_neg (z4 hen), am_b1_s, if_pos rfl]
          exact ⟨_, rfl, S4, a1, a2, a3⟩
        · rw [if_neg hen, e_let1, am_b1_s, if_pos rfl]
          exact ⟨_, rfl, S4, a1, a2, a3⟩
      · rintro x ⟨S4, a1, a2, a3⟩
        have E4 := RE_s E S4
        obtain ⟨v, hv1, hv2⟩ := e_wa (I := x) (B := B) (a := s) (e := e) E4.2.2.2.2 (fun i hi => E4.2.2.1 i (by omega)) (by omega) (by omega) (fun i h1 h2 h3 => by
          have := z3 i h1 h2
          rw [h3] at this
          exact absurd this (by decide))
        rw [a1, a2, hv1, am_b1_s, am_let_s, up2_s]
        rcases hv2 with ⟨r, hr, he, rfl⟩ | ⟨rfl, hno⟩
        · rw [if_neg (show ¬ nI r = -1 by
            have : ∀ k, k < 17 → ¬ nI k = -1 := by decide +kernel
            exact this r hr), am_let_s]
          have ht : t = nI (256 + wp r) := by
            rcases z5 with ⟨j, hj, hw, ht⟩ | ⟨_, hw⟩
            · rw [ht, eW_1 hj (wq_tab r hr).1 hw he]
            · exact absurd he (hw _ (wq_tab r hr).1)
          exact ⟨_, rfl, sr_u (sr_u S4 (by decide) (by decide)) (by decide) (by decide), a1, a2, Or.inr (Or.inr (Or.inl ⟨r, hr, ht, rfl, rfl⟩))⟩
        · rw [if_pos rfl]
          have ht : t = 301 := by
            rcases z5 with ⟨j, hj, hw, ht⟩ | ⟨ht, _⟩
            · obtain ⟨r, hr, rfl⟩ := wp_on j hj
              exact absurd hw (hno r hr)
            · exact ht
          exact ⟨_, rfl, sr_u S4 (by decide) (by decide), a1, a2, Or.inr (Or.inl ⟨ht, a3⟩)⟩
    · have ks := z3 s (Nat.le_refl _) z1
      have l1 : ∀ K, F_X12_isLetter_55 K (B s) = some 0 := fun K => by rw [e_let K (hv s (by omega)), ks]; rfl
      have l2 : ∀ K, F_X12_isDigit_55 K (B s) = some 1 := fun K => by rw [e_dig K (hv s (by omega)), ks]; rfl
      have dg : ∀ i, s + i < e → ∃ d, d < 10 ∧ B (s + i) = nI (48 + d) := fun i hi => kd_d (hv _ (by omega)) (z3 _ (by omega) hi)
      rw [if_pos (show s < n by omega), if_neg (nm s (by omega)), am_let_s, nI_1, am_let_s, l1, am_b1_s, if_pos rfl, l2, am_b1_s, if_neg (by decide), am_let_s]
      refine it_b1_inv (R := fun z => ∃ J, z = some J ∧ sr I J ∧ J 55 27 = nI e ∧ J 55 28 = nI s ∧ KV t (J 55 29) (J 55 30)) (fun i x => sr I x ∧ x 55 27 = nI (s + 1 + i) ∧ x 55 28 = nI s ∧ x 55 29 = 1 ∧ (i + 1 ≤ 4 → x 55 30 = nI (nv B s (i + 1)))) (fun x => sr I x ∧ x 55 27 = nI e ∧ x 55 28 = nI s ∧ x 55 29 = 1 ∧ (e - s ≤ 4 → x 55 30 = nI (nv B s (e - s)))) (n := e - s - 1) (by omega) ?_ ?_ ⟨sr_u (sr_u (sr_u S2 (by decide) (by decide)) (by decide) (by decide)) (by decide) (by decide), rfl, rfl, rfl, fun _ => ?_⟩ ?_
      · rintro i x hi ⟨S4, a1, a2, a3, a4⟩
        have R4 := e_raw (RE_s E S4) (i := s + 1 + i) (by omega)
        rw [if_pos (show s + 1 + i < n by omega)] at R4
        rw [a1, R4, am_b1_s, e_dig _ (hv _ (by omega)), z3 (s + 1 + i) (by omega) (by omega), am_b1_s, if_pos rfl, if_neg (by decide)]
        by_cases g : (10000 : Int32) ≤ x 55 30
        · rw [if_pos g, am_b1_s, am_let_s, am_let_s]
          refine ⟨_, rfl, sr_u (sr_u S4 (by decide) (by decide)) (by decide) (by decide), ?_, a2, a3, fun h4 => ?_⟩
          · rw [up2_s, show (up2 x 55 30 (x 55 30)) 55 27 = x 55 27 from rfl, a1, nI_1]; rfl
          · exfalso
            have hb := nv_b (B := B) (a := s) (m := i + 1) (fun k hk => ⟨hv _ (by omega), z3 _ (by omega) (by omega)⟩)
            have : 10 ^ (i + 1) ≤ 10 ^ 3 := Nat.pow_le_pow_right (by decide) (by omega)
            rw [a4 (by omega), show (10000 : Int32) = nI 10000 from rfl] at g
            have := (nI_leI (by decide) (by omega)).mp g
            omega
        · rw [if_neg g, am_b1_s, am_b1_s, am_let_s, am_let_s]
          refine ⟨_, rfl, sr_u (sr_u S4 (by decide) (by decide)) (by decide) (by decide), ?_, a2, a3, fun h4 => ?_⟩
          · rw [up2_s, show (up2 x 55 30 _) 55 27 = x 55 27 from rfl, a1, nI_1]; rfl
          · obtain ⟨d, hd, ed⟩ := dg (i + 1) (by omega)
            show (10 : Int32) * (x 55 30) + B (s + 1 + i) - 48 = _
            rw [a4 (by omega), nv_s ed hd, show s + 1 + i = s + (i + 1) by omega, ed, show (10 : Int32) = nI 10 from rfl, nI_mul, nI_dg]
      · rintro x ⟨S4, a1, a2, a3, a4⟩
        rw [show s + 1 + (e - s - 1) = e by omega] at a1
        rw [show e - s - 1 + 1 = e - s by omega] at a4
        rw [a1, e_raw (RE_s E S4) z2, am_b1_s]
        by_cases hen : e < n
        · rw [if_pos hen, e_dig _ (hv _ hen), if_neg (z4 hen), am_b1_s, if_pos rfl]
          exact ⟨_, rfl, S4, a1, a2, a3, a4⟩
        · rw [if_neg hen, e_dig1, am_b1_s, if_pos rfl]
          exact ⟨_, rfl, S4, a1, a2, a3, a4⟩
      · obtain ⟨d, hd, ed⟩ := dg 0 (by omega)
        rw [Nat.add_zero] at ed
        show B s - 48 = nI (10 * 0 + ((B (s + 0)).toNatClampNeg - 48))
        rw [Nat.add_zero, ed, nI_clamp (by omega), show (48 : Int32) = nI 48 from rfl, pk_sub (by omega)]
        congr 1; omega
      · rintro x ⟨S4, a1, a2, a3, a4⟩
        rw [a1, a2, pk_sub (by omega)]
        by_cases h4 : e - s ≤ 4
        · rw [if_neg (show ¬ (5 : Int32) ≤ nI (e - s) from fun z => by have := (nI_leI (a := 5) (by decide) (by omega)).mp z; omega), am_let_s]
          rw [if_pos h4] at z5
          have hb := nv_b (B := B) (a := s) (m := e - s) (fun k hk => ⟨hv _ (by omega), z3 _ (by omega) (by omega)⟩)
          have : 10 ^ (e - s) ≤ 10 ^ 4 := Nat.pow_le_pow_right (by decide) (by omega)
          exact ⟨_, rfl, sr_u S4 (by decide) (by decide), a1, a2, Or.inr (Or.inr (Or.inr (Or.inl ⟨nv B s (e - s), by omega, z5, rfl, a4 h4⟩)))⟩
        · rw [if_pos (show (5 : Int32) ≤ nI (e - s) from (nI_leI (a := 5) (by decide) (by omega)).mpr (by omega))]
          rw [if_neg h4] at z5
          exact ⟨_, rfl, S4, a1, a2, Or.inr (Or.inl ⟨z5, a3⟩)⟩
