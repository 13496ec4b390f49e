/-! houses, the reference's side -/
theorem t256 (a b : Nat) : (256 : Int32) * nI a + nI b = nI (256 * a + b) := by rw [show (256 : Int32) = nI 256 from rfl, pk_mul, nI_add]
theorem e_rw {L : am_IT} {W : Nat → Nat → Int32} {P q s : Nat} (hP : P ≤ 7) (hW : ∀ q h, q < P → h < 8 → ab 43659 (W q h)) (hq : q < P) (hs : s < 256) (hb : bcn s = q) (hw : ∀ h, h < 8 → F_X12_worthFrom_55 L (nI h) (nI q) (0 : Int32) = some (W q h)) (hr : ∀ s', s' < 256 → bcn s' = q + 1 → L 88 (256 * (q + 1) + s') = HS W P (P - (q + 1)) s') : F_X12_restWith_55 L (nI q) (nI s) = some (HS W P (P - q) s) := by
  have hk : P - q = (P - (q + 1)) + 1 := by omega
  have hk2 : P - (P - (q + 1) + 1) = q := by omega
  obtain ⟨-, h2⟩ := HS_at hP hW (P - q) s hs (by omega)
  obtain ⟨hx, -⟩ := h2 (by omega)
  rw [show P - q - 1 = P - (q + 1) by omega] at hx
  have e0 : HS W P (P - q) s = mxh (-1000000000) (hV W P (P - (q + 1)) s (HS W P (P - (q + 1)))) 8 := by
    rw [hk]
    show mxh (-2147483648) (hV W P (P - (q + 1)) s (HS W P (P - (q + 1)))) 8 = _
    rcases mxh_c (a := -2147483648) (b := -1000000000) (v := hV W P (P - (q + 1)) s (HS W P (P - (q + 1)))) 8 (fun h x hh e => by
      have hb' := hx h x hh e
      have hle : 43659 * (P - q) ≤ 43659 * 7 := Nat.mul_le_mul_left _ (by omega)
      refine ⟨ab_low hb' (by omega), ?_⟩
      unfold ab at hb'
      rw [Int32.le_iff_toInt_le, show (-1000000000 : Int32).toInt = -1000000000 by decide]
      omega) with ⟨h1, -⟩ | ⟨h1, -⟩
    · exfalso
      obtain ⟨h, hh, ht⟩ := b8_x hs (by omega)
      have := h1 h hh
      unfold hV at this
      rw [ht, if_neg (by decide)] at this
      cases this
    · exact h1
  rw [e0]
  unfold F_X12_restWith_55
  refine it_u2 (fun h => mxh (-1000000000) (hV W P (P - (q + 1)) s (HS W P (P - (q + 1)))) h) (fun h => nI h) (n := 8) (e := mxh (-1000000000) (hV W P (P - (q + 1)) s (HS W P (P - (q + 1)))) 8) rfl (by omega) (fun h hh => ?_) ?_ rfl
  · rw [if_neg (show ¬ (8 : Int32) ≤ nI h from nI_ge (a := h) (b := 8) hh (by decide)), b8_m h hh s hs, nI_1 h]
    by_cases ht : s.testBit h = true
    · rw [if_pos ht, if_pos rfl, am_let_s, mxh_n (show hV W P (P - (q + 1)) s (HS W P (P - (q + 1))) h = none from if_pos ht)]
    · have ht' : s.testBit h = false := by simpa using ht
      obtain ⟨n1, n2, n3⟩ := b8_n h hh s hs ht'
      have ev : hV W P (P - (q + 1)) s (HS W P (P - (q + 1))) h = some (W q h + HS W P (P - (q + 1)) (s ||| 2 ^ h)) := by
        unfold hV
        rw [if_neg ht, hk2]
      rw [if_neg ht, if_neg (show ¬ (0 : Int32) = 1 by decide), hw h hh, am_b1_s, b8_o h hh s hs, nI_1, t256, if_pos (am_ix_nI (by omega) (by decide)), nI_clamp (by omega), hr _ n2 (by omega), am_let_s, am_let_s, mxh_y ev]
      by_cases y : W q h + HS W P (P - (q + 1)) (s ||| 2 ^ h) ≤ mxh (-1000000000) (hV W P (P - (q + 1)) s (HS W P (P - (q + 1)))) h
      · rw [if_pos y, if_pos y]
      · rw [if_neg y, if_neg y, am_let_s]
  · rw [if_pos (show (8 : Int32) ≤ nI 8 by decide)]
theorem it_wh {Z : Type} {f : Int32 → Option (Int32 ⊕ Int32)} {k : Int32 → Option Z} {x0 : Int32} {R : Option Z} {n z : Nat} (g : Nat → Option Nat) (h0 : x0 = nI 0) (hg : ∀ i y, g i = some y → y = i) (hz : fs g 0 n = some z) (hn : n < 1000000) (hs : ∀ i, i < n → f (nI i) = match g i with | none => some (.inl (nI (i + 1))) | some y => some (.inr (nI y))) (hR : k (nI z) = R) : am_b1 (am_it am_fu f x0) k = R := by
  subst h0
  rw [← hR]
  have go : ∀ (m j i : Nat), i + j = n → j < m → fs g i j = some z → am_it m f (nI i) = some (nI z) := by
    intro m
    induction m with
    | zero => intro j i _ h; omega
    | succ m ih =>
      intro j i hj hm hf
      cases j with
      | zero => cases hf
      | succ j =>
        have h1 := hs i (by omega)
        cases hgi : g i with
        | none =>
          rw [hgi] at h1
          rw [fs_n hgi] at hf
          rw [am_it_l (show f (nI i) = some (.inl (nI (i + 1))) from h1)]
          exact ih j (i + 1) (by omega) (by omega) hf
        | some y =>
          rw [hgi] at h1
          rw [fs_y hgi] at hf
          cases hf
          exact am_it_e h1
  rw [go am_fu n 0 (by omega) (by show n < 1000000; omega) hz]
  rfl
theorem e_fhm {I J : am_IT} {c w p t y d ln : Nat} (X : cx I c w p t y d ln) (S : sq I J) (h72 : ∀ j, j < 7 → J 72 j = I 72 j) : ∃ K, F_X12_findsHomes_55 J = some K ∧ K 88 0 = HS (WW I t w) p p 0 ∧ (∀ q, q < p → K 89 q = nI (fh (WW I t w) p q (TK (WW I t w) p q))) ∧ ∀ a, a ≠ 83 → a ≠ 88 → a ≠ 89 → K a = J a := by
  have b4 : p ≤ 7 := X.1.2.2.2.1
  obtain ⟨A, eA, ya, ak⟩ := fy X S
  have SA : sq I A := sq_x S (fun _ => rfl) ak
  have p2 : ∀ {L : am_IT}, (∀ a, a ≠ 88 → a ≠ 89 → L a = A a) → L 55 5 = nI p := fun {L} h => by rw [h 55 (by decide) (by decide), SA 55 5 rfl]; exact X.2.1.2.2.2.2.1.2
  have wf : ∀ {L : am_IT}, (∀ a, a ≠ 88 → a ≠ 89 → L a = A a) → ∀ q h, q < p → h < 8 → F_X12_worthFrom_55 L (nI h) (nI q) (0 : Int32) = some (WW I t w q h) := fun {L} hL q h hq hh => by
    have SL : sq I L := fun a i ma => by rw [hL a (st_ne (fun _ => rfl) ma) (st_ne (fun _ => rfl) ma)]; exact SA a i ma
    exact mW X SL (fun h u hh hu => by rw [hL 83 (by decide) (by decide)]; exact ya h u hh hu) (off := 0) (by decide) (hP72 X (fun u hu => by rw [hL 72 (by decide) (by decide), ak 72 (by decide)]; exact h72 u hu)) hq hh
  unfold F_X12_findsHomes_55
  rw [eA, am_b1_s]
  refine it_b1_inv (R := fun z => ∃ K : am_IT, z = some K ∧ K 88 0 = HS (WW I t w) p p 0 ∧ (∀ q, q < p → K 89 q = nI (fh (WW I t w) p q (TK (WW I t w) p q))) ∧ ∀ a, a ≠ 83 → a ≠ 88 → a ≠ 89 → K a = J a)
    (fun i x => ∃ B : am_IT, x = (nI i, B) ∧ (∀ s, s < i → B 88 (256 * p + s) = 0) ∧ ∀ a, a ≠ 88 → B a = A a)
    (fun (B : am_IT) => (∀ s, s < 256 → B 88 (256 * p + s) = 0) ∧ ∀ a, a ≠ 88 → B a = A a) (n := 256) (by omega) ?_ ?_ ⟨A, by rw [nI_0], fun q hq => absurd hq (Nat.not_lt_zero q), fun _ _ => rfl⟩ ?_
  · rintro s x hs ⟨B, rfl, g1, g2⟩
    refine ⟨(nI (s + 1), up2 B 88 (256 * p + s) 0), ?_, _, rfl, ?_, ?_⟩
    · rw [am_u2_s, if_neg (show ¬ (256 : Int32) ≤ nI s from nI_ge (a := s) (b := 256) hs (by decide)), p2 (L := B) (fun a h _ => g2 a h), t256, if_pos (am_ix_nI (by omega) (by decide)), am_let_s, am_let_s, nI_clamp (by omega), nI_1]
    · intro r hr
      by_cases z : r = s
      · subst z; exact up2_s _ _ _ _
      · rw [up2_j _ _ (by omega)]; exact g1 r (by omega)
    · intro a ha
      rw [up2_k _ _ ha]; exact g2 a ha
  · rintro x ⟨B, rfl, g1, g2⟩
    exact ⟨B, by rw [am_u2_s, if_pos (show (256 : Int32) ≤ nI 256 by decide)], g1, g2⟩
  rintro B ⟨g1, g2⟩
  rw [p2 (L := B) (fun a h _ => g2 a h), am_let_s]
  refine it_b1_inv (R := fun z => ∃ K : am_IT, z = some K ∧ K 88 0 = HS (WW I t w) p p 0 ∧ (∀ q, q < p → K 89 q = nI (fh (WW I t w) p q (TK (WW I t w) p q))) ∧ ∀ a, a ≠ 83 → a ≠ 88 → a ≠ 89 → K a = J a)
    (fun i x => ∃ C : am_IT, x = (if i = p then -1 else nI (p - 1 - i), C) ∧ (∀ q s, p - i ≤ q → q ≤ p → s < 256 → bcn s = q → C 88 (256 * q + s) = HS (WW I t w) p (p - q) s) ∧ ∀ a, a ≠ 88 → C a = A a)
    (fun (C : am_IT) => (∀ q s, q ≤ p → s < 256 → bcn s = q → C 88 (256 * q + s) = HS (WW I t w) p (p - q) s) ∧ ∀ a, a ≠ 88 → C a = A a) (n := p) (by omega) ?_ ?_ ⟨B, ?_, ?_, g2⟩ ?_
  · rintro i x hi ⟨C, rfl, k1, k2⟩
    rw [if_neg (show ¬ i = p by omega), am_u2_s, if_neg (nI_pos (by omega))]
    refine it_b1_inv (R := fun (z : Option ((Int32 × am_IT) ⊕ am_IT)) => ∃ y : Int32 × am_IT, z = some (.inl y) ∧ ∃ C : am_IT, y = (if i + 1 = p then -1 else nI (p - 1 - (i + 1)), C) ∧ (∀ q s, p - (i + 1) ≤ q → q ≤ p → s < 256 → bcn s = q → C 88 (256 * q + s) = HS (WW I t w) p (p - q) s) ∧ ∀ a, a ≠ 88 → C a = A a)
      (fun m x => ∃ D : am_IT, x = (nI m, D) ∧ (∀ q s, p - i ≤ q → q ≤ p → s < 256 → bcn s = q → D 88 (256 * q + s) = HS (WW I t w) p (p - q) s) ∧ (∀ s, s < m → bcn s = p - 1 - i → D 88 (256 * (p - 1 - i) + s) = HS (WW I t w) p (p - (p - 1 - i)) s) ∧ ∀ a, a ≠ 88 → D a = A a)
      (fun (D : am_IT) => (∀ q s, p - i ≤ q → q ≤ p → s < 256 → bcn s = q → D 88 (256 * q + s) = HS (WW I t w) p (p - q) s) ∧ (∀ s, s < 256 → bcn s = p - 1 - i → D 88 (256 * (p - 1 - i) + s) = HS (WW I t w) p (p - (p - 1 - i)) s) ∧ ∀ a, a ≠ 88 → D a = A a) (n := 256) (by omega) ?_ ?_ ⟨C, by rw [nI_0], k1, fun s hs => absurd hs (Nat.not_lt_zero s), k2⟩ ?_
    · rintro s x hs ⟨D, rfl, d1, d2, d3⟩
      rw [am_u2_s, if_neg (show ¬ (256 : Int32) ≤ nI s from nI_ge (a := s) (b := 256) hs (by decide)), e_ones D hs, am_b1_s, nI_1]
      have h8 := bcn_8 s hs
      by_cases z : bcn s = p - 1 - i
      · have eR : F_X12_restWith_55 D (nI (p - 1 - i)) (nI s) = some (HS (WW I t w) p (p - (p - 1 - i)) s) := e_rw b4 (WW_b X) (by omega) hs z (fun h hh => wf (L := D) (fun a h _ => d3 a h) _ h (by omega) hh) (fun s' h1 h2 => by
          have := d1 (p - 1 - i + 1) s' (by omega) (by omega) h1 h2
          exact this)
        rw [if_pos (congrArg nI z), eR, am_b1_s, t256, if_pos (am_ix_nI (by omega) (by decide)), am_let_s, am_let_s, nI_clamp (by omega)]
        refine ⟨_, rfl, _, rfl, ?_, ?_, ?_⟩
        · intro q s' h1 h2 h3 h4
          rw [up2_j _ _ (by omega)]; exact d1 q s' h1 h2 h3 h4
        · intro s' h1 h2
          by_cases zz : s' = s
          · subst zz; exact up2_s _ _ _ _
          · rw [up2_j _ _ (by omega)]; exact d2 s' (by omega) h2
        · intro a ha
          rw [up2_k _ _ ha]; exact d3 a ha
      · rw [if_neg (fun e => z ((nI_eq (by omega) (by omega)).mp e)), am_let_s]
        refine ⟨_, rfl, D, rfl, d1, fun s' h1 h2 => ?_, d3⟩
        by_cases zz : s' = s
        · subst zz; exact absurd h2 z
        · exact d2 s' (by omega) h2
    · rintro x ⟨D, rfl, d1, d2, d3⟩
      exact ⟨D, by rw [am_u2_s, if_pos (show (256 : Int32) ≤ nI 256 by decide)], d1, d2, d3⟩
    rintro D ⟨d1, d2, d3⟩
    refine ⟨(if i + 1 = p then -1 else nI (p - 1 - (i + 1)), D), ?_, D, rfl, ?_, d3⟩
    · rw [am_let_s]
      by_cases z : i + 1 = p
      · rw [if_pos z, show p - 1 - i = 0 by omega]; rfl
      · rw [if_neg z, show p - 1 - i = (p - 1 - (i + 1)) + 1 by omega, pk_m1]
    · intro q s h1 h2 h3 h4
      by_cases z : q = p - 1 - i
      · subst z; exact d2 s h3 h4
      · exact d1 q s (by omega) h2 h3 h4
  · rintro x ⟨C, rfl, k1, k2⟩
    exact ⟨C, by rw [if_pos rfl, am_u2_s, if_pos (show (-1 : Int32) < 0 by decide)], fun q s h1 h2 h3 => k1 q s (by omega) h1 h2 h3, k2⟩
  · by_cases z : 0 = p
    · rw [if_pos z, ← z]; rfl
    · rw [if_neg z, show p = (p - 1 - 0) + 1 by omega, nI_dec]
      rfl
  · intro q s h1 h2 h3 h4
    have hq : q = p := by omega
    subst hq
    rw [g1 s h3, Nat.sub_self]
    rfl
  rintro C ⟨k1, k2⟩
  have C88 : C 88 0 = HS (WW I t w) p p 0 := k1 0 0 (Nat.zero_le _) (by decide) (by decide)
  refine it_b1_inv (R := fun z => ∃ K : am_IT, z = some K ∧ K 88 0 = HS (WW I t w) p p 0 ∧ (∀ q, q < p → K 89 q = nI (fh (WW I t w) p q (TK (WW I t w) p q))) ∧ ∀ a, a ≠ 83 → a ≠ 88 → a ≠ 89 → K a = J a)
    (fun i x => ∃ D : am_IT, x = (nI (TK (WW I t w) p i), nI i, D) ∧ (∀ q, q < i → D 89 q = nI (fh (WW I t w) p q (TK (WW I t w) p q))) ∧ ∀ a, a ≠ 89 → D a = C a)
    (fun (D : am_IT) => (∀ q, q < p → D 89 q = nI (fh (WW I t w) p q (TK (WW I t w) p q))) ∧ ∀ a, a ≠ 89 → D a = C a) (n := p) (by omega) ?_ ?_ ⟨C, by rw [nI_0]; rfl, fun q hq => absurd hq (Nat.not_lt_zero q), fun _ _ => rfl⟩ ?_
  · rintro q x hq ⟨D, rfl, d1, d2⟩
    obtain ⟨t1, t2⟩ := TK_ok b4 (WW_b X) q (by omega)
    obtain ⟨f0, f1, f2⟩ := fh_ok b4 (WW_b X) hq t1 t2
    have dA : ∀ a, a ≠ 88 → a ≠ 89 → D a = A a := fun a h1 h2 => by rw [d2 a h2]; exact k2 a h1
    refine ⟨(nI (TK (WW I t w) p (q + 1)), nI (q + 1), up2 D 89 q (nI (fh (WW I t w) p q (TK (WW I t w) p q)))), ?_, _, rfl, ?_, ?_⟩
    · rw [am_u3_s, p2 dA, if_neg (nI_ge hq (by omega))]
      refine it_wh (n := 8) (z := fh (WW I t w) p q (TK (WW I t w) p q)) (fhs (WW I t w) p q (TK (WW I t w) p q)) nI_0.symm (fun i y e => ?_) f0 (by omega) (fun h hh => ?_) ?_
      · unfold fhs at e
        by_cases z1 : (TK (WW I t w) p q).testBit i = true
        · rw [if_pos z1] at e; cases e
        · rw [if_neg z1] at e
          by_cases z2 : WW I t w q i + HS (WW I t w) p (p - (q + 1)) (TK (WW I t w) p q ||| 2 ^ i) = HS (WW I t w) p (p - q) (TK (WW I t w) p q)
          · rw [if_pos z2] at e; cases e; rfl
          · rw [if_neg z2] at e; cases e
      · rw [b8_m h hh _ t1, nI_1 h]
        unfold fhs
        by_cases ht : (TK (WW I t w) p q).testBit h = true
        · rw [if_pos ht, if_pos rfl, am_let_s, if_pos ht]
        · have ht' : (TK (WW I t w) p q).testBit h = false := by simpa using ht
          obtain ⟨n1, n2, n3⟩ := b8_n h hh _ t1 ht'
          rw [if_neg ht, if_neg (show ¬ (0 : Int32) = 1 by decide), wf dA q h hq hh, am_b1_s, b8_o h hh _ t1, nI_1 q, t256, t256, if_pos (am_ix_nI (by omega) (by decide)), if_pos (am_ix_nI (by omega) (by decide)), nI_clamp (by omega), nI_clamp (by omega), d2 88 (by decide), k1 (q + 1) _ (by omega) n2 (by omega), k1 q _ (by omega) t1 t2, if_neg ht]
          by_cases z2 : WW I t w q h + HS (WW I t w) p (p - (q + 1)) (TK (WW I t w) p q ||| 2 ^ h) = HS (WW I t w) p (p - q) (TK (WW I t w) p q)
          · rw [if_pos z2, if_pos z2]
          · rw [if_neg z2, if_neg z2, am_let_s]
      · rw [if_pos (am_ix_nI (by omega) (by decide)), am_let_s, nI_clamp (by omega), b8_o _ f1 _ t1, am_let_s, am_let_s, nI_1]
        rfl
    · intro r hr
      by_cases z : r = q
      · subst z; exact up2_s _ _ _ _
      · rw [up2_j _ _ z]; exact d1 r (by omega)
    · intro a ha
      rw [up2_k _ _ ha]; exact d2 a ha
  · rintro x ⟨D, rfl, d1, d2⟩
    exact ⟨D, by rw [am_u3_s, p2 (L := D) (fun a h1 h2 => by rw [d2 a h2]; exact k2 a h1), if_pos (nI_le (Nat.le_refl p) (by omega))], d1, d2⟩
  rintro D ⟨d1, d2⟩
  exact ⟨D, rfl, by rw [d2 88 (by decide)]; exact C88, d1, fun a h83 h88 h89 => by rw [d2 a h89, k2 a h88, ak a h83]⟩
theorem op_24 : am_op24 RI := by
  intro b I a1 hR
  have hR0 := hR
  obtain ⟨c, w, p, t, y, d, ln, n, X, -, -, -⟩ := hR
  have hp1 : I 1 4 = nI p := X.2.1.2.2.2.2.1.1
  have hp2 : I 55 5 = nI p := X.2.1.2.2.2.2.1.2
  have b4 : p ≤ 7 := X.1.2.2.2.1
  have go : gd (a1 - 10) p = gr a1 10 ((9 : Int32) + nI p) := gd_off a1 (ao := 10) rfl (by decide) b4 rfl (by decide)
  have q5 : (up2 I 55 0 0) 55 5 = nI p := hp2
  obtain ⟨K, eK, k46, k44, kk⟩ := e_plan X (sq_r I) rfl
  have SK : sq I K := fun a m ma => by rw [kk a (st_ne (fun _ => rfl) ma) (st_ne (fun _ => rfl) ma) (st_ne (fun _ => rfl) ma) (st_ne (fun _ => rfl) ma)]
  have k3 : K 3 = I 3 := kk 3 (by decide) (by decide) (by decide) (by decide)
  have k72 : K 72 = I 72 := kk 72 (by decide) (by decide) (by decide) (by decide)
  obtain ⟨L, eL, l88, l89, lk⟩ := e_fhm X (J := up2 K 55 0 0) (sq_u 0 SK rfl) (fun j _ => by rw [up2_k _ _ (by decide), k72])
  have hRL : RI b L := by
    refine RI_sm (sq_3 (fun a m ma => ?_) (by rw [lk 3 (by decide) (by decide) (by decide), up2_k _ _ (by decide), k3]) (fun j _ => by rw [lk 72 (by decide) (by decide) (by decide), up2_k _ _ (by decide), k72])) hR0
    rw [lk a (st_ne (fun _ => rfl) ma) (st_ne (fun _ => rfl) ma) (st_ne (fun _ => rfl) ma)]
    exact (sq_u 0 SK rfl : sq I (up2 K 55 0 0)) a m ma
  have u5 : (up2 K 55 0 0) 55 5 = nI p := by
    rw [up2_j _ _ (show 5 ≠ 0 by decide), SK 55 5 rfl]; exact hp2
  rcases gd_cases (a1 - 10) (n := p) (by omega) with g0 | ⟨g0, q, hq, e0⟩
  · by_cases z : a1 = 0
    · subst z
      refine ⟨HS (WW I t w) p p 0, K, L, ?_, ?_, hRL⟩
      · unfold F_X11_homes_0 F_X3_greatestSum_43
        rw [gP1 (n := p) hp1, am_b1_s, g0, if_pos rfl, if_pos rfl, eK, am_b1_s, if_pos rfl, if_pos (by decide), am_b1_s]
        exact congrArg (fun z => some (z, K)) k46
      · unfold F_X12_homes_55
        rw [am_let_s, if_pos rfl, eL, am_b1_s, if_pos rfl, if_pos (by decide)]
        exact congrArg (fun z => some (z, L)) l88
    · refine ⟨-100000, I, up2 I 55 0 0, ?_, ?_, RI_sm (sm_u 0 rfl) hR0⟩
      · unfold F_X11_homes_0
        rw [gP1 (n := p) hp1, am_b1_s, g0, if_pos rfl, if_neg z]
      · unfold F_X12_homes_55
        rw [am_let_s, if_neg z, gR2, q5, ← go, g0, am_b1_s, if_pos rfl]
  · have ea : a1 = nI (q + 10) := by
      have h := Int32.sub_add_cancel a1 10
      rw [e0] at h
      rw [← h, show (10 : Int32) = nI 10 from rfl, nI_add]
    have n0 : ¬ a1 = 0 := by rw [ea]; exact nI_ne0 (by omega) (by omega)
    refine ⟨nI (fh (WW I t w) p q (TK (WW I t w) p q)), K, L, ?_, ?_, hRL⟩
    · unfold F_X11_homes_0
      rw [gP1 (n := p) hp1, am_b1_s, g0, if_neg (by decide), eK, am_b1_s, if_neg (by decide), e0, if_pos (am_ix_nI (by omega) (by decide)), nI_clamp (by omega), k44 q hq]
    · unfold F_X12_homes_55
      rw [am_let_s, if_neg n0, gR2, u5, ← go, g0, am_b1_s, if_neg (by decide), eL, am_b1_s, if_neg n0, e0, if_pos (am_ix_nI (by omega) (by decide)), nI_clamp (by omega), l89 q hq]
