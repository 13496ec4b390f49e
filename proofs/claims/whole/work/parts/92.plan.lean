/-! houses, the class's side -/
def WW (I : am_IT) (t w : Nat) : Nat → Nat → Int32 := fun q h => wV I t w q h (pN I)
theorem WW_b {I : am_IT} {c w p t y d ln : Nat} (X : cx I c w p t y d ln) : ∀ q h, q < p → h < 8 → ab 43659 (WW I t w q h) := fun q h hq hh => wV_b X hq hh (fun v hv => (hP3 X (J := I) rfl v hv).2)
theorem m8 (a b : Nat) : nI a * 8 + nI b = nI (8 * a + b) := by rw [show (8 : Int32) = nI 8 from rfl, pk_mul, nI_add, Nat.mul_comm]
theorem e_sumw {L : am_IT} {W : Nat → Nat → Int32} {q h s : Nat} {r : Int32} (hq : q < 7) (hh : h < 8) (hs : s < 256) (ht : s.testBit h = false) (hW : L 45 (8 * q + h) = W q h) (hr : L 46 (s ||| 2 ^ h) = r) : F_X3_sumWith_43 L (nI q) (nI h) (nI s) = some (W q h + r) := by
  obtain ⟨-, n2, -⟩ := b8_n h hh s hs ht
  unfold F_X3_sumWith_43
  rw [m8, b8_o h hh s hs, if_pos (am_ix_nI (by omega) (by decide)), if_pos (am_ix_nI n2 (by decide)), nI_clamp (by omega), nI_clamp (by omega), hW, hr]
theorem bcn_8 : ∀ s, s < 256 → bcn s ≤ 8 := by decide +kernel
theorem e_grf {L : am_IT} {W : Nat → Nat → Int32} {P s : Nat} (hP : P ≤ 7) (p1 : L 1 4 = nI P) (hs : s < 256) (hW : ∀ q h, q < P → h < 8 → L 45 (8 * q + h) = W q h) (hr : ∀ s', s < s' → s' < 256 → L 46 s' = HS W P (P - bcn s') s') : F_X3_greatestFrom_43 L (nI s) = some (HS W P (P - bcn s) s) := by
  have h8 := bcn_8 s hs
  unfold F_X3_greatestFrom_43
  rw [e_bits L s hs, am_b1_s, p1]
  by_cases z : bcn s < P
  · rw [if_pos (nI_lt z (by omega)), show P - bcn s = (P - bcn s - 1) + 1 by omega]
    refine it_u2 (fun h => mxh (-2147483648) (hV W P (P - bcn s - 1) s (HS W P (P - bcn s - 1))) h) (fun h => nI h) (n := 8) (e := HS W P (P - bcn s - 1 + 1) s) rfl (by omega) (fun h hh => ?_) ?_ rfl
    · rw [if_neg (show ¬ (8 : Int32) ≤ nI h from nI_ge (a := h) (b := 8) hh (by decide)), b8_m h hh s hs, nI_1]
      by_cases ht : s.testBit h = true
      · rw [if_pos ht, if_neg (show ¬ (1 : Int32) = 0 by decide), am_let_s, mxh_n (show hV W P (P - bcn s - 1) s (HS W P (P - bcn s - 1)) h = none from if_pos ht)]
      · have ht' : s.testBit h = false := by simpa using ht
        obtain ⟨n1, n2, n3⟩ := b8_n h hh s hs ht'
        have ev : hV W P (P - bcn s - 1) s (HS W P (P - bcn s - 1)) h = some (W (bcn s) h + HS W P (P - bcn s - 1) (s ||| 2 ^ h)) := by
          unfold hV
          rw [if_neg ht, show P - (P - bcn s - 1 + 1) = bcn s by omega]
        rw [if_neg ht, if_pos rfl, e_sumw (W := W) (by omega) hh hs ht' (hW _ _ z hh) (hr _ n3 n2), am_b1_s, am_let_s, am_let_s, mxh_y ev, n1, show P - (bcn s + 1) = P - bcn s - 1 by omega]
        by_cases y : W (bcn s) h + HS W P (P - bcn s - 1) (s ||| 2 ^ h) ≤ mxh (-2147483648) (hV W P (P - bcn s - 1) s (HS W P (P - bcn s - 1))) h
        · rw [if_pos y, if_neg (Int32.not_lt.mpr y)]
        · rw [if_neg y, if_pos (Int32.not_le.mp y)]
    · rw [if_pos (show (8 : Int32) ≤ nI 8 by decide)]
      rfl
  · rw [if_neg (nI_nlt (show P ≤ bcn s by omega) (by omega)), show P - bcn s = 0 by omega]
    rfl
theorem e_fh {L : am_IT} {W : Nat → Nat → Int32} {P q s : Nat} (hP : P ≤ 7) (hq : q < P) (hs : s < 256) (hb : bcn s = q) (hW : ∀ q h, q < P → h < 8 → L 45 (8 * q + h) = W q h) (hr : ∀ s', s' < 256 → L 46 s' = HS W P (P - bcn s') s') : F_X3_firstHouse_43 L (nI q) (nI s) = some (nI (fh W P q s)) := by
  unfold F_X3_firstHouse_43
  refine it_fs (n := 8) (e0 := (0 : Int32)) nI_0.symm (fhs W P q s) (fun h => nI h) (Nat.zero_le _) (by omega) (fun h _ hh => ?_) ?_ ?_
  · rw [if_neg (show ¬ (8 : Int32) ≤ nI h from nI_ge (a := h) (b := 8) hh (by decide)), b8_m h hh s hs, nI_1]
    unfold fhs
    by_cases ht : s.testBit h = true
    · rw [if_pos ht, if_neg (show ¬ (1 : Int32) = 0 by decide), am_let_s, if_pos ht]
      rfl
    · have ht' : s.testBit h = false := by simpa using ht
      obtain ⟨n1, n2, n3⟩ := b8_n h hh s hs ht'
      rw [if_neg ht, if_pos rfl, if_neg ht, e_sumw (W := W) (by omega) hh hs ht' (hW _ _ hq hh) (hr _ n2), am_b1_s, if_pos (am_ix_nI hs (by decide)), nI_clamp (by omega), hr s hs, n1, hb]
      by_cases y : W q h + HS W P (P - (q + 1)) (s ||| 2 ^ h) = HS W P (P - q) s
      · rw [if_pos y, if_pos y] <;> rfl
      · rw [if_neg y, if_neg y, am_let_s] <;> rfl
  · rw [if_pos (show (8 : Int32) ≤ nI 8 by decide)]
  · rw [Nat.sub_zero]
    unfold fh
    cases fs (fhs W P q s) 0 8 with
    | none => rw [fe_n]; rfl
    | some z => rfl
theorem e_plan {I J : am_IT} {c w p t y d ln : Nat} (X : cx I c w p t y d ln) (S : sq I J) (h3 : J 3 = I 3) : ∃ K, F_X3_plan_43 J = some K ∧ K 46 0 = HS (WW I t w) p p 0 ∧ (∀ q, q < p → K 44 q = nI (fh (WW I t w) p q (TK (WW I t w) p q))) ∧ ∀ a, a ≠ 24 → a ≠ 44 → a ≠ 45 → a ≠ 46 → K a = J a := by
  have b4 : p ≤ 7 := X.1.2.2.2.1
  obtain ⟨A, eA, ya, ak⟩ := ms X S
  have SA : sq I A := sq_x S (fun _ => rfl) ak
  have A3 : A 3 = I 3 := (ak 3 (by decide)).trans h3
  have p1 : ∀ {L : am_IT}, (∀ a, a ≠ 44 → a ≠ 45 → a ≠ 46 → L a = A a) → L 1 4 = nI p := fun {L} h => by rw [h 1 (by decide) (by decide) (by decide), sq_c SA (k := 1) rfl]; exact X.2.1.2.2.2.2.1.1
  unfold F_X3_plan_43
  rw [eA, am_b1_s]
  refine it_b1_inv (R := fun z => ∃ K : am_IT, z = some K ∧ K 46 0 = HS (WW I t w) p p 0 ∧ (∀ q, q < p → K 44 q = nI (fh (WW I t w) p q (TK (WW I t w) p q))) ∧ ∀ a, a ≠ 24 → a ≠ 44 → a ≠ 45 → a ≠ 46 → K a = J a)
    (fun i x => ∃ B : am_IT, x = (nI i, B) ∧ (∀ q h, q < i → h < 8 → B 45 (8 * q + h) = WW I t w q h) ∧ ∀ a, a ≠ 45 → B a = A a)
    (fun (B : am_IT) => (∀ q h, q < p → h < 8 → B 45 (8 * q + h) = WW I t w q h) ∧ ∀ a, a ≠ 45 → B a = A a) (n := p) (by omega) ?_ ?_ ⟨A, by rw [nI_0], fun q h hq => absurd hq (Nat.not_lt_zero q), fun _ _ => rfl⟩ ?_
  · rintro q x hq ⟨B, rfl, g1, g2⟩
    rw [am_u2_s, p1 (fun a _ h _ => g2 a h), if_neg (nI_ge hq (by omega))]
    refine it_b1_inv (R := fun (z : Option ((Int32 × am_IT) ⊕ am_IT)) => ∃ y : Int32 × am_IT, z = some (.inl y) ∧ ∃ B : am_IT, y = (nI (q + 1), B) ∧ (∀ r h, r < q + 1 → h < 8 → B 45 (8 * r + h) = WW I t w r h) ∧ ∀ a, a ≠ 45 → B a = A a)
      (fun i x => ∃ C : am_IT, x = (nI i, C) ∧ (∀ r h, r < q → h < 8 → C 45 (8 * r + h) = WW I t w r h) ∧ (∀ h, h < i → C 45 (8 * q + h) = WW I t w q h) ∧ ∀ a, a ≠ 45 → C a = A a)
      (fun (C : am_IT) => (∀ r h, r < q → h < 8 → C 45 (8 * r + h) = WW I t w r h) ∧ (∀ h, h < 8 → C 45 (8 * q + h) = WW I t w q h) ∧ ∀ a, a ≠ 45 → C a = A a) (n := 8) (by omega) ?_ ?_ ⟨B, by rw [nI_0], g1, fun h hh => absurd hh (Nat.not_lt_zero h), g2⟩ ?_
    · rintro h x hh ⟨C, rfl, k1, k2, k3⟩
      have eW : F_X8_worthIn_23_3 C (nI q) (nI h) = some (WW I t w q h) := cW_3 X (sq_x SA (fun _ => rfl) k3) (fun h u hh hu => by rw [k3 24 (by decide)]; exact ya h u hh hu) (hP3 X (by rw [k3 3 (by decide)]; exact A3)) hq hh
      refine ⟨(nI (h + 1), up2 C 45 (8 * q + h) (WW I t w q h)), ?_, _, rfl, ?_, ?_, ?_⟩
      · rw [am_u2_s, if_neg (show ¬ (8 : Int32) ≤ nI h from nI_ge (a := h) (b := 8) hh (by decide)), eW, am_b1_s, m8, if_pos (am_ix_nI (by omega) (by decide)), am_let_s, am_let_s, nI_clamp (by omega), nI_1]
      · intro r h' hr hh'
        rw [up2_j _ _ (by omega)]; exact k1 r h' hr hh'
      · intro h' hh'
        by_cases z : h' = h
        · subst z; exact up2_s _ _ _ _
        · rw [up2_j _ _ (by omega)]; exact k2 h' (by omega)
      · intro a ha
        rw [up2_k _ _ ha]; exact k3 a ha
    · rintro x ⟨C, rfl, k1, k2, k3⟩
      exact ⟨C, by rw [am_u2_s, if_pos (show (8 : Int32) ≤ nI 8 by decide)], k1, k2, k3⟩
    rintro C ⟨k1, k2, k3⟩
    refine ⟨(nI (q + 1), C), by rw [am_let_s, nI_1], C, rfl, fun r h hr hh => ?_, k3⟩
    by_cases z : r = q
    · subst z; exact k2 h hh
    · exact k1 r h (by omega) hh
  · rintro x ⟨B, rfl, g1, g2⟩
    exact ⟨B, by rw [am_u2_s, p1 (fun a _ h _ => g2 a h), if_pos (nI_le (Nat.le_refl p) (by omega))], g1, g2⟩
  rintro B ⟨g1, g2⟩
  rw [am_let_s]
  refine it_b1_inv (R := fun z => ∃ K : am_IT, z = some K ∧ K 46 0 = HS (WW I t w) p p 0 ∧ (∀ q, q < p → K 44 q = nI (fh (WW I t w) p q (TK (WW I t w) p q))) ∧ ∀ a, a ≠ 24 → a ≠ 44 → a ≠ 45 → a ≠ 46 → K a = J a)
    (fun i x => ∃ C : am_IT, x = (if i = 256 then -1 else nI (255 - i), C) ∧ (∀ s, 256 - i ≤ s → s < 256 → C 46 s = HS (WW I t w) p (p - bcn s) s) ∧ ∀ a, a ≠ 46 → C a = B a)
    (fun (C : am_IT) => (∀ s, s < 256 → C 46 s = HS (WW I t w) p (p - bcn s) s) ∧ ∀ a, a ≠ 46 → C a = B a) (n := 256) (by omega) ?_ ?_ ⟨B, by rw [if_neg (by decide)]; rfl, fun s h1 h2 => by omega, fun _ _ => rfl⟩ ?_
  · rintro i x hi ⟨C, rfl, k1, k2⟩
    have eG : F_X3_greatestFrom_43 C (nI (255 - i)) = some (HS (WW I t w) p (p - bcn (255 - i)) (255 - i)) := e_grf b4 (p1 (fun a _ h1 h2 => by rw [k2 a h2]; exact g2 a h1)) (by omega) (fun q h hq hh => by rw [k2 45 (by decide)]; exact g1 q h hq hh) (fun s' h1 h2 => k1 s' (by omega) h2)
    refine ⟨(if i + 1 = 256 then -1 else nI (255 - (i + 1)), up2 C 46 (255 - i) (HS (WW I t w) p (p - bcn (255 - i)) (255 - i))), ?_, _, rfl, ?_, ?_⟩
    · rw [am_u2_s, if_neg (show ¬ i = 256 by omega), if_neg (nI_pos (by omega)), eG, am_b1_s, if_pos (am_ix_nI (by omega) (by decide)), am_let_s, am_let_s, nI_clamp (by omega)]
      by_cases z : i + 1 = 256
      · rw [if_pos z, show 255 - i = 0 by omega]; rfl
      · rw [if_neg z, show 255 - i = (255 - (i + 1)) + 1 by omega, pk_m1]
    · intro s h1 h2
      by_cases z : s = 255 - i
      · subst z; exact up2_s _ _ _ _
      · rw [up2_j _ _ z]; exact k1 s (by omega) h2
    · intro a ha
      rw [up2_k _ _ ha]; exact k2 a ha
  · rintro x ⟨C, rfl, k1, k2⟩
    exact ⟨C, by rw [if_pos rfl, am_u2_s, if_pos (show (-1 : Int32) < 0 by decide)], fun s hs => k1 s (by omega) hs, k2⟩
  rintro C ⟨k1, k2⟩
  have C46 : C 46 0 = HS (WW I t w) p p 0 := by
    have h := k1 0 (by decide)
    rw [show bcn 0 = 0 by decide, Nat.sub_zero] at h
    exact h
  refine it_b1_inv (R := fun z => ∃ K : am_IT, z = some K ∧ K 46 0 = HS (WW I t w) p p 0 ∧ (∀ q, q < p → K 44 q = nI (fh (WW I t w) p q (TK (WW I t w) p q))) ∧ ∀ a, a ≠ 24 → a ≠ 44 → a ≠ 45 → a ≠ 46 → K a = J a)
    (fun i x => ∃ D : am_IT, x = (nI (TK (WW I t w) p i), nI i, D) ∧ (∀ q, q < i → D 44 q = nI (fh (WW I t w) p q (TK (WW I t w) p q))) ∧ ∀ a, a ≠ 44 → D a = C a)
    (fun (D : am_IT) => (∀ q, q < p → D 44 q = nI (fh (WW I t w) p q (TK (WW I t w) p q))) ∧ ∀ a, a ≠ 44 → D a = C a) (n := p) (by omega) ?_ ?_ ⟨C, by rw [nI_0]; rfl, fun q hq => absurd hq (Nat.not_lt_zero q), fun _ _ => rfl⟩ ?_
  · rintro q x hq ⟨D, rfl, d1, d2⟩
    obtain ⟨t1, t2⟩ := TK_ok b4 (WW_b X) q (by omega)
    obtain ⟨-, f1, f2⟩ := fh_ok b4 (WW_b X) hq t1 t2
    have eF : F_X3_firstHouse_43 D (nI q) (nI (TK (WW I t w) p q)) = some (nI (fh (WW I t w) p q (TK (WW I t w) p q))) := e_fh b4 hq t1 t2 (fun q h hq hh => by rw [d2 45 (by decide), k2 45 (by decide)]; exact g1 q h hq hh) (fun s' h => by rw [d2 46 (by decide)]; exact k1 s' h)
    refine ⟨(nI (TK (WW I t w) p (q + 1)), nI (q + 1), up2 D 44 q (nI (fh (WW I t w) p q (TK (WW I t w) p q)))), ?_, _, rfl, ?_, ?_⟩
    · rw [am_u3_s, p1 (L := D) (fun a h1 h2 h3 => by rw [d2 a h1, k2 a h3]; exact g2 a h2), if_neg (nI_ge hq (by omega)), eF, am_b1_s, if_pos (am_ix_nI (by omega) (by decide)), am_let_s, if_pos (am_ix_nI (by omega) (by decide)), nI_clamp (by omega), up2_s, b8_o _ f1 _ t1, am_let_s, am_let_s, nI_1]
      rfl
    · intro r hr
      by_cases z : r = q
      · subst z; exact up2_s _ _ _ _
      · rw [up2_j _ _ z]; exact d1 r (by omega)
    · intro a ha
      rw [up2_k _ _ ha]; exact d2 a ha
  · rintro x ⟨D, rfl, d1, d2⟩
    exact ⟨D, by rw [am_u3_s, p1 (L := D) (fun a h1 h2 h3 => by rw [d2 a h1, k2 a h3]; exact g2 a h2), if_pos (nI_le (Nat.le_refl p) (by omega))], d1, d2⟩
  rintro D ⟨d1, d2⟩
  exact ⟨D, rfl, by rw [d2 46 (by decide)]; exact C46, d1, fun a h24 h44 h45 h46 => by rw [d2 a h44, k2 a h46, g2 a h45, ak a h24]⟩
