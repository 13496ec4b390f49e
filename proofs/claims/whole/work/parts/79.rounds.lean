/-! rounds of trades -/
theorem it_b2_inv {X E1 E2 Z : Type} {f : X → Option (X ⊕ (E1 × E2))} {k : E1 → E2 → Option Z} {x0 : X} {R : Option Z → Prop} (Inv : Nat → X → Prop) (Post : E1 × E2 → Prop) {n : Nat} (hn : n < 1000000) (hs : ∀ i x, i < n → Inv i x → ∃ y, f x = some (.inl y) ∧ Inv (i + 1) y) (he : ∀ x, Inv n x → ∃ e, f x = some (.inr e) ∧ Post e) (h0 : Inv 0 x0) (hk : ∀ e1 e2, Post (e1, e2) → R (k e1 e2)) : R (am_b2 (am_it am_fu f x0) k) := by
  obtain ⟨⟨e1, e2⟩, h1, h2⟩ := am_it_inv Inv Post hn hs he h0
  rw [h1]; exact hk e1 e2 h2
def stp (I : am_IT) (t w c q r : Nat) (s : Nat × (Nat → Nat)) : Nat × (Nat → Nat) := match trS I t w c q r s.2 with
  | none => s
  | some z => (s.1 + 1, pu (pu s.2 z.1 z.2.2.1) z.2.1 z.2.2.2)
theorem stp_n {I : am_IT} {t w c q r : Nat} {s : Nat × (Nat → Nat)} (h : trS I t w c q r s.2 = none) : stp I t w c q r s = s := by
  unfold stp; rw [h]
theorem stp_y {I : am_IT} {t w c q r : Nat} {s : Nat × (Nat → Nat)} {z : Nat × Nat × Nat × Nat} (h : trS I t w c q r s.2 = some z) : stp I t w c q r s = (s.1 + 1, pu (pu s.2 z.1 z.2.2.1) z.2.1 z.2.2.2) := by
  unfold stp; rw [h]
def rIn (I : am_IT) (t w c q : Nat) : Nat → (Nat × (Nat → Nat)) → (Nat × (Nat → Nat))
  | 0, s => s
  | k + 1, s => stp I t w c q (q + 1 + k) (rIn I t w c q k s)
def rOut (I : am_IT) (t w c p : Nat) : Nat → (Nat × (Nat → Nat)) → (Nat × (Nat → Nat))
  | 0, s => s
  | i + 1, s => rIn I t w c i (p - (i + 1)) (rOut I t w c p i s)
theorem stp_ok {I : am_IT} {t w c q r : Nat} {s : Nat × (Nat → Nat)} (h : ∀ u, u < w → s.2 u < c) : (∀ u, u < w → (stp I t w c q r s).2 u < c) ∧ (stp I t w c q r s).1 ≤ s.1 + 1 := by
  cases hz : trS I t w c q r s.2 with
  | none => rw [stp_n hz]; exact ⟨h, by omega⟩
  | some z =>
    obtain ⟨h1, h2, h3, h4⟩ := trS_in hz
    rw [stp_y hz]
    refine ⟨fun u hu => ?_, Nat.le_refl _⟩
    have := h u hu
    show pu (pu s.2 z.1 z.2.2.1) z.2.1 z.2.2.2 u < c
    unfold pu
    split
    · exact h4
    · split
      · exact h3
      · exact this
theorem rIn_ok {I : am_IT} {t w c q : Nat} {s : Nat × (Nat → Nat)} (h : ∀ u, u < w → s.2 u < c) : ∀ k, (∀ u, u < w → (rIn I t w c q k s).2 u < c) ∧ (rIn I t w c q k s).1 ≤ s.1 + k
  | 0 => ⟨h, Nat.le_refl _⟩
  | k + 1 => by
    obtain ⟨h1, h2⟩ := rIn_ok (q := q) (I := I) (t := t) h k
    obtain ⟨h3, h4⟩ := stp_ok (I := I) (t := t) (q := q) (r := q + 1 + k) h1
    exact ⟨h3, by show (stp I t w c q (q + 1 + k) (rIn I t w c q k s)).1 ≤ _; omega⟩
theorem rOut_ok {I : am_IT} {t w c p : Nat} {s : Nat × (Nat → Nat)} (h : ∀ u, u < w → s.2 u < c) : ∀ i, (∀ u, u < w → (rOut I t w c p i s).2 u < c) ∧ (rOut I t w c p i s).1 ≤ s.1 + i * p
  | 0 => ⟨h, Nat.le_add_right _ _⟩
  | i + 1 => by
    obtain ⟨h1, h2⟩ := rOut_ok (p := p) (I := I) (t := t) h i
    obtain ⟨h3, h4⟩ := rIn_ok (I := I) (t := t) (q := i) h1 (p - (i + 1))
    refine ⟨h3, ?_⟩
    show (rIn I t w c i (p - (i + 1)) (rOut I t w c p i s)).1 ≤ _
    rw [Nat.add_mul]
    omega
theorem RI_pt {b : Bool} {I J : am_IT} (h : sq I J) (hR : RI b I) (hp : ∀ c w, I 1 0 = nI c → I 1 3 = nI w → c ≤ 4 → w ≤ 7 → rPaint c w (J 3) (J 72)) : RI b J := by
  obtain ⟨c, w, p, t, y, d, ln, n, ⟨hb, hs, rpo, rpa, rho, rvi, rtr, rta, rsa, rbe, rne, rde, rlo, rli, rru⟩, rtp, rmi, rke⟩ := hR
  have hb0 := hb
  obtain ⟨b1, b2, b3, b4, b5, b6, b7, b8⟩ := hb0
  have hpt := hp c w hs.1.1 hs.2.2.2.1.1 b2 b3
  have eN : ∀ k j, k = 75 ∨ k = 76 ∨ k = 77 → j < 16 → J k j = I k j := by
    intro k j hk hj
    exact h k j (by
      unfold stc mt
      rcases hk with rfl | rfl | rfl <;> rw [decide_eq_true hj] <;> rfl)
  have eO : ∀ k j, k = 78 ∨ k = 79 → j < 400 → J k j = I k j := by
    intro k j hk hj
    exact h k j (by
      unfold stc mt
      rcases hk with rfl | rfl <;> rw [decide_eq_true hj] <;> rfl)
  refine ⟨c, w, p, t, y, d, ln, n, ⟨hb, ?_, ?_⟩, ?_, ?_, ?_⟩
  · unfold rSc
    rw [sq_c h (k := 1) rfl, sq_c h (k := 11) rfl, sq_c h (k := 15) rfl, h 55 2 rfl, h 55 1 rfl, h 55 13 rfl, h 55 4 rfl, h 55 5 rfl, h 55 8 rfl, h 55 32 rfl, h 55 18 rfl]
    exact hs
  · unfold rRest
    rw [sq_c h (k := 2) rfl, sq_c h (k := 56) rfl, sq_c h (k := 4) rfl, sq_c h (k := 57) rfl, sq_c h (k := 5) rfl, sq_c h (k := 58) rfl, sq_c h (k := 6) rfl, sq_c h (k := 59) rfl, sq_c h (k := 60) rfl, sq_c h (k := 61) rfl, sq_c h (k := 62) rfl, sq_c h (k := 7) rfl, sq_c h (k := 63) rfl, sq_c h (k := 8) rfl, sq_c h (k := 64) rfl, sq_c h (k := 9) rfl, sq_c h (k := 65) rfl, sq_c h (k := 10) rfl, sq_c h (k := 66) rfl, sq_c h (k := 16) rfl, sq_c h (k := 67) rfl, sq_c h (k := 68) rfl, sq_c h (k := 69) rfl, sq_c h (k := 19) rfl, sq_c h (k := 70) rfl, sq_c h (k := 20) rfl, sq_c h (k := 71) rfl, sq_c h (k := 11) rfl, sq_c h (k := 12) rfl, sq_c h (k := 13) rfl, sq_c h (k := 14) rfl]
    refine ⟨rpo, hpt, rho, rvi, rtr, rta, rsa, rbe, rne, rde, rlo, rli, ?_⟩
    exact rRule_sm b8 (fun j hj => eN 75 j (Or.inl rfl) hj) (fun j hj => eN 76 j (Or.inr (Or.inl rfl)) hj) (fun j hj => eN 77 j (Or.inr (Or.inr rfl)) hj) (fun j hj => eO 78 j (Or.inl rfl) hj) (fun j hj => eO 79 j (Or.inr rfl) hj) rru
  · unfold rTape
    rw [h 0 9 rfl, h 55 26 rfl, sq_c h (k := 54) rfl, sq_c h (k := 73) rfl]
    exact rtp
  · unfold rMisc
    rw [h 0 10 rfl, h 0 11 rfl, h 55 44 rfl, h 55 45 rfl, h 55 49 rfl, h 55 65 rfl, sq_c h (k := 74) rfl]
    exact rmi
  · intro hbt
    obtain ⟨c', w', p', t', y', d', ln', hk⟩ := rke hbt
    refine ⟨c', w', p', t', y', d', ln', ?_⟩
    have e1 : ∀ k, k < 22 → 1 ≤ k → kT J k = kT I k := by
      intro k hk2 hk1
      unfold kT
      exact sq_c h ((by decide : ∀ k, k < 22 → 1 ≤ k → (mtC (93 + k) && (!(93 + k == 3) && !(93 + k == 72))) = true) k hk2 hk1)
    have e2 : kM J = kM I := by
      unfold kM
      rw [sq_c h (k := 93) rfl]
    rw [e2]
    unfold rt rSc rRest at hk ⊢
    rw [e1 1 (by decide) (by decide), e1 2 (by decide) (by decide), e1 3 (by decide) (by decide), e1 4 (by decide) (by decide), e1 5 (by decide) (by decide), e1 6 (by decide) (by decide), e1 7 (by decide) (by decide), e1 8 (by decide) (by decide), e1 9 (by decide) (by decide), e1 10 (by decide) (by decide), e1 11 (by decide) (by decide), e1 12 (by decide) (by decide), e1 13 (by decide) (by decide), e1 14 (by decide) (by decide), e1 15 (by decide) (by decide), e1 16 (by decide) (by decide), e1 19 (by decide) (by decide), e1 20 (by decide) (by decide)]
    exact hk
theorem e_rd_3 {I J : am_IT} {c w p t y d ln : Nat} {P : Nat → Nat} (X : cx I c w p t y d ln) (S : sq I J) (hy : ∀ h u, h < 8 → u < 7 → J 24 (7 * h + u) = cl0 (tS I h u t)) (hP : ∀ u, u < w → J 3 u = nI (P u)) (hPc : ∀ u, u < w → P u < c) :
    ∃ K, F_X10_round_36_3 J = some (nI (rOut I t w c p p (0, P)).1, K) ∧ (∀ u, u < w → K 3 u = nI ((rOut I t w c p p (0, P)).2 u)) ∧ ∀ k, k ≠ 3 → k ≠ 38 → k ≠ 39 → K k = J k := by
  have b4 : p ≤ 7 := X.1.2.2.2.1
  have SJ : ∀ {L : am_IT}, (∀ k, k ≠ 3 → k ≠ 38 → k ≠ 39 → L k = J k) → sq I L := fun {L} h a m ma => by
    rw [h a ((stc_ne ma).1) (st_ne (fun _ => rfl) ma) (st_ne (fun _ => rfl) ma)]; exact S a m ma
  have p1 : ∀ {L : am_IT}, (∀ k, k ≠ 3 → k ≠ 38 → k ≠ 39 → L k = J k) → L 1 4 = nI p := fun {L} h => by rw [sq_c (SJ h) (k := 1) rfl]; exact X.2.1.2.2.2.2.1.1
  unfold F_X10_round_36_3
  refine it_b2_inv (R := fun z => ∃ K : am_IT, z = some (nI (rOut I t w c p p (0, P)).1, K) ∧ (∀ u, u < w → K 3 u = nI ((rOut I t w c p p (0, P)).2 u)) ∧ ∀ k, k ≠ 3 → k ≠ 38 → k ≠ 39 → K k = J k)
    (fun i x => ∃ J' : am_IT, x = (nI (rOut I t w c p i (0, P)).1, nI i, J') ∧ (∀ u, u < w → J' 3 u = nI ((rOut I t w c p i (0, P)).2 u)) ∧ ∀ k, k ≠ 3 → k ≠ 38 → k ≠ 39 → J' k = J k)
    (fun x => ∃ J' : am_IT, x = (nI (rOut I t w c p p (0, P)).1, J') ∧ (∀ u, u < w → J' 3 u = nI ((rOut I t w c p p (0, P)).2 u)) ∧ ∀ k, k ≠ 3 → k ≠ 38 → k ≠ 39 → J' k = J k) (n := p) (by omega) ?_ ?_ ⟨J, rfl, hP, fun _ _ _ _ => rfl⟩ ?_
  · rintro i x hi ⟨J', rfl, j1, j2⟩
    have o1 := (rOut_ok (I := I) (t := t) (p := p) (s := (0, P)) hPc i).1
    rw [am_u3_s, p1 j2, if_neg (nI_ge hi (by omega)), am_let_s, nI_1]
    refine it_b2_inv (R := fun (z : Option ((Int32 × Int32 × am_IT) ⊕ (Int32 × am_IT))) => ∃ y : Int32 × Int32 × am_IT, z = some (.inl y) ∧ ∃ J' : am_IT, y = (nI (rOut I t w c p (i + 1) (0, P)).1, nI (i + 1), J') ∧ (∀ u, u < w → J' 3 u = nI ((rOut I t w c p (i + 1) (0, P)).2 u)) ∧ ∀ k, k ≠ 3 → k ≠ 38 → k ≠ 39 → J' k = J k)
      (fun k x => ∃ L : am_IT, x = (nI (rIn I t w c i k (rOut I t w c p i (0, P))).1, nI (i + 1 + k), L) ∧ (∀ u, u < w → L 3 u = nI ((rIn I t w c i k (rOut I t w c p i (0, P))).2 u)) ∧ ∀ k, k ≠ 3 → k ≠ 38 → k ≠ 39 → L k = J k)
      (fun x => ∃ L : am_IT, x = (nI (rOut I t w c p (i + 1) (0, P)).1, L) ∧ (∀ u, u < w → L 3 u = nI ((rOut I t w c p (i + 1) (0, P)).2 u)) ∧ ∀ k, k ≠ 3 → k ≠ 38 → k ≠ 39 → L k = J k) (n := p - (i + 1)) (by omega) ?_ ?_ ⟨J', rfl, j1, j2⟩ ?_
    · rintro k x hk ⟨L, rfl, l1, l2⟩
      have o2 := (rIn_ok (I := I) (t := t) (q := i) o1 k).1
      obtain ⟨K, eK, kk⟩ := e_ht_3 (q := i) (r := i + 1 + k) X (SJ l2) (fun h u hh hu => by rw [l2 24 (by decide) (by decide) (by decide)]; exact hy h u hh hu) (P := (rIn I t w c i k (rOut I t w c p i (0, P))).2) (fun u hu => ⟨l1 u hu, o2 u hu⟩) hi (by omega)
      have kJ : ∀ a, a ≠ 3 → a ≠ 38 → a ≠ 39 → K a = J a := fun a h1 h2 h3 => by rw [kk a h2 h3]; exact l2 a h1 h2 h3
      rw [am_u3_s, p1 l2, if_neg (nI_ge (show i + 1 + k < p by omega) (by omega)), eK]
      cases hz : trS I t w c i (i + 1 + k) (rIn I t w c i k (rOut I t w c p i (0, P))).2 with
      | none =>
        have es : rIn I t w c i (k + 1) (rOut I t w c p i (0, P)) = rIn I t w c i k (rOut I t w c p i (0, P)) := stp_n hz
        refine ⟨_, by rw [fe_n, am_b2_s, if_pos rfl, am_let_s, nI_1], K, by rw [es]; rfl, ?_, kJ⟩
        intro u hu
        rw [es, kk 3 (by decide) (by decide)]; exact l1 u hu
      | some z =>
        obtain ⟨h1, h2, h3, h4⟩ := trS_in hz
        have es : rIn I t w c i (k + 1) (rOut I t w c p i (0, P)) = ((rIn I t w c i k (rOut I t w c p i (0, P))).1 + 1, pu (pu (rIn I t w c i k (rOut I t w c p i (0, P))).2 z.1 z.2.2.1) z.2.1 z.2.2.2) := stp_y hz
        refine ⟨_, by rw [fe_s, am_b2_s, if_neg (by decide), am_let_s, am_let_s, nI_1, nI_1], pt3 K z, by rw [es]; rfl, ?_, ?_⟩
        · intro u hu
          rw [es]
          show (up2 (up2 K 3 z.1 (nI z.2.2.1)) 3 z.2.1 (nI z.2.2.2)) 3 u = nI (pu (pu _ z.1 z.2.2.1) z.2.1 z.2.2.2 u)
          rw [up2_r, up2_r, kk 3 (by decide) (by decide), l1 u hu]
          unfold pu
          by_cases z1 : u = z.2.1
          · rw [if_pos z1, if_pos z1]
          · rw [if_neg z1, if_neg z1]
            by_cases z2 : u = z.1
            · rw [if_pos z2, if_pos z2]
            · rw [if_neg z2, if_neg z2]
        · intro a a1 a2 a3
          show (up2 (up2 K 3 z.1 (nI z.2.2.1)) 3 z.2.1 (nI z.2.2.2)) a = _
          rw [up2_k _ _ a1, up2_k _ _ a1]; exact kJ a a1 a2 a3
    · rintro x ⟨L, rfl, l1, l2⟩
      exact ⟨_, by rw [am_u3_s, p1 l2, if_pos (nI_le (show p ≤ i + 1 + (p - (i + 1)) by omega) (by omega))] <;> rfl, L, rfl, l1, l2⟩
    · rintro e1 e2 ⟨L, hx, l1, l2⟩
      have h1 : e1 = nI (rOut I t w c p (i + 1) (0, P)).1 := congrArg (fun z => z.1) hx
      have h2 : e2 = L := congrArg (fun z => z.2) hx
      rw [h1, h2]
      exact ⟨_, by rw [am_let_s], L, rfl, l1, l2⟩
  · rintro x ⟨J', rfl, j1, j2⟩
    exact ⟨_, by rw [am_u3_s, p1 j2, if_pos (nI_le (Nat.le_refl p) (by omega))], J', rfl, j1, j2⟩
  · rintro e1 e2 ⟨L, hx, l1, l2⟩
    have h1 : e1 = nI (rOut I t w c p p (0, P)).1 := congrArg (fun z => z.1) hx
    have h2 : e2 = L := congrArg (fun z => z.2) hx
    rw [h1, h2]
    exact ⟨L, rfl, l1, l2⟩
theorem e_rd_37 {I J : am_IT} {c w p t y d ln : Nat} {P : Nat → Nat} (X : cx I c w p t y d ln) (S : sq I J) (hy : ∀ h u, h < 8 → u < 7 → J 24 (7 * h + u) = cl0 (tS I h u t)) (hP : ∀ u, u < w → J 37 u = nI (P u)) (hPc : ∀ u, u < w → P u < c) :
    ∃ K, F_X10_round_36_37 J = some (nI (rOut I t w c p p (0, P)).1, K) ∧ (∀ u, u < w → K 37 u = nI ((rOut I t w c p p (0, P)).2 u)) ∧ ∀ k, k ≠ 37 → k ≠ 38 → k ≠ 39 → K k = J k := by
  have b4 : p ≤ 7 := X.1.2.2.2.1
  have SJ : ∀ {L : am_IT}, (∀ k, k ≠ 37 → k ≠ 38 → k ≠ 39 → L k = J k) → sq I L := fun {L} h a m ma => by
    rw [h a (st_ne (fun _ => rfl) ma) (st_ne (fun _ => rfl) ma) (st_ne (fun _ => rfl) ma)]; exact S a m ma
  have p1 : ∀ {L : am_IT}, (∀ k, k ≠ 37 → k ≠ 38 → k ≠ 39 → L k = J k) → L 1 4 = nI p := fun {L} h => by rw [sq_c (SJ h) (k := 1) rfl]; exact X.2.1.2.2.2.2.1.1
  unfold F_X10_round_36_37
  refine it_b2_inv (R := fun z => ∃ K : am_IT, z = some (nI (rOut I t w c p p (0, P)).1, K) ∧ (∀ u, u < w → K 37 u = nI ((rOut I t w c p p (0, P)).2 u)) ∧ ∀ k, k ≠ 37 → k ≠ 38 → k ≠ 39 → K k = J k)
    (fun i x => ∃ J' : am_IT, x = (nI (rOut I t w c p i (0, P)).1, nI i, J') ∧ (∀ u, u < w → J' 37 u = nI ((rOut I t w c p i (0, P)).2 u)) ∧ ∀ k, k ≠ 37 → k ≠ 38 → k ≠ 39 → J' k = J k)
    (fun x => ∃ J' : am_IT, x = (nI (rOut I t w c p p (0, P)).1, J') ∧ (∀ u, u < w → J' 37 u = nI ((rOut I t w c p p (0, P)).2 u)) ∧ ∀ k, k ≠ 37 → k ≠ 38 → k ≠ 39 → J' k = J k) (n := p) (by omega) ?_ ?_ ⟨J, rfl, hP, fun _ _ _ _ => rfl⟩ ?_
  · rintro i x hi ⟨J', rfl, j1, j2⟩
    have o1 := (rOut_ok (I := I) (t := t) (p := p) (s := (0, P)) hPc i).1
    rw [am_u3_s, p1 j2, if_neg (nI_ge hi (by omega)), am_let_s, nI_1]
    refine it_b2_inv (R := fun (z : Option ((Int32 × Int32 × am_IT) ⊕ (Int32 × am_IT))) => ∃ y : Int32 × Int32 × am_IT, z = some (.inl y) ∧ ∃ J' : am_IT, y = (nI (rOut I t w c p (i + 1) (0, P)).1, nI (i + 1), J') ∧ (∀ u, u < w → J' 37 u = nI ((rOut I t w c p (i + 1) (0, P)).2 u)) ∧ ∀ k, k ≠ 37 → k ≠ 38 → k ≠ 39 → J' k = J k)
      (fun k x => ∃ L : am_IT, x = (nI (rIn I t w c i k (rOut I t w c p i (0, P))).1, nI (i + 1 + k), L) ∧ (∀ u, u < w → L 37 u = nI ((rIn I t w c i k (rOut I t w c p i (0, P))).2 u)) ∧ ∀ k, k ≠ 37 → k ≠ 38 → k ≠ 39 → L k = J k)
      (fun x => ∃ L : am_IT, x = (nI (rOut I t w c p (i + 1) (0, P)).1, L) ∧ (∀ u, u < w → L 37 u = nI ((rOut I t w c p (i + 1) (0, P)).2 u)) ∧ ∀ k, k ≠ 37 → k ≠ 38 → k ≠ 39 → L k = J k) (n := p - (i + 1)) (by omega) ?_ ?_ ⟨J', rfl, j1, j2⟩ ?_
    · rintro k x hk ⟨L, rfl, l1, l2⟩
      have o2 := (rIn_ok (I := I) (t := t) (q := i) o1 k).1
      obtain ⟨K, eK, kk⟩ := e_ht_37 (q := i) (r := i + 1 + k) X (SJ l2) (fun h u hh hu => by rw [l2 24 (by decide) (by decide) (by decide)]; exact hy h u hh hu) (P := (rIn I t w c i k (rOut I t w c p i (0, P))).2) (fun u hu => ⟨l1 u hu, o2 u hu⟩) hi (by omega)
      have kJ : ∀ a, a ≠ 37 → a ≠ 38 → a ≠ 39 → K a = J a := fun a h1 h2 h3 => by rw [kk a h2 h3]; exact l2 a h1 h2 h3
      rw [am_u3_s, p1 l2, if_neg (nI_ge (show i + 1 + k < p by omega) (by omega)), eK]
      cases hz : trS I t w c i (i + 1 + k) (rIn I t w c i k (rOut I t w c p i (0, P))).2 with
      | none =>
        have es : rIn I t w c i (k + 1) (rOut I t w c p i (0, P)) = rIn I t w c i k (rOut I t w c p i (0, P)) := stp_n hz
        refine ⟨_, by rw [fe_n, am_b2_s, if_pos rfl, am_let_s, nI_1], K, by rw [es]; rfl, ?_, kJ⟩
        intro u hu
        rw [es, kk 37 (by decide) (by decide)]; exact l1 u hu
      | some z =>
        obtain ⟨h1, h2, h3, h4⟩ := trS_in hz
        have es : rIn I t w c i (k + 1) (rOut I t w c p i (0, P)) = ((rIn I t w c i k (rOut I t w c p i (0, P))).1 + 1, pu (pu (rIn I t w c i k (rOut I t w c p i (0, P))).2 z.1 z.2.2.1) z.2.1 z.2.2.2) := stp_y hz
        refine ⟨_, by rw [fe_s, am_b2_s, if_neg (by decide), am_let_s, am_let_s, nI_1, nI_1], pt37 K z, by rw [es]; rfl, ?_, ?_⟩
        · intro u hu
          rw [es]
          show (up2 (up2 K 37 z.1 (nI z.2.2.1)) 37 z.2.1 (nI z.2.2.2)) 37 u = nI (pu (pu _ z.1 z.2.2.1) z.2.1 z.2.2.2 u)
          rw [up2_r, up2_r, kk 37 (by decide) (by decide), l1 u hu]
          unfold pu
          by_cases z1 : u = z.2.1
          · rw [if_pos z1, if_pos z1]
          · rw [if_neg z1, if_neg z1]
            by_cases z2 : u = z.1
            · rw [if_pos z2, if_pos z2]
            · rw [if_neg z2, if_neg z2]
        · intro a a1 a2 a3
          show (up2 (up2 K 37 z.1 (nI z.2.2.1)) 37 z.2.1 (nI z.2.2.2)) a = _
          rw [up2_k _ _ a1, up2_k _ _ a1]; exact kJ a a1 a2 a3
    · rintro x ⟨L, rfl, l1, l2⟩
      exact ⟨_, by rw [am_u3_s, p1 l2, if_pos (nI_le (show p ≤ i + 1 + (p - (i + 1)) by omega) (by omega))] <;> rfl, L, rfl, l1, l2⟩
    · rintro e1 e2 ⟨L, hx, l1, l2⟩
      have h1 : e1 = nI (rOut I t w c p (i + 1) (0, P)).1 := congrArg (fun z => z.1) hx
      have h2 : e2 = L := congrArg (fun z => z.2) hx
      rw [h1, h2]
      exact ⟨_, by rw [am_let_s], L, rfl, l1, l2⟩
  · rintro x ⟨J', rfl, j1, j2⟩
    exact ⟨_, by rw [am_u3_s, p1 j2, if_pos (nI_le (Nat.le_refl p) (by omega))], J', rfl, j1, j2⟩
  · rintro e1 e2 ⟨L, hx, l1, l2⟩
    have h1 : e1 = nI (rOut I t w c p p (0, P)).1 := congrArg (fun z => z.1) hx
    have h2 : e2 = L := congrArg (fun z => z.2) hx
    rw [h1, h2]
    exact ⟨L, rfl, l1, l2⟩
