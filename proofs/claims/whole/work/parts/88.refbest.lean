/-! the reference's best painting -/
theorem e_upd {C : am_IT} {w p : Nat} (hw : w ≤ 7) (hp : p ≤ 7) (w2 : C 55 4 = nI w) (p2 : C 55 5 = nI p) :
    ∃ D, am_b1 (am_it am_fu (am_u2 (fun (l5_74 : Int32) (I_75 : am_IT) => if (I_75 55 5) ≤ l5_74 then (some (.inr (I_75))) else (if am_ix l5_74 7 = true then (if am_ix l5_74 7 = true then (am_let (up2 I_75 86 l5_74.toNatClampNeg (I_75 85 l5_74.toNatClampNeg)) (fun (I_85 : am_IT) => am_let (l5_74 + (1 : Int32)) (fun (l5_86 : Int32) => some (.inl (l5_86, I_85))))) else none) else none))) ((0 : Int32), C)) (fun (I_76 : am_IT) => am_b1 (am_it am_fu (am_u2 (fun (l5_87 : Int32) (I_88 : am_IT) => if (I_88 55 4) ≤ l5_87 then (some (.inr (I_88))) else (if am_ix ((21 : Int32) + l5_87) 35 = true then (if am_ix ((14 : Int32) + l5_87) 35 = true then (am_let (up2 I_88 72 ((14 : Int32) + l5_87).toNatClampNeg (I_88 72 ((21 : Int32) + l5_87).toNatClampNeg)) (fun (I_98 : am_IT) => am_let (l5_87 + (1 : Int32)) (fun (l5_99 : Int32) => some (.inl (l5_99, I_98))))) else none) else none))) ((0 : Int32), I_76)) (fun (I_89 : am_IT) => some (I_89))) = some D ∧
      (∀ q, q < p → D 86 q = C 85 q) ∧ (∀ u, u < w → D 72 (14 + u) = C 72 (21 + u)) ∧ (∀ j, j < 14 ∨ 21 ≤ j → D 72 j = C 72 j) ∧ ∀ a, a ≠ 86 → a ≠ 72 → D a = C a := by
  refine it_b1_inv (R := fun z => ∃ D : am_IT, z = some D ∧ (∀ q, q < p → D 86 q = C 85 q) ∧ (∀ u, u < w → D 72 (14 + u) = C 72 (21 + u)) ∧ (∀ j, j < 14 ∨ 21 ≤ j → D 72 j = C 72 j) ∧ ∀ a, a ≠ 86 → a ≠ 72 → D a = C a)
    (fun i x => ∃ D : am_IT, x = (nI i, D) ∧ (∀ q, q < i → D 86 q = C 85 q) ∧ ∀ a, a ≠ 86 → D a = C a)
    (fun (D : am_IT) => (∀ q, q < p → D 86 q = C 85 q) ∧ ∀ a, a ≠ 86 → D a = C a) (n := p) (by omega) ?_ ?_ ⟨C, by rw [nI_0], fun q hq => absurd hq (Nat.not_lt_zero q), fun _ _ => rfl⟩ ?_
  · rintro i x hi ⟨D, rfl, d1, d2⟩
    refine ⟨(nI (i + 1), up2 D 86 i (C 85 i)), ?_, _, rfl, ?_, ?_⟩
    · rw [am_u2_s, d2 55 (by decide), p2, if_neg (nI_ge hi (by omega)), if_pos (am_ix_nI (by omega) (by decide)), if_pos (am_ix_nI (by omega) (by decide)), am_let_s, am_let_s, nI_clamp (by omega), d2 85 (by decide), nI_1]
    · intro q hq
      by_cases z : q = i
      · subst z; exact up2_s _ _ _ _
      · rw [up2_j _ _ z]; exact d1 q (by omega)
    · intro a ha
      rw [up2_k _ _ ha]; exact d2 a ha
  · rintro x ⟨D, rfl, d1, d2⟩
    exact ⟨D, by rw [am_u2_s, d2 55 (by decide), p2, if_pos (nI_le (Nat.le_refl p) (by omega))], d1, d2⟩
  rintro D ⟨d1, d2⟩
  refine it_b1_inv (R := fun z => ∃ D : am_IT, z = some D ∧ (∀ q, q < p → D 86 q = C 85 q) ∧ (∀ u, u < w → D 72 (14 + u) = C 72 (21 + u)) ∧ (∀ j, j < 14 ∨ 21 ≤ j → D 72 j = C 72 j) ∧ ∀ a, a ≠ 86 → a ≠ 72 → D a = C a)
    (fun i x => ∃ E : am_IT, x = (nI i, E) ∧ (∀ u, u < i → E 72 (14 + u) = C 72 (21 + u)) ∧ (∀ j, j < 14 ∨ 21 ≤ j → E 72 j = C 72 j) ∧ ∀ a, a ≠ 72 → E a = D a)
    (fun (E : am_IT) => (∀ u, u < w → E 72 (14 + u) = C 72 (21 + u)) ∧ (∀ j, j < 14 ∨ 21 ≤ j → E 72 j = C 72 j) ∧ ∀ a, a ≠ 72 → E a = D a) (n := w) (by omega) ?_ ?_ ⟨D, by rw [nI_0], fun q hq => absurd hq (Nat.not_lt_zero q), fun j _ => by rw [d2 72 (by decide)], fun _ _ => rfl⟩ ?_
  · rintro i x hi ⟨E, rfl, e1, e2, e3⟩
    refine ⟨(nI (i + 1), up2 E 72 (14 + i) (C 72 (21 + i))), ?_, _, rfl, ?_, ?_, ?_⟩
    · rw [am_u2_s, e3 55 (by decide), d2 55 (by decide), w2, if_neg (nI_ge hi (by omega)), show (21 : Int32) + nI i = nI (21 + i) from nI_add 21 i, show (14 : Int32) + nI i = nI (14 + i) from nI_add 14 i, if_pos (am_ix_nI (by omega) (by decide)), if_pos (am_ix_nI (by omega) (by decide)), am_let_s, am_let_s, nI_clamp (by omega), nI_clamp (by omega), e2 (21 + i) (by omega), nI_1]
    · intro q hq
      by_cases z : q = i
      · subst z; exact up2_s _ _ _ _
      · rw [up2_j _ _ (by omega)]; exact e1 q (by omega)
    · intro j hj
      rw [up2_j _ _ (by omega)]; exact e2 j hj
    · intro a ha
      rw [up2_k _ _ ha]; exact e3 a ha
  · rintro x ⟨E, rfl, e1, e2, e3⟩
    exact ⟨E, by rw [am_u2_s, e3 55 (by decide), d2 55 (by decide), w2, if_pos (nI_le (Nat.le_refl w) (by omega))], e1, e2, e3⟩
  rintro E ⟨e1, e2, e3⟩
  exact ⟨E, rfl, fun q hq => by rw [e3 86 (by decide)]; exact d1 q hq, e1, e2, fun a h86 h72 => by rw [e3 a h72]; exact d2 a h86⟩
def fbI (I J : am_IT) (t w c p n : Nat) (B : am_IT) : Prop := sq I B ∧ B 3 = J 3 ∧ (∀ j, j < 14 → B 72 j = J 72 j) ∧ (∀ h u, h < 8 → u < w → B 83 (7 * h + u) = cl0 (tS I h u t)) ∧ (n < c ^ w → ∀ u, u < w → B 72 (21 + u) = nI (dg c w n u)) ∧
  (0 < n → B 55 52 = mxv (fB I t w c p 100) n ∧ B 55 53 = ps (I 2) (dg c w (mxi (fB I t w c p 100) n)) w ∧ (∀ q, q < p → B 86 q = VV I t w q (dg c w (mxi (fB I t w c p 100) n))) ∧ (∀ u, u < w → B 72 (14 + u) = nI (dg c w (mxi (fB I t w c p 100) n) u)) ∧ ∀ q, q < p → B 87 q = mxv (fB I t w c p q) n)
theorem fB_q {I : am_IT} {t w c p q n : Nat} (hp : p ≤ 7) (hq : q < p) : fB I t w c p q n = (-ps (I 2) (dg c w n) w + SV I t w 100 p (dg c w n)) - VV I t w q (dg c w n) := by
  rw [fB_SV]
  have e : SV I t w q p (dg c w n) = SV I t w 100 p (dg c w n) - VV I t w q (dg c w n) := so_1 p hp hq
  rw [e]; grind
theorem fB_n {I : am_IT} {t w c p n : Nat} : fB I t w c p 100 n = -ps (I 2) (dg c w n) w + SV I t w 100 p (dg c w n) := by
  rw [fB_SV]; grind
theorem e_fb {I J : am_IT} {c w p t y d ln : Nat} (X : cx I c w p t y d ln) (S : sq I J) : ∃ K, F_X12_findsBest_55 J = some K ∧ fbI I J t w c p (c ^ w) K := by
  have c2 : 2 ≤ c := X.1.1
  have c4 : c ≤ 4 := X.1.2.1
  have b3 : w ≤ 7 := X.1.2.2.1
  have b4 : p ≤ 7 := X.1.2.2.2.1
  have hc0 : 0 < c := by omega
  obtain ⟨hN0, hN⟩ := c7 (w := w) hc0 c4 b3
  have rpo : rPot (I 2) (I 56) := X.2.2.1
  have n72 : ∀ j, stc 72 j = false := fun j => by unfold stc; simp
  have w2 : ∀ {L : am_IT}, sq I L → L 55 4 = nI w := fun {L} h => by rw [h 55 4 rfl]; exact X.2.1.2.2.2.1.2
  have p2 : ∀ {L : am_IT}, sq I L → L 55 5 = nI p := fun {L} h => by rw [h 55 5 rfl]; exact X.2.1.2.2.2.2.1.2
  have cc2 : ∀ {L : am_IT}, sq I L → L 55 2 = nI c := fun {L} h => by rw [h 55 2 rfl]; exact X.2.1.1.2
  obtain ⟨A, eA, ya, ak⟩ := fy X S
  have SA : sq I A := sq_x S (fun _ => rfl) ak
  unfold F_X12_findsBest_55
  rw [eA, am_b1_s]
  refine it_b1_inv (R := fun z => ∃ K : am_IT, z = some K ∧ fbI I J t w c p (c ^ w) K)
    (fun i x => ∃ B : am_IT, x = (nI i, B) ∧ (∀ u, u < i → B 72 (21 + u) = 0) ∧ (∀ j, j < 21 → B 72 j = A 72 j) ∧ ∀ a, a ≠ 72 → B a = A a)
    (fun (B : am_IT) => (∀ u, u < w → B 72 (21 + u) = 0) ∧ (∀ j, j < 21 → B 72 j = A 72 j) ∧ ∀ a, a ≠ 72 → B a = A a) (n := w) (by omega) ?_ ?_ ⟨A, by rw [nI_0], fun u hu => absurd hu (Nat.not_lt_zero u), fun _ _ => rfl, fun _ _ => rfl⟩ ?_
  · rintro i x hi ⟨B, rfl, q1, q2, q3⟩
    refine ⟨(nI (i + 1), up2 B 72 (21 + i) 0), ?_, _, rfl, ?_, ?_, ?_⟩
    · rw [am_u2_s, w2 (sq_x SA n72 q3), if_neg (nI_ge hi (by omega)), show (21 : Int32) + nI i = nI (21 + i) from nI_add 21 i, if_pos (am_ix_nI (by omega) (by decide)), am_let_s, am_let_s, nI_clamp (by omega), nI_1]
    · intro u hu
      by_cases z : u = i
      · subst z; exact up2_s _ _ _ _
      · rw [up2_j _ _ (by omega)]; exact q1 u (by omega)
    · intro j hj
      rw [up2_j _ _ (by omega)]; exact q2 j hj
    · intro a ha
      rw [up2_k _ _ ha]; exact q3 a ha
  · rintro x ⟨B, rfl, q1, q2, q3⟩
    exact ⟨B, by rw [am_u2_s, w2 (sq_x SA n72 q3), if_pos (nI_le (Nat.le_refl w) (by omega))], q1, q2, q3⟩
  rintro B0 ⟨q1, q2, q3⟩
  refine it_b1_inv (R := fun z => ∃ K : am_IT, z = some K ∧ fbI I J t w c p (c ^ w) K)
    (fun n x => ∃ B : am_IT, x = ((if n = 0 then 1 else 0 : Int32), (if n < c ^ w then 1 else 0 : Int32), B) ∧ fbI I J t w c p n B)
    (fun (B : am_IT) => fbI I J t w c p (c ^ w) B) (n := c ^ w) (by omega) ?_ ?_ ⟨B0, by rw [if_pos rfl, if_pos hN0], sq_x SA n72 q3, by rw [q3 3 (by decide), ak 3 (by decide)], fun j hj => by rw [q2 j (by omega), ak 72 (by decide)], fun h u hh hu => by rw [q3 83 (by decide)]; exact ya h u hh hu, fun _ u hu => by
      rw [q1 u hu]
      unfold dg
      rw [Nat.zero_div, Nat.zero_mod]; rfl, fun h => absurd h (Nat.lt_irrefl 0)⟩ (fun K h => ⟨K, rfl, h⟩)
  · rintro n x hn ⟨B, rfl, sB, B3, B72, By, Bd, Bm⟩
    have hl1 : ((if n = 0 then 1 else 0 : Int32) = 0) ↔ n ≠ 0 := by
      by_cases z : n = 0
      · rw [if_pos z]; exact ⟨fun h => absurd h (by decide), fun h => absurd z h⟩
      · rw [if_neg z]; exact ⟨fun _ => z, fun _ => rfl⟩
    generalize (if n = 0 then 1 else 0 : Int32) = l1 at hl1
    have hd4 : ∀ u, dg c w n u < c := fun u => dg_lt hc0
    have Bd' := Bd hn
    rw [am_u3_s, if_pos hn, if_neg (show ¬ (1 : Int32) = 0 by decide), show F_X12_potsOf_55 B (21 : Int32) = _ from e_po (off := 21) (pot := I 2) (P := dg c w n) b3 c4 (by decide) (w2 sB) (cc2 sB) (fun u hu => ⟨Bd' u hu, hd4 u⟩) (fun k hk => by rw [sq_c sB (k := 56) rfl]; exact (rpo k hk).1.symm), am_b1_s, am_let_s]
    have fin : ∀ D : am_IT, sq I D → D 3 = J 3 → (∀ j, j < 14 → D 72 j = J 72 j) → (∀ h u, h < 8 → u < w → D 83 (7 * h + u) = cl0 (tS I h u t)) → (∀ u, u < w → D 72 (21 + u) = nI (dg c w n u)) → D 55 52 = mxv (fB I t w c p 100) (n + 1) → D 55 53 = ps (I 2) (dg c w (mxi (fB I t w c p 100) (n + 1))) w → (∀ q, q < p → D 86 q = VV I t w q (dg c w (mxi (fB I t w c p 100) (n + 1)))) → (∀ u, u < w → D 72 (14 + u) = nI (dg c w (mxi (fB I t w c p 100) (n + 1)) u)) → (∀ q, q < p → D 87 q = mxv (fB I t w c p q) (n + 1)) →
        ∃ y, am_b2 (F_X12_triesNext_55 D) (fun (r_130 : Int32) (I_131 : am_IT) => (some (.inl ((0 : Int32), r_130, I_131)) : Option ((Int32 × Int32 × am_IT) ⊕ am_IT))) = some (.inl y) ∧ ∃ B : am_IT, y = ((if n + 1 = 0 then 1 else 0 : Int32), (if n + 1 < c ^ w then 1 else 0 : Int32), B) ∧ fbI I J t w c p (n + 1) B := by
      intro D sD D3 D72 Dy Dd D52 D53 D86 D14 D87
      obtain ⟨E, eE, e1, e2, e3⟩ := e_tn c2 c4 b3 (w2 sD) (cc2 sD) hn Dd
      refine ⟨_, by rw [eE, am_b2_s], E, by rw [if_neg (Nat.succ_ne_zero n)], sq_x sD n72 e2, ?_, ?_, ?_, e1, fun _ => ⟨?_, ?_, ?_, ?_, ?_⟩⟩
      · rw [e2 3 (by decide)]; exact D3
      · intro j hj
        rw [e3 j (by omega)]; exact D72 j hj
      · intro h u hh hu
        rw [e2 83 (by decide)]; exact Dy h u hh hu
      · rw [e2 55 (by decide)]; exact D52
      · rw [e2 55 (by decide)]; exact D53
      · intro q hq
        rw [e2 86 (by decide)]; exact D86 q hq
      · intro u hu
        rw [e3 (14 + u) (by omega)]; exact D14 u hu
      · intro q hq
        rw [e2 87 (by decide)]; exact D87 q hq
    refine it_b2_inv (R := fun (z : Option ((Int32 × Int32 × am_IT) ⊕ am_IT)) => ∃ y : Int32 × Int32 × am_IT, z = some (.inl y) ∧ ∃ B : am_IT, y = ((if n + 1 = 0 then 1 else 0 : Int32), (if n + 1 < c ^ w then 1 else 0 : Int32), B) ∧ fbI I J t w c p (n + 1) B)
      (fun q x => ∃ L : am_IT, x = (-ps (I 2) (dg c w n) w + SV I t w 100 q (dg c w n), nI q, L) ∧ (∀ r, r < q → L 85 r = VV I t w r (dg c w n)) ∧ ∀ a, a ≠ 85 → L a = B a)
      (fun x => ∃ L : am_IT, x = (-ps (I 2) (dg c w n) w + SV I t w 100 p (dg c w n), L) ∧ (∀ r, r < p → L 85 r = VV I t w r (dg c w n)) ∧ ∀ a, a ≠ 85 → L a = B a) (n := p) (by omega) ?_ ?_ ⟨B, by rw [nI_0]; exact congrArg (fun z => (z, (0 : Int32), B)) (Int32.add_zero _).symm, fun r hr => absurd hr (Nat.not_lt_zero r), fun _ _ => rfl⟩ ?_
    · rintro q x hq ⟨L, rfl, g1, g2⟩
      have sL : sq I L := sq_x sB (fun _ => rfl) g2
      have eW := mT X sL (fun h u hh hu => by rw [g2 83 (by decide)]; exact By h u hh hu) (off := 21) (by decide) (P := dg c w n) (fun u hu => by
        rw [g2 72 (by decide)]
        exact ⟨Bd' u hu, Nat.lt_of_lt_of_le (hd4 u) c4⟩) hq
      refine ⟨(-ps (I 2) (dg c w n) w + SV I t w 100 (q + 1) (dg c w n), nI (q + 1), up2 L 85 q (VV I t w q (dg c w n))), ?_, _, rfl, ?_, ?_⟩
      · have e1 : SV I t w 100 (q + 1) (dg c w n) = SV I t w 100 q (dg c w n) + VV I t w q (dg c w n) := if_neg (by omega)
        rw [am_u3_s, p2 sL, if_neg (nI_ge hq (by omega)), show F_X12_worthOf_55 L (nI q) (21 : Int32) = some (VV I t w q (dg c w n)) from eW, am_b1_s, if_pos (am_ix_nI (by omega) (by decide)), am_let_s, if_pos (am_ix_nI (by omega) (by decide)), nI_clamp (by omega), up2_s, am_let_s, am_let_s, nI_1, e1, Int32.add_assoc]
      · intro r hr
        by_cases z : r = q
        · subst z; exact up2_s _ _ _ _
        · rw [up2_j _ _ z]; exact g1 r (by omega)
      · intro a ha
        rw [up2_k _ _ ha]; exact g2 a ha
    · rintro x ⟨L, rfl, g1, g2⟩
      exact ⟨_, by rw [am_u3_s, p2 (sq_x sB (fun _ => rfl) g2), if_pos (nI_le (Nat.le_refl p) (by omega))], L, rfl, g1, g2⟩
    rintro e1 e2 ⟨L, hx, g1, g2⟩
    have h1 : e1 = -ps (I 2) (dg c w n) w + SV I t w 100 p (dg c w n) := congrArg (fun z => z.1) hx
    have h2 : e2 = L := congrArg (fun z => z.2) hx
    rw [h1, h2, ← fB_n]
    have sL : sq I L := sq_x sB (fun _ => rfl) g2
    refine it_b1_inv (R := fun (z : Option ((Int32 × Int32 × am_IT) ⊕ am_IT)) => ∃ y : Int32 × Int32 × am_IT, z = some (.inl y) ∧ ∃ B : am_IT, y = ((if n + 1 = 0 then 1 else 0 : Int32), (if n + 1 < c ^ w then 1 else 0 : Int32), B) ∧ fbI I J t w c p (n + 1) B)
      (fun q x => ∃ M : am_IT, x = (nI q, M) ∧ (∀ r, r < p → M 87 r = if r < q then mxv (fB I t w c p r) (n + 1) else L 87 r) ∧ ∀ a, a ≠ 87 → M a = L a)
      (fun (M : am_IT) => (∀ r, r < p → M 87 r = mxv (fB I t w c p r) (n + 1)) ∧ ∀ a, a ≠ 87 → M a = L a) (n := p) (by omega) ?_ ?_ ⟨L, by rw [nI_0], fun r _ => by rw [if_neg (Nat.not_lt_zero r)], fun _ _ => rfl⟩ ?_
    · rintro q x hq ⟨M, rfl, m1, m2⟩
      have sM : sq I M := sq_x sL (fun _ => rfl) m2
      have hx : am_ix (nI q) 7 = true := am_ix_nI (by omega) (by decide)
      have e85 : fB I t w c p 100 n - M 85 q = fB I t w c p q n := by rw [m2 85 (by decide), g1 q hq, fB_n, fB_q b4 hq]
      have em : mxv (fB I t w c p q) (n + 1) = if fB I t w c p q n ≤ mxv (fB I t w c p q) n then mxv (fB I t w c p q) n else fB I t w c p q n := rfl
      have e87 := m1 q hq
      rw [if_neg (Nat.lt_irrefl q)] at e87
      have upd : ∀ v, v = mxv (fB I t w c p q) (n + 1) → ((∀ r, r < p → (up2 M 87 q v) 87 r = if r < q + 1 then mxv (fB I t w c p r) (n + 1) else L 87 r) ∧ ∀ a, a ≠ 87 → (up2 M 87 q v) a = L a) := by
        intro v hv
        refine ⟨fun r hr => ?_, fun a ha => by rw [up2_k _ _ ha]; exact m2 a ha⟩
        by_cases z : r = q
        · subst z; rw [up2_s, if_pos (Nat.lt_succ_self r)]; exact hv
        · rw [up2_j _ _ z, m1 r hr]
          by_cases z2 : r < q
          · rw [if_pos z2, if_pos (show r < q + 1 by omega)]
          · rw [if_neg z2, if_neg (show ¬ r < q + 1 by omega)]
      rw [am_u2_s, p2 sM, if_neg (nI_ge hq (by omega)), if_pos hx, nI_clamp (by omega), e85, nI_1]
      by_cases z : n = 0
      · rw [if_neg (show ¬ l1 = 0 from fun e => (hl1.mp e) z), if_pos hx, am_let_s, am_let_s]
        try rw [if_pos hx]
        refine ⟨_, rfl, _, rfl, upd _ ?_⟩
        subst z
        rw [em, if_neg (show ¬ fB I t w c p q 0 ≤ mxv (fB I t w c p q) 0 from fB_b X)]
      · have Bq := (Bm (by omega)).2.2.2.2 q hq
        have e87' : M 87 q = mxv (fB I t w c p q) n := by rw [e87, g2 87 (by decide)]; exact Bq
        rw [if_pos (hl1.mpr z), if_pos hx, if_pos hx, e87']
        by_cases z2 : fB I t w c p q n ≤ mxv (fB I t w c p q) n
        · rw [if_pos z2, am_let_s]
          refine ⟨_, rfl, M, rfl, fun r hr => ?_, m2⟩
          rw [m1 r hr]
          by_cases z3 : r < q
          · rw [if_pos z3, if_pos (show r < q + 1 by omega)]
          · rw [if_neg z3]
            by_cases z4 : r = q
            · subst z4
              rw [if_pos (Nat.lt_succ_self r), em, if_pos z2, ← e87', e87]
            · rw [if_neg (show ¬ r < q + 1 by omega)]
        · rw [if_neg z2, if_pos hx, am_let_s, am_let_s]
          exact ⟨_, rfl, _, rfl, upd _ (by rw [em, if_neg z2])⟩
    · rintro x ⟨M, rfl, m1, m2⟩
      exact ⟨M, by rw [am_u2_s, p2 (sq_x sL (fun _ => rfl) m2), if_pos (nI_le (Nat.le_refl p) (by omega))], fun r hr => by rw [m1 r hr, if_pos hr], m2⟩
    rintro M ⟨m1, m2⟩
    have sM : sq I M := sq_x sL (fun _ => rfl) m2
    have mB : ∀ a, a ≠ 85 → a ≠ 87 → M a = B a := fun a a1 a2 => by rw [m2 a a2]; exact g2 a a1
    have ev : mxv (fB I t w c p 100) (n + 1) = if fB I t w c p 100 n ≤ mxv (fB I t w c p 100) n then mxv (fB I t w c p 100) n else fB I t w c p 100 n := rfl
    have ei : mxi (fB I t w c p 100) (n + 1) = if fB I t w c p 100 n ≤ mxv (fB I t w c p 100) n then mxi (fB I t w c p 100) n else n := rfl
    have sC : sq I (up2 (up2 M 55 52 (fB I t w c p 100 n)) 55 53 (ps (I 2) (dg c w n) w)) := sq_u _ (sq_u _ sM rfl) rfl
    obtain ⟨D, eD, d1, d2, d3, d4⟩ := e_upd (C := up2 (up2 M 55 52 (fB I t w c p 100 n)) 55 53 (ps (I 2) (dg c w n) w)) b3 b4 (w2 sC) (p2 sC)
    have fin2 : ¬ fB I t w c p 100 n ≤ mxv (fB I t w c p 100) n → ∃ y, am_b2 (F_X12_triesNext_55 D) (fun (r_130 : Int32) (I_131 : am_IT) => (some (.inl ((0 : Int32), r_130, I_131)) : Option ((Int32 × Int32 × am_IT) ⊕ am_IT))) = some (.inl y) ∧ ∃ B : am_IT, y = ((if n + 1 = 0 then 1 else 0 : Int32), (if n + 1 < c ^ w then 1 else 0 : Int32), B) ∧ fbI I J t w c p (n + 1) B := by
      intro z
      rw [if_neg z] at ev ei
      have dC : ∀ a, a ≠ 86 → a ≠ 72 → a ≠ 55 → D a = M a := fun a h1 h2 h3 => by rw [d4 a h1 h2, up2_k _ _ h3, up2_k _ _ h3]
      have d72 : ∀ j, j < 14 ∨ 21 ≤ j → D 72 j = B 72 j := fun j hj => by rw [d3 j hj, up2_k _ _ (by decide), up2_k _ _ (by decide), mB 72 (by decide) (by decide)]
      refine fin D (fun a i ma => ?_) ?_ ?_ ?_ ?_ ?_ ?_ ?_ ?_ ?_
      · rw [d4 a (st_ne (fun _ => rfl) ma) (stc_ne ma).2]; exact sC a i ma
      · rw [dC 3 (by decide) (by decide) (by decide), mB 3 (by decide) (by decide)]; exact B3
      · intro j hj
        rw [d72 j (Or.inl hj)]; exact B72 j hj
      · intro h u hh hu
        rw [dC 83 (by decide) (by decide) (by decide), mB 83 (by decide) (by decide)]; exact By h u hh hu
      · intro u hu
        rw [d72 (21 + u) (by omega)]; exact Bd' u hu
      · rw [d4 55 (by decide) (by decide), up2_j _ _ (by decide), up2_s]; exact ev.symm
      · rw [d4 55 (by decide) (by decide), up2_s, ei]
      · intro q hq
        rw [d1 q hq, up2_k _ _ (by decide), up2_k _ _ (by decide), m2 85 (by decide), g1 q hq, ei]
      · intro u hu
        rw [d2 u hu, up2_k _ _ (by decide), up2_k _ _ (by decide), mB 72 (by decide) (by decide), Bd' u hu, ei]
      · intro q hq
        rw [dC 87 (by decide) (by decide) (by decide)]; exact m1 q hq
    by_cases z : n = 0
    · rw [if_neg (show ¬ l1 = 0 from fun e => (hl1.mp e) z), am_let_s, am_let_s, eD, am_b1_s]
      exact fin2 (by subst z; exact fB_b X)
    · obtain ⟨b52, b53, b86, b14, b87⟩ := Bm (by omega)
      rw [if_pos (hl1.mpr z), show M 55 52 = mxv (fB I t w c p 100) n by rw [mB 55 (by decide) (by decide)]; exact b52]
      by_cases z2 : fB I t w c p 100 n ≤ mxv (fB I t w c p 100) n
      · rw [if_pos z2, am_b1_s]
        rw [if_pos z2] at ev ei
        refine fin M sM ?_ ?_ ?_ ?_ ?_ ?_ ?_ ?_ m1
        · rw [mB 3 (by decide) (by decide)]; exact B3
        · intro j hj
          rw [mB 72 (by decide) (by decide)]; exact B72 j hj
        · intro h u hh hu
          rw [mB 83 (by decide) (by decide)]; exact By h u hh hu
        · intro u hu
          rw [mB 72 (by decide) (by decide)]; exact Bd' u hu
        · rw [mB 55 (by decide) (by decide), ev]; exact b52
        · rw [mB 55 (by decide) (by decide), ei]; exact b53
        · intro q hq
          rw [mB 86 (by decide) (by decide), ei]; exact b86 q hq
        · intro u hu
          rw [mB 72 (by decide) (by decide), ei]; exact b14 u hu
      · rw [if_neg z2, am_let_s, am_let_s, eD, am_b1_s]
        exact fin2 z2
  · rintro x ⟨B, rfl, hB⟩
    exact ⟨B, by rw [am_u3_s, if_neg (Nat.lt_irrefl _), if_pos rfl], hB⟩
