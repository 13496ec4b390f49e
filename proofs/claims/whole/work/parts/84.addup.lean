/-! the class's search for the best painting -/
theorem e_ao {I J : am_IT} {c w p t y d ln q : Nat} (X : cx I c w p t y d ln) (S : sq I J) (hy : ∀ h u, h < 8 → u < 7 → J 24 (7 * h + u) = cl0 (tS I h u t)) (hq : q < p) :
    ∃ K, F_X0_addOne_30 J (nI q) = some K ∧ (∀ u k, u < w → k < c → K 32 (4 * u + k) = J 32 (4 * u + k) + YY I t q u * TT I q k) ∧ (∀ u v, u < w → v < u → K 33 (7 * u + v) = J 33 (7 * u + v) + TW I t q u v) ∧ ∀ a, a ≠ 32 → a ≠ 33 → K a = J a := by
  have b2 : c ≤ 4 := X.1.2.1
  have b3 : w ≤ 7 := X.1.2.2.1
  have b4 : p ≤ 7 := X.1.2.2.2.1
  obtain ⟨h1, h2, -⟩ := hN_ok X hq
  have SJ : ∀ {L : am_IT}, (∀ a, a ≠ 32 → a ≠ 33 → L a = J a) → sq I L := fun {L} h a i ma => by rw [h a (st_ne (fun _ => rfl) ma) (st_ne (fun _ => rfl) ma)]; exact S a i ma
  have w1 : ∀ {L : am_IT}, (∀ a, a ≠ 32 → a ≠ 33 → L a = J a) → L 1 3 = nI w := fun {L} h => by rw [sq_c (SJ h) (k := 1) rfl]; exact X.2.1.2.2.2.1.1
  have c1 : ∀ {L : am_IT}, (∀ a, a ≠ 32 → a ≠ 33 → L a = J a) → L 1 0 = nI c := fun {L} h => by rw [sq_c (SJ h) (k := 1) rfl]; exact X.2.1.1.1
  have q4 : ∀ {L : am_IT}, (∀ a, a ≠ 32 → a ≠ 33 → L a = J a) → L 4 q = nI (hN I q) := fun {L} h => by rw [sq_c (SJ h) (k := 4) rfl]; exact h2
  unfold F_X0_addOne_30
  refine it_b1_inv (R := fun z => ∃ K : am_IT, z = some K ∧ (∀ u k, u < w → k < c → K 32 (4 * u + k) = J 32 (4 * u + k) + YY I t q u * TT I q k) ∧ (∀ u v, u < w → v < u → K 33 (7 * u + v) = J 33 (7 * u + v) + TW I t q u v) ∧ ∀ a, a ≠ 32 → a ≠ 33 → K a = J a)
    (fun i x => ∃ L : am_IT, x = (nI i, L) ∧ (∀ u k, u < w → k < c → L 32 (4 * u + k) = if u < i then J 32 (4 * u + k) + YY I t q u * TT I q k else J 32 (4 * u + k)) ∧ (∀ u v, u < w → v < u → L 33 (7 * u + v) = if u < i then J 33 (7 * u + v) + TW I t q u v else J 33 (7 * u + v)) ∧ ∀ a, a ≠ 32 → a ≠ 33 → L a = J a)
    (fun (K : am_IT) => (∀ u k, u < w → k < c → K 32 (4 * u + k) = J 32 (4 * u + k) + YY I t q u * TT I q k) ∧ (∀ u v, u < w → v < u → K 33 (7 * u + v) = J 33 (7 * u + v) + TW I t q u v) ∧ ∀ a, a ≠ 32 → a ≠ 33 → K a = J a) (n := w) (by omega) ?_ ?_ ⟨J, by rw [nI_0], fun u k _ _ => by rw [if_neg (Nat.not_lt_zero u)], fun u v _ _ => by rw [if_neg (Nat.not_lt_zero u)], fun _ _ _ => rfl⟩ (fun K h => ⟨K, rfl, h⟩)
  · rintro x y hx ⟨L, rfl, l1, l2, l3⟩
    rw [am_u2_s, w1 l3, if_neg (nI_ge hx (by omega))]
    refine it_b1_inv (R := fun (z : Option ((Int32 × am_IT) ⊕ am_IT)) => ∃ y : Int32 × am_IT, z = some (.inl y) ∧ ∃ L : am_IT, y = (nI (x + 1), L) ∧ (∀ u k, u < w → k < c → L 32 (4 * u + k) = if u < x + 1 then J 32 (4 * u + k) + YY I t q u * TT I q k else J 32 (4 * u + k)) ∧ (∀ u v, u < w → v < u → L 33 (7 * u + v) = if u < x + 1 then J 33 (7 * u + v) + TW I t q u v else J 33 (7 * u + v)) ∧ ∀ a, a ≠ 32 → a ≠ 33 → L a = J a)
      (fun i y => ∃ M : am_IT, y = (nI i, M) ∧ (∀ u k, u < w → k < c → M 32 (4 * u + k) = if u < x ∨ (u = x ∧ k < i) then J 32 (4 * u + k) + YY I t q u * TT I q k else J 32 (4 * u + k)) ∧ ∀ a, a ≠ 32 → M a = L a)
      (fun (M : am_IT) => (∀ u k, u < w → k < c → M 32 (4 * u + k) = if u < x + 1 then J 32 (4 * u + k) + YY I t q u * TT I q k else J 32 (4 * u + k)) ∧ ∀ a, a ≠ 32 → M a = L a) (n := c) (by omega) ?_ ?_ ⟨L, by rw [nI_0], ?_, fun _ _ => rfl⟩ ?_
    · rintro k y hk ⟨M, rfl, m1, m2⟩
      have mJ : ∀ a, a ≠ 32 → a ≠ 33 → M a = J a := fun a a1 a2 => by rw [m2 a a1]; exact l3 a a1 a2
      have mv := m1 x k hx hk
      rw [if_neg (show ¬ (x < x ∨ (x = x ∧ k < k)) by omega)] at mv
      refine ⟨(nI (k + 1), up2 M 32 (4 * x + k) (J 32 (4 * x + k) + YY I t q x * TT I q k)), ?_, _, rfl, ?_, ?_⟩
      · rw [am_u2_s, c1 mJ, if_neg (nI_ge hk (by omega)), m4 x k, if_pos (am_ix_nI (by omega) (by decide)), e_yo (h := hN I q) (by omega) (by omega) h1 (q4 mJ), am_b1_s, m4 q k, if_pos (am_ix_nI (by omega) (by decide)), if_pos (am_ix_nI (by omega) (by decide)), am_let_s, am_let_s, nI_clamp (show 4 * x + k < 2 ^ 31 by omega), nI_clamp (show 4 * q + k < 2 ^ 31 by omega), nI_1, mv, mJ 24 (by decide) (by decide), hy _ x h1 (by omega), mJ 7 (by decide) (by decide), sq_c S (k := 7) rfl]
        rfl
      · intro u k' hu hk'
        rw [up2_r]
        by_cases z : u = x ∧ k' = k
        · obtain ⟨rfl, rfl⟩ := z
          rw [if_pos rfl, if_pos (show u < u ∨ (u = u ∧ k' < k' + 1) by omega)]
        · rw [if_neg (by omega), m1 u k' hu hk']
          by_cases z2 : u < x ∨ (u = x ∧ k' < k)
          · rw [if_pos z2, if_pos (show u < x ∨ (u = x ∧ k' < k + 1) by omega)]
          · rw [if_neg z2, if_neg (show ¬ (u < x ∨ (u = x ∧ k' < k + 1)) by omega)]
      · intro a ha
        rw [up2_k _ _ ha]; exact m2 a ha
    · rintro y ⟨M, rfl, m1, m2⟩
      refine ⟨M, by rw [am_u2_s, show M 1 0 = nI c by rw [m2 1 (by decide)]; exact c1 l3, if_pos (nI_le (Nat.le_refl c) (by omega))], ?_, m2⟩
      intro u k hu hk
      rw [m1 u k hu hk]
      by_cases z : u < x + 1
      · rw [if_pos z, if_pos (show u < x ∨ (u = x ∧ k < c) by omega)]
      · rw [if_neg z, if_neg (show ¬ (u < x ∨ (u = x ∧ k < c)) by omega)]
    · intro u k hu hk
      rw [l1 u k hu hk]
      by_cases z : u < x
      · rw [if_pos z, if_pos (show u < x ∨ (u = x ∧ k < 0) by omega)]
      · rw [if_neg z, if_neg (show ¬ (u < x ∨ (u = x ∧ k < 0)) by omega)]
    rintro M ⟨m1, m2⟩
    have mJ : ∀ a, a ≠ 32 → a ≠ 33 → M a = J a := fun a a1 a2 => by rw [m2 a a1]; exact l3 a a1 a2
    refine it_b1_inv (R := fun (z : Option ((Int32 × am_IT) ⊕ am_IT)) => ∃ y : Int32 × am_IT, z = some (.inl y) ∧ ∃ L : am_IT, y = (nI (x + 1), L) ∧ (∀ u k, u < w → k < c → L 32 (4 * u + k) = if u < x + 1 then J 32 (4 * u + k) + YY I t q u * TT I q k else J 32 (4 * u + k)) ∧ (∀ u v, u < w → v < u → L 33 (7 * u + v) = if u < x + 1 then J 33 (7 * u + v) + TW I t q u v else J 33 (7 * u + v)) ∧ ∀ a, a ≠ 32 → a ≠ 33 → L a = J a)
      (fun i y => ∃ N : am_IT, y = (nI i, N) ∧ (∀ u v, u < w → v < u → N 33 (7 * u + v) = if u < x ∨ (u = x ∧ v < i) then J 33 (7 * u + v) + TW I t q u v else J 33 (7 * u + v)) ∧ ∀ a, a ≠ 33 → N a = M a)
      (fun (N : am_IT) => (∀ u v, u < w → v < u → N 33 (7 * u + v) = if u < x + 1 then J 33 (7 * u + v) + TW I t q u v else J 33 (7 * u + v)) ∧ ∀ a, a ≠ 33 → N a = M a) (n := x) (by omega) ?_ ?_ ⟨M, by rw [nI_0], ?_, fun _ _ => rfl⟩ ?_
    · rintro v y hv ⟨N, rfl, n1, n2⟩
      have nJ : ∀ a, a ≠ 32 → a ≠ 33 → N a = J a := fun a a1 a2 => by rw [n2 a a2]; exact mJ a a1 a2
      have nv := n1 x v hx hv
      rw [if_neg (show ¬ (x < x ∨ (x = x ∧ v < v)) by omega)] at nv
      refine ⟨(nI (v + 1), up2 N 33 (7 * x + v) (J 33 (7 * x + v) + TW I t q x v)), ?_, _, rfl, ?_, ?_⟩
      · rw [am_u2_s, if_neg (nI_ge hv (by omega)), m7, if_pos (am_ix_nI (by omega) (by decide)), if_pos (am_ix_nI (by omega) (by decide)), nI_clamp (show q < 2 ^ 31 by omega), q4 nJ, e_w2 (by omega) h1 (by omega) (by omega), am_b1_s, if_pos (am_ix_nI (by omega) (by decide)), am_let_s, am_let_s, nI_clamp (show 7 * x + v < 2 ^ 31 by omega), nI_1, nv, nJ 24 (by decide) (by decide), hy _ x h1 (by omega), hy _ v h1 (by omega), nJ 10 (by decide) (by decide), nJ 9 (by decide) (by decide), sq_c S (k := 10) rfl, sq_c S (k := 9) rfl]
        rfl
      · intro u k' hu hk'
        rw [up2_r]
        by_cases z : u = x ∧ k' = v
        · obtain ⟨rfl, rfl⟩ := z
          rw [if_pos rfl, if_pos (show u < u ∨ (u = u ∧ k' < k' + 1) by omega)]
        · rw [if_neg (by omega), n1 u k' hu hk']
          by_cases z2 : u < x ∨ (u = x ∧ k' < v)
          · rw [if_pos z2, if_pos (show u < x ∨ (u = x ∧ k' < v + 1) by omega)]
          · rw [if_neg z2, if_neg (show ¬ (u < x ∨ (u = x ∧ k' < v + 1)) by omega)]
      · intro a ha
        rw [up2_k _ _ ha]; exact n2 a ha
    · rintro y ⟨N, rfl, n1, n2⟩
      refine ⟨N, by rw [am_u2_s, if_pos (nI_le (Nat.le_refl x) (by omega))], ?_, n2⟩
      intro u v hu hv
      rw [n1 u v hu hv]
      by_cases z : u < x + 1
      · rw [if_pos z, if_pos (show u < x ∨ (u = x ∧ v < x) by omega)]
      · rw [if_neg z, if_neg (show ¬ (u < x ∨ (u = x ∧ v < x)) by omega)]
    · intro u v hu hv
      rw [m2 33 (by decide), l2 u v hu hv]
      by_cases z : u < x
      · rw [if_pos z, if_pos (show u < x ∨ (u = x ∧ v < 0) by omega)]
      · rw [if_neg z, if_neg (show ¬ (u < x ∨ (u = x ∧ v < 0)) by omega)]
    rintro N ⟨n1, n2⟩
    exact ⟨(nI (x + 1), N), by rw [am_let_s, nI_1], N, rfl, fun u k hu hk => by rw [n2 32 (by decide)]; exact m1 u k hu hk, n1, fun a a1 a2 => by rw [n2 a a2]; exact mJ a a1 a2⟩
  · rintro y ⟨L, rfl, l1, l2, l3⟩
    refine ⟨L, by rw [am_u2_s, w1 l3, if_pos (nI_le (Nat.le_refl w) (by omega))], fun u k hu hk => ?_, fun u v hu hv => ?_, l3⟩
    · rw [l1 u k hu hk, if_pos hu]
    · rw [l2 u v hu hv, if_pos hu]
def AL (I : am_IT) (t p lf u k : Nat) : Int32 := so (fun q => YY I t q u * TT I q k) lf p
def TO (I : am_IT) (t p lf u v : Nat) : Int32 := so (fun q => TW I t q u v) lf p
theorem e_au {I J : am_IT} {c w p t y d ln lf : Nat} {a1 : Int32} (X : cx I c w p t y d ln) (S : sq I J) (hy : ∀ h u, h < 8 → u < 7 → J 24 (7 * h + u) = cl0 (tS I h u t)) (hl : ∀ q, q < p → (nI q = a1 ↔ q = lf)) :
    ∃ K, F_X0_addUp_30 J a1 = some K ∧ (∀ u k, u < w → k < c → K 32 (4 * u + k) = AL I t p lf u k) ∧ (∀ u v, u < w → v < u → K 33 (7 * u + v) = TO I t p lf u v) ∧ ∀ a, a ≠ 32 → a ≠ 33 → K a = J a := by
  have b2 : c ≤ 4 := X.1.2.1
  have b3 : w ≤ 7 := X.1.2.2.1
  have b4 : p ≤ 7 := X.1.2.2.2.1
  unfold F_X0_addUp_30
  rw [e_fill_32, am_b1_s, e_fill_33, am_b1_s]
  refine it_b1_inv (R := fun z => ∃ K : am_IT, z = some K ∧ (∀ u k, u < w → k < c → K 32 (4 * u + k) = AL I t p lf u k) ∧ (∀ u v, u < w → v < u → K 33 (7 * u + v) = TO I t p lf u v) ∧ ∀ a, a ≠ 32 → a ≠ 33 → K a = J a)
    (fun i x => ∃ K : am_IT, x = (nI i, K) ∧ (∀ u k, u < w → k < c → K 32 (4 * u + k) = AL I t i lf u k) ∧ (∀ u v, u < w → v < u → K 33 (7 * u + v) = TO I t i lf u v) ∧ ∀ a, a ≠ 32 → a ≠ 33 → K a = J a)
    (fun (K : am_IT) => (∀ u k, u < w → k < c → K 32 (4 * u + k) = AL I t p lf u k) ∧ (∀ u v, u < w → v < u → K 33 (7 * u + v) = TO I t p lf u v) ∧ ∀ a, a ≠ 32 → a ≠ 33 → K a = J a) (n := p) (by omega) ?_ ?_ ⟨_, by rw [nI_0], ?_, ?_, ?_⟩ (fun K h => ⟨K, rfl, h⟩)
  · rintro q x hq ⟨K, rfl, k1, k2, k3⟩
    have SK : sq I K := fun a i ma => by rw [k3 a (st_ne (fun _ => rfl) ma) (st_ne (fun _ => rfl) ma)]; exact S a i ma
    have p1 : K 1 4 = nI p := by rw [sq_c SK (k := 1) rfl]; exact X.2.1.2.2.2.2.1.1
    by_cases z : q = lf
    · refine ⟨(nI (q + 1), K), by rw [am_u2_s, p1, if_neg (nI_ge hq (by omega)), if_pos ((hl q hq).mpr z), am_let_s, nI_1], K, rfl, fun u k hu hk => ?_, fun u v hu hv => ?_, k3⟩
      · rw [k1 u k hu hk]; exact (if_pos z).symm
      · rw [k2 u v hu hv]; exact (if_pos z).symm
    · obtain ⟨L, eL, l1, l2, l3⟩ := e_ao X SK (fun h u hh hu => by rw [k3 24 (by decide) (by decide)]; exact hy h u hh hu) hq
      refine ⟨(nI (q + 1), L), by rw [am_u2_s, p1, if_neg (nI_ge hq (by omega)), if_neg (fun e => z ((hl q hq).mp e)), eL, am_b1_s, am_let_s, nI_1], L, rfl, fun u k hu hk => ?_, fun u v hu hv => ?_, fun a a1 a2 => by rw [l3 a a1 a2]; exact k3 a a1 a2⟩
      · rw [l1 u k hu hk, k1 u k hu hk]; exact (if_neg z).symm
      · rw [l2 u v hu hv, k2 u v hu hv]; exact (if_neg z).symm
  · rintro x ⟨K, rfl, k1, k2, k3⟩
    have SK : sq I K := fun a i ma => by rw [k3 a (st_ne (fun _ => rfl) ma) (st_ne (fun _ => rfl) ma)]; exact S a i ma
    have p1 : K 1 4 = nI p := by rw [sq_c SK (k := 1) rfl]; exact X.2.1.2.2.2.2.1.1
    exact ⟨K, by rw [am_u2_s, p1, if_pos (nI_le (Nat.le_refl p) (by omega))], k1, k2, k3⟩
  · intro u k hu hk
    show fl2 (fl2 J 32 28 0) 33 49 0 32 (4 * u + k) = 0
    unfold fl2
    rw [if_neg (by omega), if_pos (by omega)]
  · intro u v hu hv
    show fl2 (fl2 J 32 28 0) 33 49 0 33 (7 * u + v) = 0
    unfold fl2
    rw [if_pos (by omega)]
  · intro a h1 h2
    funext j
    unfold fl2
    rw [if_neg (by omega), if_neg (by omega)]
/-- what a painting is worth to all but one, less its pots -/
def fB (I : am_IT) (t w c p lf n : Nat) : Int32 := w2s (AL I t p lf) (TO I t p lf) (dg c w n) w - ps (I 2) (dg c w n) w
def SV (I : am_IT) (t w lf p : Nat) (P : Nat → Nat) : Int32 := so (fun q => VV I t w q P) lf p
theorem fB_SV (I : am_IT) (t w c p lf n : Nat) : fB I t w c p lf n = SV I t w lf p (dg c w n) - ps (I 2) (dg c w n) w := by
  unfold fB SV
  have h := w2s_so (A := fun q u k => YY I t q u * TT I q k) (G := fun q u v => TW I t q u v) (P := dg c w n) (lf := lf) (w := w) p
  have e : w2s (AL I t p lf) (TO I t p lf) (dg c w n) w = so (fun q => VV I t w q (dg c w n)) lf p := h.trans (so_c p (fun q _ => (wS_w2 w).symm))
  rw [e]
theorem VV_b {I : am_IT} {c w p t y d ln q : Nat} {P : Nat → Nat} (X : cx I c w p t y d ln) (hq : q < p) (hP : ∀ v, v < w → P v < 4) : ab 43659 (VV I t w q P) := wV_b X hq (hN_ok X hq).1 hP
theorem fB_b {I : am_IT} {c w p t y d ln lf n : Nat} (X : cx I c w p t y d ln) : ¬ fB I t w c p lf n ≤ -2147483648 := by
  have b1 : 2 ≤ c := X.1.1
  have b2 : c ≤ 4 := X.1.2.1
  have b3 : w ≤ 7 := X.1.2.2.1
  have b4 : p ≤ 7 := X.1.2.2.2.1
  have hP : ∀ v, v < w → dg c w n v < 4 := fun v _ => Nat.lt_of_lt_of_le (dg_lt (by omega)) b2
  have rpo : rPot (I 2) (I 56) := X.2.2.1
  rw [fB_SV]
  refine ab_low (n := 43659 * 7 + 999 * 7) (ab_sub ?_ ?_ (by decide)) (by decide)
  · exact ab_le (so_b (by decide) p b4 (fun q hq => VV_b X hq hP)) (Nat.mul_le_mul_left _ b4)
  · refine ab_le (ps_b (fun k hk => ?_) w b3 hP) (Nat.mul_le_mul_left _ b3)
    obtain ⟨-, m, hm, em⟩ := rpo k hk
    rw [em]
    exact ab_nI (by omega) (by omega)
