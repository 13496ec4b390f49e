/-! what must, the reference -/
theorem bo_16 : ∀ x, x < 16 → ∀ y, y < 16 → (nI x ||| nI y = nI (x ||| y)) ∧ (x ||| y) < 16 := by decide +kernel
/-- the rows of a state as masks -/
def mR (w0 : Nat → Nat → Bool) (L : am_IT) (mk : Nat → Nat) : Prop := ∀ a, a < 4 → L 90 a = nI (mk a) ∧ mk a < 16 ∧ ∀ b, b < 4 → (mk a).testBit b = true → Wk w0 4 a b = true
def mD (w0 : Nat → Nat → Bool) (c t : Nat) (mk : Nat → Nat) (a : Nat) : Prop := ∀ b, b < c → Dk w0 c t a b → (mk a).testBit b = true
theorem Dk_lt {w0 : Nat → Nat → Bool} {c : Nat} (hb : ∀ a b, w0 a b = true → a < c ∧ b < c) : ∀ t a b, Dk w0 c t a b → a < c ∧ b < c
  | 0, a, b, h => hb a b h
  | t + 1, a, b, h => by
    rcases h with h1 | ⟨o, ho, h1, h2⟩
    · exact Dk_lt hb t a b h1
    · exact ⟨(Dk_lt hb t a o h1).1, (Dk_lt hb t o b h2).2⟩
def must2 (w0 : Nat → Nat → Bool) (c a b : Nat) : Bool := if a = b then (List.range c).any (fun x => Wk w0 4 x x) else Wk w0 4 a b
theorem e_mu {J : am_IT} {c p d q a b : Nat} {w0 : Nat → Nat → Bool} (c2 : 2 ≤ c) (c4 : c ≤ 4) (hp7 : p ≤ 7) (hd : d ≤ 40) (hq : q < p) (ha : a < c) (hb : b < c) (hp2 : J 55 5 = nI p) (hc2 : J 55 2 = nI c) (hd2 : J 55 18 = nI d)
    (hw : ∀ a b, w0 a b = true → a < c ∧ b < c) (hdd : ∀ k, k < d → ∃ r x y : Nat, r < 7 ∧ x < c ∧ y < c ∧ J 67 k = nI r ∧ J 68 k = nI x ∧ J 69 k = nI y) (h0 : ∀ x y, x < 4 → y < 4 → (w0 x y = true ↔ ∃ k, k < d ∧ J 67 k = nI q ∧ J 68 k = nI x ∧ J 69 k = nI y)) :
    ∃ L, F_X12_must_55 J (nI q) (nI a) (nI b) = some (b2i (must2 w0 c a b), L) ∧ (∀ k, k ≠ 55 → k ≠ 90 → L k = J k) ∧ ∀ j, j ≠ 0 → L 55 j = J 55 j := by
  have g1 : gd (nI q) p = 1 := by unfold gd; rw [if_neg (nI_pos (by omega)), if_neg (nI_ge hq (by omega))]
  have g2 : gd (nI a) c = 1 := by unfold gd; rw [if_neg (nI_pos (by omega)), if_neg (nI_ge ha (by omega))]
  have g3 : gd (nI b) c = 1 := by unfold gd; rw [if_neg (nI_pos (by omega)), if_neg (nI_ge hb (by omega))]
  have un : ∀ {x y : Nat}, x < 10 → y < 10 → (nI x = nI y ↔ x = y) := fun hx hy => nI_eq (by omega) (by omega)
  unfold F_X12_must_55
  rw [am_let_s, gP2 (I := up2 J 55 0 0) (n := p) hp2, am_b1_s, g1, if_neg (by decide), gC2 (I := up2 J 55 0 0) (n := c) hc2, am_b1_s, g2, if_neg (by decide), gC2 (I := up2 J 55 0 0) (n := c) hc2, am_b1_s, g3, if_neg (by decide)]
  refine it_b1_inv (R := fun z => ∃ L : am_IT, z = some (b2i (must2 w0 c a b), L) ∧ (∀ k, k ≠ 55 → k ≠ 90 → L k = J k) ∧ ∀ j, j ≠ 0 → L 55 j = J 55 j)
    (fun i x => ∃ A : am_IT, x = (nI i, A) ∧ (∀ j, j < i → A 90 j = 0) ∧ ∀ k, k ≠ 90 → A k = (up2 J 55 0 0) k)
    (fun (A : am_IT) => (∀ j, j < 4 → A 90 j = 0) ∧ ∀ k, k ≠ 90 → A k = (up2 J 55 0 0) k) (n := 4) (by omega) ?_ ?_ ⟨_, by rw [nI_0], fun j hj => absurd hj (Nat.not_lt_zero j), fun _ _ => rfl⟩ ?_
  · rintro i x hi ⟨A, rfl, a1, a2⟩
    refine ⟨(nI (i + 1), up2 A 90 i 0), ?_, _, rfl, fun j hj => ?_, fun k hk => by rw [up2_k _ _ hk]; exact a2 k hk⟩
    · rw [am_u2_s, if_neg (show ¬ (4 : Int32) ≤ nI i from nI_ge (a := i) (b := 4) hi (by decide)), if_pos (am_ix_nI (by omega) (by decide)), am_let_s, am_let_s, nI_clamp (by omega), nI_1]
    · by_cases z : j = i
      · subst z; exact up2_s _ _ _ _
      · rw [up2_j _ _ z]; exact a1 j (by omega)
  · rintro x ⟨A, rfl, a1, a2⟩
    exact ⟨A, by rw [am_u2_s, if_pos (show (4 : Int32) ≤ nI 4 by decide)], a1, a2⟩
  rintro A ⟨a1, a2⟩
  have k55 : ∀ {L : am_IT}, (∀ k, k ≠ 90 → L k = (up2 J 55 0 0) k) → L 55 2 = nI c ∧ L 55 18 = nI d := fun {L} h => by rw [h 55 (by decide)]; exact ⟨hc2, hd2⟩
  refine it_b1_inv (R := fun z => ∃ L : am_IT, z = some (b2i (must2 w0 c a b), L) ∧ (∀ k, k ≠ 55 → k ≠ 90 → L k = J k) ∧ ∀ j, j ≠ 0 → L 55 j = J 55 j)
    (fun i x => ∃ B : am_IT, x = (nI i, B) ∧ (∃ mk : Nat → Nat, ∀ x, x < 4 → B 90 x = nI (mk x) ∧ mk x < 16 ∧ ∀ y, y < 4 → ((mk x).testBit y = true ↔ ∃ k, k < i ∧ J 67 k = nI q ∧ J 68 k = nI x ∧ J 69 k = nI y)) ∧ ∀ k, k ≠ 90 → B k = (up2 J 55 0 0) k)
    (fun (B : am_IT) => (∃ mk : Nat → Nat, ∀ x, x < 4 → B 90 x = nI (mk x) ∧ mk x < 16 ∧ ∀ y, y < 4 → ((mk x).testBit y = true ↔ w0 x y = true)) ∧ ∀ k, k ≠ 90 → B k = (up2 J 55 0 0) k) (n := d) (by omega) ?_ ?_ ⟨A, by rw [nI_0], ⟨fun _ => 0, fun x hx => ⟨a1 x hx, (by decide : 0 < 16), fun y _ => ⟨fun h => (by rw [Nat.zero_testBit] at h; cases h), fun ⟨k, hk, _⟩ => absurd hk (Nat.not_lt_zero k)⟩⟩⟩, a2⟩ ?_
  · rintro i x hi ⟨B, rfl, ⟨mk, b1⟩, b2⟩
    obtain ⟨r, x1, y1, hr, hx1, hy1, e67, e68, e69⟩ := hdd i hi
    have x40 : am_ix (nI i) 40 = true := am_ix_nI (by omega) (by decide)
    have f67 : B 67 i = nI r := by rw [b2 67 (by decide)]; exact e67
    have f68 : B 68 i = nI x1 := by rw [b2 68 (by decide)]; exact e68
    have f69 : B 69 i = nI y1 := by rw [b2 69 (by decide)]; exact e69
    rw [am_u2_s, (k55 b2).2, if_neg (nI_ge hi (by omega)), if_pos x40, nI_clamp (show i < 2 ^ 31 by omega), f67]
    by_cases z : r = q
    · obtain ⟨m1, m2, m3⟩ := b1 x1 (by omega)
      have t16 : mk x1 ||| 2 ^ y1 < 16 := Nat.or_lt_two_pow (n := 4) m2 (Nat.pow_lt_pow_right (by decide) (by omega))
      refine ⟨(nI (i + 1), up2 B 90 x1 (nI (mk x1 ||| 2 ^ y1))), ?_, _, rfl, ⟨fun x => if x = x1 then mk x1 ||| 2 ^ y1 else mk x, fun x hx => ?_⟩, fun k hk => by rw [up2_k _ _ hk]; exact b2 k hk⟩
      · rw [if_pos (congrArg nI z), f68, if_pos (am_ix_nI (show x1 < 4 by omega) (by decide)), nI_clamp (show x1 < 2 ^ 31 by omega), m1, f69, bt_o y1 (by omega) _ m2, nI_1]
        repeat rw [if_pos x40]
        repeat rw [if_pos (am_ix_nI (show x1 < 4 by omega) (by decide))]
        repeat rw [if_pos x40]
        repeat rw [if_pos (am_ix_nI (show x1 < 4 by omega) (by decide))]
        rw [am_let_s, am_let_s]
      · rw [up2_r]
        by_cases zz : x = x1
        · subst zz
          rw [if_pos rfl]
          simp only [if_pos]
          refine ⟨trivial, t16, fun y hy => ?_⟩
          rw [tb_or]
          by_cases zy : y = y1
          · rw [if_pos zy]
            exact ⟨fun _ => ⟨i, Nat.lt_succ_self i, by rw [e67, z], e68, by rw [e69, zy]⟩, fun _ => rfl⟩
          · rw [if_neg zy, m3 y hy]
            constructor
            · rintro ⟨k, h1, h2⟩; exact ⟨k, by omega, h2⟩
            · rintro ⟨k, h1, h2, h3, h4⟩
              by_cases zk : k = i
              · subst zk
                rw [e69] at h4
                exact absurd ((un (by omega) (by omega)).mp h4).symm zy
              · exact ⟨k, by omega, h2, h3, h4⟩
        · rw [if_neg zz]
          simp only [if_neg zz]
          obtain ⟨n1, n2, n3⟩ := b1 x hx
          refine ⟨n1, n2, fun y hy => ?_⟩
          rw [n3 y hy]
          constructor
          · rintro ⟨k, h1, h2⟩; exact ⟨k, by omega, h2⟩
          · rintro ⟨k, h1, h2, h3, h4⟩
            by_cases zk : k = i
            · subst zk
              rw [e68] at h3
              exact absurd ((un (by omega) (by omega)).mp h3).symm zz
            · exact ⟨k, by omega, h2, h3, h4⟩
    · refine ⟨(nI (i + 1), B), by rw [if_neg (fun e => z ((un (by omega) (by omega)).mp e)), am_let_s, nI_1], B, rfl, ⟨mk, fun x hx => ?_⟩, b2⟩
      obtain ⟨n1, n2, n3⟩ := b1 x hx
      refine ⟨n1, n2, fun y hy => ?_⟩
      rw [n3 y hy]
      constructor
      · rintro ⟨k, h1, h2⟩; exact ⟨k, by omega, h2⟩
      · rintro ⟨k, h1, h2, h3, h4⟩
        by_cases zk : k = i
        · subst zk
          rw [e67] at h2
          exact absurd ((un (by omega) (by omega)).mp h2) z
        · exact ⟨k, by omega, h2, h3, h4⟩
  · rintro x ⟨B, rfl, ⟨mk, b1⟩, b2⟩
    refine ⟨B, by rw [am_u2_s, (k55 b2).2, if_pos (nI_le (Nat.le_refl d) (by omega))], ⟨mk, fun x hx => ?_⟩, b2⟩
    obtain ⟨n1, n2, n3⟩ := b1 x hx
    exact ⟨n1, n2, fun y hy => by rw [n3 y hy, h0 x y hx hy]⟩
  rintro B ⟨⟨mk0, b1⟩, b2⟩
  refine it_b1_inv (R := fun z => ∃ L : am_IT, z = some (b2i (must2 w0 c a b), L) ∧ (∀ k, k ≠ 55 → k ≠ 90 → L k = J k) ∧ ∀ j, j ≠ 0 → L 55 j = J 55 j)
    (fun t x => ∃ C : am_IT, x = (nI t, C) ∧ (∃ mk : Nat → Nat, mR w0 C mk ∧ ∀ x, x < c → mD w0 c t mk x) ∧ ∀ k, k ≠ 90 → C k = (up2 J 55 0 0) k)
    (fun (C : am_IT) => (∃ mk : Nat → Nat, mR w0 C mk ∧ ∀ x, x < c → mD w0 c c mk x) ∧ ∀ k, k ≠ 90 → C k = (up2 J 55 0 0) k) (n := c) (by omega) ?_ ?_ ⟨B, by rw [nI_0], ⟨mk0, fun x hx => ⟨(b1 x hx).1, (b1 x hx).2.1, fun y hy h => Wk_m (((b1 x hx).2.2 y hy).mp h) 4⟩, fun x hx y hy h => ((b1 x (by omega)).2.2 y (by omega)).mpr h⟩, b2⟩ ?_
  · rintro t x ht ⟨C, rfl, ⟨mk, k1, k2⟩, k3⟩
    rw [am_u2_s, (k55 k3).1, if_neg (nI_ge ht (by omega))]
    refine it_b1_inv (R := fun (z : Option ((Int32 × am_IT) ⊕ am_IT)) => ∃ y : Int32 × am_IT, z = some (.inl y) ∧ ∃ C : am_IT, y = (nI (t + 1), C) ∧ (∃ mk : Nat → Nat, mR w0 C mk ∧ ∀ x, x < c → mD w0 c (t + 1) mk x) ∧ ∀ k, k ≠ 90 → C k = (up2 J 55 0 0) k)
      (fun i x => ∃ D : am_IT, x = (nI i, D) ∧ (∃ mk : Nat → Nat, mR w0 D mk ∧ (∀ x, x < c → mD w0 c t mk x) ∧ ∀ x, x < i → mD w0 c (t + 1) mk x) ∧ ∀ k, k ≠ 90 → D k = (up2 J 55 0 0) k)
      (fun (D : am_IT) => (∃ mk : Nat → Nat, mR w0 D mk ∧ ∀ x, x < c → mD w0 c (t + 1) mk x) ∧ ∀ k, k ≠ 90 → D k = (up2 J 55 0 0) k) (n := c) (by omega) ?_ ?_ ⟨C, by rw [nI_0], ⟨mk, k1, k2, fun x hx => absurd hx (Nat.not_lt_zero x)⟩, k3⟩ ?_
    · rintro i x hi ⟨D, rfl, ⟨mk, d1, d2, d3⟩, d4⟩
      rw [am_u2_s, (k55 d4).1, if_neg (nI_ge hi (by omega))]
      refine it_b1_inv (R := fun (z : Option ((Int32 × am_IT) ⊕ am_IT)) => ∃ y : Int32 × am_IT, z = some (.inl y) ∧ ∃ D : am_IT, y = (nI (i + 1), D) ∧ (∃ mk : Nat → Nat, mR w0 D mk ∧ (∀ x, x < c → mD w0 c t mk x) ∧ ∀ x, x < i + 1 → mD w0 c (t + 1) mk x) ∧ ∀ k, k ≠ 90 → D k = (up2 J 55 0 0) k)
        (fun o x => ∃ E : am_IT, x = (nI o, E) ∧ (∃ mk : Nat → Nat, mR w0 E mk ∧ (∀ x, x < c → mD w0 c t mk x) ∧ (∀ x, x < i → mD w0 c (t + 1) mk x) ∧ ∀ o', o' < o → Dk w0 c t i o' → ∀ b, b < c → Dk w0 c t o' b → (mk i).testBit b = true) ∧ ∀ k, k ≠ 90 → E k = (up2 J 55 0 0) k)
        (fun (E : am_IT) => (∃ mk : Nat → Nat, mR w0 E mk ∧ (∀ x, x < c → mD w0 c t mk x) ∧ (∀ x, x < i → mD w0 c (t + 1) mk x) ∧ ∀ o', o' < c → Dk w0 c t i o' → ∀ b, b < c → Dk w0 c t o' b → (mk i).testBit b = true) ∧ ∀ k, k ≠ 90 → E k = (up2 J 55 0 0) k) (n := c) (by omega) ?_ ?_ ⟨D, by rw [nI_0], ⟨mk, d1, d2, d3, fun o' ho' => absurd ho' (Nat.not_lt_zero o')⟩, d4⟩ ?_
      · rintro o x ho ⟨E, rfl, ⟨mk, e1, e2, e3, e4⟩, e5⟩
        obtain ⟨i1, i2, i3⟩ := e1 i (by omega)
        obtain ⟨o1, o2, o3⟩ := e1 o (by omega)
        have xi : am_ix (nI i) 4 = true := am_ix_nI (by omega) (by decide)
        have xo : am_ix (nI o) 4 = true := am_ix_nI (by omega) (by decide)
        rw [am_u2_s, (k55 e5).1, if_neg (nI_ge ho (by omega)), if_pos xi, nI_clamp (show i < 2 ^ 31 by omega), nI_clamp (show o < 2 ^ 31 by omega), i1, o1, bt_m o (by omega) _ i2]
        by_cases z : (mk i).testBit o = true
        · obtain ⟨q1, q2⟩ := bo_16 _ i2 _ o2
          rw [if_pos z, if_pos rfl]
          refine ⟨(nI (o + 1), up2 E 90 i (nI (mk i ||| mk o))), ?_, _, rfl, ⟨fun x => if x = i then mk i ||| mk o else mk x, ?_, ?_, ?_, ?_⟩, fun k hk => by rw [up2_k _ _ hk]; exact e5 k hk⟩
          · repeat rw [if_pos xi]
            repeat rw [if_pos xo]
            repeat rw [if_pos xi]
            rw [am_let_s, am_let_s, q1, nI_1]
          · intro x hx
            rw [up2_r]
            by_cases zz : x = i
            · subst zz
              rw [if_pos rfl]
              simp only [if_pos]
              refine ⟨trivial, q2, fun y hy h => ?_⟩
              rw [Nat.testBit_or, Bool.or_eq_true] at h
              rcases h with h | h
              · exact i3 y hy h
              · exact Wk_4t (show o < 4 by omega) (i3 o (by omega) z) (o3 y hy h)
            · rw [if_neg zz]
              simp only [if_neg zz]
              exact e1 x hx
          · intro x hx y hy h
            have hh := e2 x hx y hy h
            by_cases zz : x = i
            · simp only [if_pos zz]
              rw [Nat.testBit_or, ← zz, hh, Bool.true_or]
            · simp only [if_neg zz]; exact hh
          · intro x hx y hy h
            simp only [if_neg (show ¬ x = i by omega)]
            exact e3 x hx y hy h
          · intro o' ho' h1 y hy h2
            simp only [if_pos]
            rw [Nat.testBit_or]
            by_cases zz : o' = o
            · subst zz
              rw [e2 o' ho y hy h2, Bool.or_true]
            · rw [e4 o' (by omega) h1 y hy h2, Bool.true_or]
        · rw [if_neg z, if_neg (by decide)]
          refine ⟨(nI (o + 1), E), by rw [am_let_s, nI_1], E, rfl, ⟨mk, e1, e2, e3, fun o' ho' h1 y hy h2 => ?_⟩, e5⟩
          by_cases zz : o' = o
          · subst zz
            exact absurd (e2 i hi o' ho h1) z
          · exact e4 o' (by omega) h1 y hy h2
      · rintro x ⟨E, rfl, e1, e5⟩
        exact ⟨E, by rw [am_u2_s, (k55 e5).1, if_pos (nI_le (Nat.le_refl c) (by omega))], e1, e5⟩
      rintro E ⟨⟨mk, e1, e2, e3, e4⟩, e5⟩
      refine ⟨(nI (i + 1), E), by rw [am_let_s, nI_1], E, rfl, ⟨mk, e1, e2, fun x hx => ?_⟩, e5⟩
      by_cases zz : x = i
      · subst zz
        intro y hy h
        rcases h with h | ⟨o, ho, h1, h2⟩
        · exact e2 x hi y hy h
        · exact e4 o ho h1 y hy h2
      · exact e3 x (by omega)
    · rintro x ⟨D, rfl, ⟨mk, d1, d2, d3⟩, d4⟩
      exact ⟨D, by rw [am_u2_s, (k55 d4).1, if_pos (nI_le (Nat.le_refl c) (by omega))], ⟨mk, d1, d3⟩, d4⟩
    rintro D ⟨d1, d4⟩
    exact ⟨(nI (t + 1), D), by rw [am_let_s, nI_1], D, rfl, d1, d4⟩
  · rintro x ⟨C, rfl, k1, k3⟩
    exact ⟨C, by rw [am_u2_s, (k55 k3).1, if_pos (nI_le (Nat.le_refl c) (by omega))], k1, k3⟩
  rintro C ⟨⟨mk, k1, k2⟩, k3⟩
  have kb : ∀ x y, x < c → y < c → (mk x).testBit y = Wk w0 4 x y := by
    intro x y hx hy
    cases hv : Wk w0 4 x y with
    | true => exact k2 x hx y hy (Wk_4D hw c4 hv)
    | false =>
      cases ht : (mk x).testBit y with
      | false => rfl
      | true => rw [(k1 x (by omega)).2.2 y (by omega) ht] at hv; cases hv
  have fin : (∀ k, k ≠ 55 → k ≠ 90 → C k = J k) ∧ ∀ j, j ≠ 0 → C 55 j = J 55 j := ⟨fun k h55 h90 => by rw [k3 k h90, up2_k _ _ h55], fun j hj => by rw [k3 55 (by decide), up2_j _ _ hj]⟩
  refine ⟨C, ?_, fin⟩
  unfold must2
  by_cases z : a = b
  · rw [if_pos (congrArg nI z), if_pos z]
    refine it_u2 (fun i => b2i ((List.range i).any (fun x => Wk w0 4 x x))) (fun i => nI i) (n := c) (e := b2i ((List.range c).any (fun x => Wk w0 4 x x))) rfl (by omega) (fun i hi => ?_) ?_ rfl
    · obtain ⟨n1, n2, -⟩ := k1 i (by omega)
      rw [(k55 k3).1, if_neg (nI_ge hi (by omega)), if_pos (am_ix_nI (by omega) (by decide)), nI_clamp (by omega), n1, bt_m i (by omega) _ n2, kb i i hi hi, am_let_s, am_let_s, nI_1, List.range_succ, List.any_append]
      show some (Sum.inl (b2i ((List.range i).any fun x => Wk w0 4 x x) ||| (if Wk w0 4 i i = true then 1 else 0), nI (i + 1))) = some (Sum.inl (b2i (((List.range i).any fun x => Wk w0 4 x x) || ([i].any fun x => Wk w0 4 x x)), nI (i + 1)))
      rw [show ([i].any fun x => Wk w0 4 x x) = Wk w0 4 i i by simp]
      generalize ((List.range i).any fun x => Wk w0 4 x x) = u
      generalize Wk w0 4 i i = v
      cases u <;> cases v <;> rfl
    · rw [(k55 k3).1, if_pos (nI_le (Nat.le_refl c) (by omega))]
  · obtain ⟨n1, n2, -⟩ := k1 a (by omega)
    rw [if_neg (fun e => z ((un (by omega) (by omega)).mp e)), if_neg z, if_pos (am_ix_nI (by omega) (by decide)), nI_clamp (by omega), n1, bt_m b (by omega) _ n2, kb a b ha hb]
    rfl
