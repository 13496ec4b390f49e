/-! what must stand above what -/
def Wk (w0 : Nat → Nat → Bool) : Nat → Nat → Nat → Bool
  | 0, a, b => w0 a b
  | k + 1, a, b => Wk w0 k a b || (Wk w0 k a k && Wk w0 k k b)
def Dk (w0 : Nat → Nat → Bool) (c : Nat) : Nat → Nat → Nat → Prop
  | 0, a, b => w0 a b = true
  | t + 1, a, b => Dk w0 c t a b ∨ ∃ o, o < c ∧ Dk w0 c t a o ∧ Dk w0 c t o b
theorem Wk_s {w0 : Nat → Nat → Bool} {k a b : Nat} : Wk w0 (k + 1) a b = true ↔ (Wk w0 k a b = true ∨ (Wk w0 k a k = true ∧ Wk w0 k k b = true)) := by
  show (Wk w0 k a b || (Wk w0 k a k && Wk w0 k k b)) = true ↔ _
  rw [Bool.or_eq_true, Bool.and_eq_true]
theorem Wk_c {w0 : Nat → Nat → Bool} {k a : Nat} : Wk w0 (k + 1) a k = Wk w0 k a k := by
  show (Wk w0 k a k || (Wk w0 k a k && Wk w0 k k k)) = Wk w0 k a k
  cases Wk w0 k a k <;> simp
theorem Wk_r {w0 : Nat → Nat → Bool} {k b : Nat} : Wk w0 (k + 1) k b = Wk w0 k k b := by
  show (Wk w0 k k b || (Wk w0 k k k && Wk w0 k k b)) = Wk w0 k k b
  cases Wk w0 k k b <;> simp
theorem Wk_t {w0 : Nat → Nat → Bool} : ∀ k j a b, j < k → Wk w0 k a j = true → Wk w0 k j b = true → Wk w0 k a b = true
  | 0, _, _, _, h, _, _ => by omega
  | k + 1, j, a, b, h, h1, h2 => by
    by_cases z : j = k
    · subst z
      rw [Wk_c] at h1
      rw [Wk_r] at h2
      exact Wk_s.mpr (Or.inr ⟨h1, h2⟩)
    · have T := fun a b => Wk_t (w0 := w0) k j a b (by omega)
      rcases Wk_s.mp h1 with p1 | ⟨p1, p2⟩
      · rcases Wk_s.mp h2 with q1 | ⟨q1, q2⟩
        · exact Wk_s.mpr (Or.inl (T a b p1 q1))
        · exact Wk_s.mpr (Or.inr ⟨T a k p1 q1, q2⟩)
      · rcases Wk_s.mp h2 with q1 | ⟨q1, q2⟩
        · exact Wk_s.mpr (Or.inr ⟨p1, T k b p2 q1⟩)
        · exact Wk_s.mpr (Or.inr ⟨p1, q2⟩)
theorem Wk_m {w0 : Nat → Nat → Bool} {a b : Nat} (h : w0 a b = true) : ∀ k, Wk w0 k a b = true
  | 0 => h
  | k + 1 => Wk_s.mpr (Or.inl (Wk_m h k))
theorem Wk_lt {w0 : Nat → Nat → Bool} {c : Nat} (hb : ∀ a b, w0 a b = true → a < c ∧ b < c) : ∀ k a b, Wk w0 k a b = true → a < c ∧ b < c
  | 0, a, b, h => hb a b h
  | k + 1, a, b, h => by
    rcases Wk_s.mp h with h1 | ⟨h1, h2⟩
    · exact Wk_lt hb k a b h1
    · exact ⟨(Wk_lt hb k a k h1).1, (Wk_lt hb k k b h2).2⟩
theorem Wk_D {w0 : Nat → Nat → Bool} {c : Nat} : ∀ k a b, k ≤ c → Wk w0 k a b = true → Dk w0 c k a b
  | 0, _, _, _, h => h
  | k + 1, a, b, hk, h => by
    rcases Wk_s.mp h with h1 | ⟨h1, h2⟩
    · exact Or.inl (Wk_D k a b (by omega) h1)
    · exact Or.inr ⟨k, by omega, Wk_D k a k (by omega) h1, Wk_D k k b (by omega) h2⟩
theorem Wk_st {w0 : Nat → Nat → Bool} {c : Nat} (hb : ∀ a b, w0 a b = true → a < c ∧ b < c) : ∀ j a b, Wk w0 (c + j) a b = true → Wk w0 c a b = true
  | 0, _, _, h => h
  | j + 1, a, b, h => by
    rcases Wk_s.mp (show Wk w0 ((c + j) + 1) a b = true from h) with h1 | ⟨h1, h2⟩
    · exact Wk_st hb j a b h1
    · have := (Wk_lt hb _ _ _ h1).2; omega
/-- the closure: held between the doublings and any set that holds it -/
theorem Wk_4D {w0 : Nat → Nat → Bool} {c : Nat} (hb : ∀ a b, w0 a b = true → a < c ∧ b < c) (hc : c ≤ 4) {a b : Nat} (h : Wk w0 4 a b = true) : Dk w0 c c a b := by
  rw [show 4 = c + (4 - c) by omega] at h
  exact Wk_D c a b (Nat.le_refl c) (Wk_st hb (4 - c) a b h)
theorem Wk_4t {w0 : Nat → Nat → Bool} {j a b : Nat} (hj : j < 4) (h1 : Wk w0 4 a j = true) (h2 : Wk w0 4 j b = true) : Wk w0 4 a b = true := Wk_t 4 j a b hj h1 h2
def b2i (x : Bool) : Int32 := if x = true then 1 else 0
theorem b2i_1 (x : Bool) : b2i x = 1 ↔ x = true := by
  unfold b2i
  cases x
  · rw [if_neg (by decide)]; exact ⟨fun h => absurd h (by decide), fun h => absurd h (by decide)⟩
  · rw [if_pos rfl]; exact ⟨fun _ => rfl, fun _ => rfl⟩
theorem e_ia {J : am_IT} {a b : Nat} {x : Bool} (ha : a < 4) (hb : b < 4) (h : J 17 (4 * a + b) = b2i x) : F_X1_isAbove_15 J (nI a) (nI b) = some (b2i x) := by
  unfold F_X1_isAbove_15
  rw [m4, if_pos (am_ix_nI (by omega) (by decide)), nI_clamp (by omega), h]
  cases x
  · rw [if_neg (show ¬ b2i false = 1 by decide)]; rfl
  · rw [if_pos (show b2i true = 1 from rfl)]; rfl
/-- the class's cells while stage k is under way -/
def vk (w0 : Nat → Nat → Bool) (k a b x y : Nat) : Bool := if x < a ∨ (x = a ∧ y < b) then Wk w0 (k + 1) x y else Wk w0 k x y
theorem vk_c {w0 : Nat → Nat → Bool} {k a b x : Nat} : vk w0 k a b x k = Wk w0 k x k := by
  unfold vk
  split
  · exact Wk_c
  · rfl
theorem vk_r {w0 : Nat → Nat → Bool} {k a b y : Nat} : vk w0 k a b k y = Wk w0 k k y := by
  unfold vk
  split
  · exact Wk_r
  · rfl
theorem e_fo {J : am_IT} {q : Nat} (hq : q < 7) (w0 : Nat → Nat → Bool) (h0 : ∀ a b, a < 4 → b < 4 → J 16 (16 * q + 4 * a + b) = b2i (w0 a b)) : ∃ K, F_X1_follow_15 J (nI q) = some K ∧ (∀ a b, a < 4 → b < 4 → K 17 (4 * a + b) = b2i (Wk w0 4 a b)) ∧ ∀ a, a ≠ 17 → K a = J a := by
  unfold F_X1_follow_15
  have e16 : nI q * 16 = nI (16 * q) := by rw [show (16 : Int32) = nI 16 from rfl, pk_mul, Nat.mul_comm]
  have ecp : am_cpok (nI q * 16) (0 : Int32) (16 : Int32) 112 16 = true := (by decide : ∀ q, q < 7 → am_cpok (nI q * 16) (0 : Int32) (16 : Int32) 112 16 = true) q hq
  rw [if_pos ecp, am_let_s, e16, nI_clamp (by omega)]
  refine it_b1_inv (R := fun z => ∃ K : am_IT, z = some K ∧ (∀ a b, a < 4 → b < 4 → K 17 (4 * a + b) = b2i (Wk w0 4 a b)) ∧ ∀ a, a ≠ 17 → K a = J a)
    (fun k x => ∃ K : am_IT, x = (nI k, K) ∧ (∀ a b, a < 4 → b < 4 → K 17 (4 * a + b) = b2i (Wk w0 k a b)) ∧ ∀ a, a ≠ 17 → K a = J a)
    (fun (K : am_IT) => (∀ a b, a < 4 → b < 4 → K 17 (4 * a + b) = b2i (Wk w0 4 a b)) ∧ ∀ a, a ≠ 17 → K a = J a) (n := 4) (by omega) ?_ ?_ ⟨_, by rw [nI_0], fun a b ha hb => ?_, fun a ha => ?_⟩ (fun K h => ⟨K, rfl, h⟩)
  · rintro k x hk ⟨K, rfl, k1, k2⟩
    rw [am_u2_s, if_neg (show ¬ (4 : Int32) ≤ nI k from nI_ge (a := k) (b := 4) hk (by decide))]
    refine it_b1_inv (R := fun (z : Option ((Int32 × am_IT) ⊕ am_IT)) => ∃ y : Int32 × am_IT, z = some (.inl y) ∧ ∃ K : am_IT, y = (nI (k + 1), K) ∧ (∀ a b, a < 4 → b < 4 → K 17 (4 * a + b) = b2i (Wk w0 (k + 1) a b)) ∧ ∀ a, a ≠ 17 → K a = J a)
      (fun i x => ∃ L : am_IT, x = (nI i, L) ∧ (∀ a b, a < 4 → b < 4 → L 17 (4 * a + b) = b2i (vk w0 k i 0 a b)) ∧ ∀ a, a ≠ 17 → L a = J a)
      (fun (L : am_IT) => (∀ a b, a < 4 → b < 4 → L 17 (4 * a + b) = b2i (Wk w0 (k + 1) a b)) ∧ ∀ a, a ≠ 17 → L a = J a) (n := 4) (by omega) ?_ ?_ ⟨K, by rw [nI_0], fun a b ha hb => ?_, k2⟩ ?_
    · rintro i x hi ⟨L, rfl, l1, l2⟩
      rw [am_u2_s, if_neg (show ¬ (4 : Int32) ≤ nI i from nI_ge (a := i) (b := 4) hi (by decide))]
      refine it_b1_inv (R := fun (z : Option ((Int32 × am_IT) ⊕ am_IT)) => ∃ y : Int32 × am_IT, z = some (.inl y) ∧ ∃ L : am_IT, y = (nI (i + 1), L) ∧ (∀ a b, a < 4 → b < 4 → L 17 (4 * a + b) = b2i (vk w0 k (i + 1) 0 a b)) ∧ ∀ a, a ≠ 17 → L a = J a)
        (fun j x => ∃ M : am_IT, x = (nI j, M) ∧ (∀ a b, a < 4 → b < 4 → M 17 (4 * a + b) = b2i (vk w0 k i j a b)) ∧ ∀ a, a ≠ 17 → M a = J a)
        (fun (M : am_IT) => (∀ a b, a < 4 → b < 4 → M 17 (4 * a + b) = b2i (vk w0 k i 4 a b)) ∧ ∀ a, a ≠ 17 → M a = J a) (n := 4) (by omega) ?_ ?_ ⟨L, by rw [nI_0], l1, l2⟩ ?_
      · rintro j x hj ⟨M, rfl, m1, m2⟩
        have e1 : M 17 (4 * i + k) = b2i (Wk w0 k i k) := by rw [m1 i k hi hk, vk_c]
        have e2 : M 17 (4 * k + j) = b2i (Wk w0 k k j) := by rw [m1 k j hk hj, vk_r]
        have e3 : M 17 (4 * i + j) = b2i (Wk w0 k i j) := by
          rw [m1 i j hi hj]
          unfold vk
          rw [if_neg (by omega)]
        have ews : Wk w0 (k + 1) i j = (Wk w0 k i j || (Wk w0 k i k && Wk w0 k k j)) := rfl
        have nx : ∀ N : am_IT, N 17 (4 * i + j) = b2i (Wk w0 (k + 1) i j) → (∀ x, x ≠ 4 * i + j → N 17 x = M 17 x) → ∀ a b, a < 4 → b < 4 → N 17 (4 * a + b) = b2i (vk w0 k i (j + 1) a b) := by
          intro N h1 h2 a b ha hb
          by_cases z : a = i ∧ b = j
          · obtain ⟨rfl, rfl⟩ := z
            rw [h1]
            unfold vk
            rw [if_pos (by omega)]
          · rw [h2 _ (by omega), m1 a b ha hb]
            unfold vk
            by_cases z2 : a < i ∨ (a = i ∧ b < j)
            · rw [if_pos z2, if_pos (show a < i ∨ (a = i ∧ b < j + 1) by omega)]
            · rw [if_neg z2, if_neg (show ¬ (a < i ∨ (a = i ∧ b < j + 1)) by omega)]
        rw [am_u2_s, if_neg (show ¬ (4 : Int32) ≤ nI j from nI_ge (a := j) (b := 4) hj (by decide)), e_ia hi hk e1, am_b1_s]
        cases c1 : Wk w0 k i k with
        | false =>
          refine ⟨(nI (j + 1), M), by rw [if_pos (show b2i false = 0 from rfl), am_let_s, nI_1], M, rfl, nx M ?_ (fun _ _ => rfl), m2⟩
          rw [e3, ews, c1, Bool.false_and, Bool.or_false]
        | true =>
          rw [if_neg (show ¬ b2i true = 0 by decide), e_ia hk hj e2, am_b1_s]
          cases c2 : Wk w0 k k j with
          | false =>
            refine ⟨(nI (j + 1), M), by rw [if_pos (show b2i false = 0 from rfl), am_let_s, nI_1], M, rfl, nx M ?_ (fun _ _ => rfl), m2⟩
            rw [e3, ews, c1, c2, Bool.and_false, Bool.or_false]
          | true =>
            refine ⟨(nI (j + 1), up2 M 17 (4 * i + j) 1), ?_, _, rfl, nx _ ?_ (fun x hx => up2_j _ _ hx), fun a ha => by rw [up2_k _ _ ha]; exact m2 a ha⟩
            · rw [if_neg (show ¬ b2i true = 0 by decide), m4, if_pos (am_ix_nI (by omega) (by decide)), am_let_s, am_let_s, nI_clamp (by omega), nI_1]
            · rw [up2_s, ews, c1, c2, Bool.and_true, Bool.or_true]; rfl
      · rintro x ⟨M, rfl, m1, m2⟩
        exact ⟨M, by rw [am_u2_s, if_pos (show (4 : Int32) ≤ nI 4 by decide)], m1, m2⟩
      rintro M ⟨m1, m2⟩
      refine ⟨(nI (i + 1), M), by rw [am_let_s, nI_1], M, rfl, fun a b ha hb => ?_, m2⟩
      rw [m1 a b ha hb]
      unfold vk
      by_cases z2 : a < i ∨ (a = i ∧ b < 4)
      · rw [if_pos z2, if_pos (show a < i + 1 ∨ (a = i + 1 ∧ b < 0) by omega)]
      · rw [if_neg z2, if_neg (show ¬ (a < i + 1 ∨ (a = i + 1 ∧ b < 0)) by omega)]
    · rintro x ⟨L, rfl, l1, l2⟩
      refine ⟨L, by rw [am_u2_s, if_pos (show (4 : Int32) ≤ nI 4 by decide)], fun a b ha hb => ?_, l2⟩
      rw [l1 a b ha hb]
      unfold vk
      rw [if_pos (by omega)]
    · rw [k1 a b ha hb]
      unfold vk
      rw [if_neg (by omega)]
    rintro L ⟨l1, l2⟩
    exact ⟨(nI (k + 1), L), by rw [am_let_s, nI_1], L, rfl, l1, l2⟩
  · rintro x ⟨K, rfl, k1, k2⟩
    exact ⟨K, by rw [am_u2_s, if_pos (show (4 : Int32) ≤ nI 4 by decide)], k1, k2⟩
  · show cpy2 J 16 17 (16 * q) 0 16 17 (4 * a + b) = b2i (w0 a b)
    unfold cpy2
    rw [if_pos ⟨rfl, Nat.zero_le _, by omega⟩, ← h0 a b ha hb]
    exact congrArg (J 16) (by omega)
  · funext j
    unfold cpy2
    rw [if_neg (fun e => ha e.1)]
