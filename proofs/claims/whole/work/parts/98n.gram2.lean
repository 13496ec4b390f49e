/-! text: what the grammar gives -/
def aJ : Nat → List Bool
  | 5 => [true]
  | 6 => [true]
  | _ => []
def cJ (o : Nat) : Nat → Nat
  | 1 => 2 * o
  | 6 => 2 * o
  | 0 => 2 * o + 1
  | 5 => 2 * o + 1
  | _ => 2 * o + 2
def dJ : Nat → Nat
  | 5 => 0
  | 6 => 0
  | _ => 1
def qJ (T : Nat → Int32) : Nat → Nat → Nat → Prop
  | 0, _, k => ¬ T k = 259
  | 5, _, k => ¬ T k = 259
  | 1, _, k => ¬ T k = 258 ∧ ¬ T k = 259
  | 6, j, k => ¬ T k = 258 ∧ (¬ T j = 259 → ¬ T k = 259)
  | _, _, _ => True
theorem ty_c {X : List rOp} {c c' e : Nat} {a b : List Bool} (h : ty X c a b e) (g : c' ≤ c) : ty X c' a b e := ⟨h.1, h.2.1, h.2.2.1, fun s hs => h.2.2.2 s (by omega)⟩
theorem ty_3 (c : Nat) : ty [(3, 0)] c [true] [true] 1 := ty_1 (Or.inr (Or.inr (Or.inr ⟨by decide, by decide, rfl⟩))) (by decide) (fun s hs => rfl)
theorem ty_10 (c : Nat) : ty [(10, 0)] c [true, true] [true] 1 := ty_1 (Or.inr (Or.inr (Or.inr ⟨by decide, by decide, rfl⟩))) (by decide) (fun s hs => rfl)
theorem ty_11 (c : Nat) : ty [(11, 0)] c [true, true] [true] 1 := ty_1 (Or.inr (Or.inr (Or.inr ⟨by decide, by decide, rfl⟩))) (by decide) (fun s hs => rfl)
theorem gz_p {T : Nat → Int32} {m : Nat} (hT : ∀ k, okT (T k)) (hm : ∀ k, m ≤ k → T k = 300) : ∀ (n j o k : Nat) (L : List rOp), o ≤ 8 → k ≤ m → pO T m k L (cJ o j) (dJ j) 0 (aJ j) [true] (qJ T j k) (gz T n j o k L) := by
  have lt : ∀ k, ¬ T k = 300 → k + 1 ≤ m := fun k h => by
    by_cases z : m ≤ k
    · exact absurd (hm k z) h
    · omega
  intro n
  induction n with
  | zero => intro j o k L _ _ k' L' e; cases e
  | succ n ih =>
    intro j o k L ho hk k' L' e
    match j, e with
    | 0, e =>
      have e2 : (match gz T n 4 o k L with
        | .inr f => (.inr f : gO)
        | .inl (k1, L1) => gz T n 5 o k1 L1) = .inl (k', L') := e
      cases h : gz T n 4 o k L with
      | inr f => rw [h] at e2; cases e2
      | inl q =>
        obtain ⟨k1, L1⟩ := q
        rw [h] at e2
        obtain ⟨a1, a2, a3, X, rfl, a4⟩ := ih 4 o k L ho hk k1 L1 h
        obtain ⟨b1, b2, b3, Y, rfl, b4⟩ := ih 5 o k1 _ ho a2 k' L' e2
        have a1' : k + 1 ≤ k1 := a1
        have b1' : k1 + 0 ≤ k' := b1
        have t1 : ty X (2 * o + 1) [] [true] (k1 - k + 0) := ty_c a4 (by show 2 * o + 1 ≤ 2 * o + 2; omega)
        have t2 : ty Y (2 * o + 1) [true] [true] (k' - k1 + 0) := b4
        exact ⟨by show k + 1 ≤ k'; omega, b2, b3, X ++ Y, by rw [List.append_assoc], ty_le (ty_app t1 t2) (by omega)⟩
    | 1, e =>
      have e2 : (match gz T n 0 o k L with
        | .inr f => (.inr f : gO)
        | .inl (k1, L1) => gz T n 6 o k1 L1) = .inl (k', L') := e
      cases h : gz T n 0 o k L with
      | inr f => rw [h] at e2; cases e2
      | inl q =>
        obtain ⟨k1, L1⟩ := q
        rw [h] at e2
        obtain ⟨a1, a2, a3, X, rfl, a4⟩ := ih 0 o k L ho hk k1 L1 h
        obtain ⟨b1, b2, b3, Y, rfl, b4⟩ := ih 6 o k1 _ ho a2 k' L' e2
        have a1' : k + 1 ≤ k1 := a1
        have b1' : k1 + 0 ≤ k' := b1
        have t1 : ty X (2 * o) [] [true] (k1 - k + 0) := ty_c a4 (by show 2 * o ≤ 2 * o + 1; omega)
        have t2 : ty Y (2 * o) [true] [true] (k' - k1 + 0) := b4
        exact ⟨by show k + 1 ≤ k'; omega, b2, ⟨b3.1, b3.2 a3⟩, X ++ Y, by rw [List.append_assoc], ty_le (ty_app t1 t2) (by omega)⟩
    | 4, e =>
      have e2 : (if T k = 260 then (if 8 ≤ o then (.inr (3, k) : gO) else (match gz T n 4 (o + 1) (k + 1) L with
        | .inr f => .inr f
        | .inl (k1, L1) => .inl (k1, L1 ++ [(3, 0)])))
      else if T k = 40 then (if 8 ≤ o then .inr (3, k) else (match gz T n 1 (o + 1) (k + 1) L with
        | .inr f => .inr f
        | .inl (k1, L1) => if T k1 = 41 then .inl (k1 + 1, L1) else .inr (1, k1)))
      else gc T k L) = .inl (k', L') := e
      by_cases h1 : T k = 260
      · rw [if_pos h1] at e2
        by_cases h8 : 8 ≤ o
        · rw [if_pos h8] at e2; cases e2
        · rw [if_neg h8] at e2
          have hk1 := lt k (by rw [h1]; decide)
          cases h : gz T n 4 (o + 1) (k + 1) L with
          | inr f => rw [h] at e2; cases e2
          | inl q =>
            obtain ⟨k1, L1⟩ := q
            rw [h] at e2
            obtain ⟨a1, a2, a3, X, rfl, a4⟩ := ih 4 (o + 1) (k + 1) L (by omega) hk1 k1 L1 h
            have a1' : k + 1 + 1 ≤ k1 := a1
            have e3 := Sum.inl.inj e2
            have e4 : k1 = k' := congrArg Prod.fst e3
            have e5 : L ++ X ++ [(3, 0)] = L' := congrArg Prod.snd e3
            rw [← e4, ← e5]
            have t1 : ty X (2 * o + 2) [] [true] (k1 - (k + 1) + 0) := ty_c a4 (by show 2 * o + 2 ≤ 2 * (o + 1) + 2; omega)
            exact ⟨by show k + 1 ≤ k1; omega, a2, trivial, X ++ [(3, 0)], by rw [List.append_assoc], ty_le (ty_app t1 (ty_3 _)) (by omega)⟩
      · rw [if_neg h1] at e2
        by_cases h2 : T k = 40
        · rw [if_pos h2] at e2
          by_cases h8 : 8 ≤ o
          · rw [if_pos h8] at e2; cases e2
          · rw [if_neg h8] at e2
            have hk1 := lt k (by rw [h2]; decide)
            cases h : gz T n 1 (o + 1) (k + 1) L with
            | inr f => rw [h] at e2; cases e2
            | inl q =>
              obtain ⟨k1, L1⟩ := q
              rw [h] at e2
              obtain ⟨a1, a2, a3, X, rfl, a4⟩ := ih 1 (o + 1) (k + 1) L (by omega) hk1 k1 L1 h
              have a1' : k + 1 + 1 ≤ k1 := a1
              have e6 : (if T k1 = 41 then (.inl (k1 + 1, L ++ X) : gO) else .inr (1, k1)) = .inl (k', L') := e2
              by_cases h3 : T k1 = 41
              · rw [if_pos h3] at e6
                have hk2 := lt k1 (by rw [h3]; decide)
                have e3 := Sum.inl.inj e6
                have e4 : k1 + 1 = k' := congrArg Prod.fst e3
                have e5 : L ++ X = L' := congrArg Prod.snd e3
                rw [← e4, ← e5]
                have t1 : ty X (2 * o + 2) [] [true] (k1 - (k + 1) + 0) := ty_c a4 (by show 2 * o + 2 ≤ 2 * (o + 1); omega)
                exact ⟨by show k + 1 ≤ k1 + 1; omega, hk2, trivial, X, rfl, ty_le t1 (by omega)⟩
              · rw [if_neg h3] at e6; cases e6
        · rw [if_neg h2] at e2
          obtain ⟨a1, a2, a3, X, rfl, a4⟩ := gc_p hT hm L hk k' L' e2
          exact ⟨a1, a2, trivial, X, rfl, ty_c a4 (by show 2 * o + 2 ≤ 25; omega)⟩
    | 5, e =>
      have e2 : (if T k = 259 then (match gz T n 4 o (k + 1) L with
        | .inr f => (.inr f : gO)
        | .inl (k1, L1) => gz T n 5 o k1 (L1 ++ [(10, 0)])) else .inl (k, L)) = .inl (k', L') := e
      by_cases h1 : T k = 259
      · rw [if_pos h1] at e2
        have hk1 := lt k (by rw [h1]; decide)
        cases h : gz T n 4 o (k + 1) L with
        | inr f => rw [h] at e2; cases e2
        | inl q =>
          obtain ⟨k1, L1⟩ := q
          rw [h] at e2
          obtain ⟨a1, a2, a3, X, rfl, a4⟩ := ih 4 o (k + 1) L ho hk1 k1 L1 h
          obtain ⟨b1, b2, b3, Y, rfl, b4⟩ := ih 5 o k1 _ ho a2 k' L' e2
          have a1' : k + 1 + 1 ≤ k1 := a1
          have b1' : k1 + 0 ≤ k' := b1
          have t1 : ty X (2 * o + 1) [true] [true, true] (k1 - (k + 1) + 0) := ty_fr [true] a4 (by show 2 * o + 1 + 1 ≤ 2 * o + 2; omega)
          have t2 : ty Y (2 * o + 1) [true] [true] (k' - k1 + 0) := b4
          exact ⟨by show k + 0 ≤ k'; omega, b2, b3, X ++ [(10, 0)] ++ Y, by simp only [List.append_assoc], ty_le (ty_app (ty_app t1 (ty_10 _)) t2) (by omega)⟩
      · rw [if_neg h1] at e2
        have e3 := Sum.inl.inj e2
        have e4 : k = k' := congrArg Prod.fst e3
        have e5 : L = L' := congrArg Prod.snd e3
        rw [← e4, ← e5]
        exact ⟨Nat.le_refl _, hk, h1, [], by rw [List.append_nil], ty_le (ty_nil _ _) (Nat.zero_le _)⟩
    | 6, e =>
      have e2 : (if T k = 258 then (match gz T n 0 o (k + 1) L with
        | .inr f => (.inr f : gO)
        | .inl (k1, L1) => gz T n 6 o k1 (L1 ++ [(11, 0)])) else .inl (k, L)) = .inl (k', L') := e
      by_cases h1 : T k = 258
      · rw [if_pos h1] at e2
        have hk1 := lt k (by rw [h1]; decide)
        cases h : gz T n 0 o (k + 1) L with
        | inr f => rw [h] at e2; cases e2
        | inl q =>
          obtain ⟨k1, L1⟩ := q
          rw [h] at e2
          obtain ⟨a1, a2, a3, X, rfl, a4⟩ := ih 0 o (k + 1) L ho hk1 k1 L1 h
          obtain ⟨b1, b2, b3, Y, rfl, b4⟩ := ih 6 o k1 _ ho a2 k' L' e2
          have a1' : k + 1 + 1 ≤ k1 := a1
          have b1' : k1 + 0 ≤ k' := b1
          have t1 : ty X (2 * o) [true] [true, true] (k1 - (k + 1) + 0) := ty_fr [true] a4 (by show 2 * o + 1 ≤ 2 * o + 1; omega)
          have t2 : ty Y (2 * o) [true] [true] (k' - k1 + 0) := b4
          exact ⟨by show k + 0 ≤ k'; omega, b2, ⟨b3.1, fun _ => b3.2 a3⟩, X ++ [(11, 0)] ++ Y, by simp only [List.append_assoc], ty_le (ty_app (ty_app t1 (ty_11 _)) t2) (by omega)⟩
      · rw [if_neg h1] at e2
        have e3 := Sum.inl.inj e2
        have e4 : k = k' := congrArg Prod.fst e3
        have e5 : L = L' := congrArg Prod.snd e3
        rw [← e4, ← e5]
        exact ⟨Nat.le_refl _, hk, ⟨h1, fun z => z⟩, [], by rw [List.append_nil], ty_le (ty_nil _ _) (Nat.zero_le _)⟩
    | 2, e => cases e
    | 3, e => cases e
    | j + 7, e => cases e
