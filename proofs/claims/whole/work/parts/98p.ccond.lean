/-! text: how the class reads a condition -/
theorem pO_len {T : Nat → Int32} {m k c d e : Nat} {L : List rOp} {a b : List Bool} {q : Nat → Prop} {r : gO} (h : pO T m k L c d e a b q r) {k' : Nat} {L' : List rOp} (hr : r = .inl (k', L')) : k + d ≤ k' ∧ k' ≤ m ∧ L'.length + k ≤ L.length + k' + e := by
  obtain ⟨p1, p2, p3, X, rfl, p4⟩ := h k' L' hr
  refine ⟨p1, p2, ?_⟩
  rw [List.length_append]
  have := p4.1
  have := p4.2.1
  omega
theorem c_cmp {m : Nat} {T : Nat → Int32} {S : Nat → Nat} {H : am_IT} {k : Nat} {L : List rOp} {I : am_IT} (hm : m ≤ 400) (hT : ∀ k, okT (T k)) (hT3 : ∀ k, m ≤ k → T k = 300) (C : cS m T S H k L I) (hL : L.length ≤ k) : ∃ r I', F_X7_readComparison_47 I = some (r, I') ∧ cR m T S H (gc T k L) r I' := by
  have c7 : k ≤ m := C.2.1
  unfold F_X7_readComparison_47 gc
  obtain ⟨r, I1, e1, R⟩ := c_sum hm hT hT3 C hL
  rw [e1, am_b2_s]
  cases h1 : gs T k L with
  | inr f =>
    rw [h1] at R
    obtain ⟨rfl, R⟩ := R
    rw [if_pos rfl]
    exact ⟨_, _, rfl, rfl, R⟩
  | inl q =>
    obtain ⟨k1, L1⟩ := q
    rw [h1] at R
    obtain ⟨rfl, C1⟩ := R
    obtain ⟨p1, p2, p3⟩ := pO_len (gs_p hT hT3 L c7) h1
    rw [if_neg (show ¬ (1 : Int32) = 0 by decide), am_let_s, show I1 47 7 = T k1 from C1.2.2.2.1]
    by_cases hc : T k1 = 60 ∨ T k1 = 61 ∨ T k1 = 62
    · have hk1 : k1 < m := by
        by_cases z : m ≤ k1
        · have := hT3 k1 z
          rw [this] at hc
          exact absurd hc (by decide)
        · omega
      obtain ⟨I2, e2, C2⟩ := c_adv hm C1 hk1
      obtain ⟨r, I3, e3, R⟩ := c_sum hm hT hT3 C2 (by omega)
      have fin : ∀ (v : Int32) (x : Nat), v = nI x → x < 15 → x = (if T k1 = 60 then 7 else if T k1 = 61 then 8 else 9) → ∃ r' I', (if r = 0 then some ((0 : Int32), I3) else am_b1 (F_X6_addStep_48 I3 v 0) (fun I_21 => some ((1 : Int32), I_21))) = some (r', I') ∧ cR m T S H (match gs T (k1 + 1) L1 with
        | .inr f => (.inr f : gO)
        | .inl (k2, L2) => .inl (k2, L2 ++ [(if T k1 = 60 then 7 else if T k1 = 61 then 8 else 9, 0)])) r' I' := by
        intro v x hv hx hx2
        cases h2 : gs T (k1 + 1) L1 with
        | inr f =>
          rw [h2] at R
          obtain ⟨rfl, R⟩ := R
          rw [if_pos rfl]
          exact ⟨_, _, rfl, rfl, R⟩
        | inl q =>
          obtain ⟨k2, L2⟩ := q
          rw [h2] at R
          obtain ⟨rfl, C3⟩ := R
          obtain ⟨q1, q2, q3⟩ := pO_len (gs_p hT hT3 L1 hk1) h2
          obtain ⟨I4, e4, C4⟩ := c_add C3 (x, 0) (a := v) (b := 0) hv rfl hx (by omega)
          rw [if_neg (show ¬ (1 : Int32) = 0 by decide), e4, am_b1_s]
          rw [hx2] at C4
          exact ⟨_, _, rfl, rfl, C4⟩
      have main : ∃ r' I', (if T k1 = (60 : Int32) then (am_b1 (F_X7_advance_47 I1) (fun (I_9 : am_IT) => am_b2 (F_X7_readSum_47 I_9) (fun (r_11 : Int32) (I_12 : am_IT) => if r_11 = 0 then (some ((0 : Int32), I_12)) else (am_b1 (if T k1 = (60 : Int32) then (some ((7 : Int32))) else (if T k1 = (61 : Int32) then (some ((8 : Int32))) else (some ((9 : Int32))))) (fun (v_16 : Int32) => am_b1 (F_X6_addStep_48 I_12 v_16 (0 : Int32)) (fun (I_21 : am_IT) => some ((1 : Int32), I_21))))))) else (if T k1 = (61 : Int32) then (am_b1 (F_X7_advance_47 I1) (fun (I_9 : am_IT) => am_b2 (F_X7_readSum_47 I_9) (fun (r_11 : Int32) (I_12 : am_IT) => if r_11 = 0 then (some ((0 : Int32), I_12)) else (am_b1 (if T k1 = (60 : Int32) then (some ((7 : Int32))) else (if T k1 = (61 : Int32) then (some ((8 : Int32))) else (some ((9 : Int32))))) (fun (v_16 : Int32) => am_b1 (F_X6_addStep_48 I_12 v_16 (0 : Int32)) (fun (I_21 : am_IT) => some ((1 : Int32), I_21))))))) else (if T k1 = (62 : Int32) then (am_b1 (F_X7_advance_47 I1) (fun (I_9 : am_IT) => am_b2 (F_X7_readSum_47 I_9) (fun (r_11 : Int32) (I_12 : am_IT) => if r_11 = 0 then (some ((0 : Int32), I_12)) else (am_b1 (if T k1 = (60 : Int32) then (some ((7 : Int32))) else (if T k1 = (61 : Int32) then (some ((8 : Int32))) else (some ((9 : Int32))))) (fun (v_16 : Int32) => am_b1 (F_X6_addStep_48 I_12 v_16 (0 : Int32)) (fun (I_21 : am_IT) => some ((1 : Int32), I_21))))))) else (am_b2 (F_X7_refuse_47 I1 (1 : Int32)) (fun (r_53 : Int32) (I_54 : am_IT) => some (r_53, I_54)))))) = some (r', I') ∧ cR m T S H (match gs T (k1 + 1) L1 with
        | .inr f => (.inr f : gO)
        | .inl (k2, L2) => .inl (k2, L2 ++ [(if T k1 = 60 then 7 else if T k1 = 61 then 8 else 9, 0)])) r' I' := by
        rcases hc with hc | hc | hc
        · rw [hc] at fin ⊢
          rw [if_pos rfl, e2, am_b1_s, e3, am_b2_s, if_pos rfl]
          exact fin 7 7 rfl (by decide) rfl
        · rw [hc] at fin ⊢
          rw [if_neg (show ¬ (61 : Int32) = 60 by decide), if_pos rfl, e2, am_b1_s, e3, am_b2_s, if_neg (show ¬ (61 : Int32) = 60 by decide), if_pos rfl]
          exact fin 8 8 rfl (by decide) rfl
        · rw [hc] at fin ⊢
          rw [if_neg (show ¬ (62 : Int32) = 60 by decide), if_neg (show ¬ (62 : Int32) = 61 by decide), if_pos rfl, e2, am_b1_s, e3, am_b2_s, if_neg (show ¬ (62 : Int32) = 60 by decide), if_neg (show ¬ (62 : Int32) = 61 by decide)]
          exact fin 9 9 rfl (by decide) rfl
      show ∃ r' I', _ = some (r', I') ∧ cR m T S H (if T k1 = 60 ∨ T k1 = 61 ∨ T k1 = 62 then (match gs T (k1 + 1) L1 with
        | .inr f => (.inr f : gO)
        | .inl (k2, L2) => .inl (k2, L2 ++ [(if T k1 = 60 then 7 else if T k1 = 61 then 8 else 9, 0)])) else .inr (1, k1)) r' I'
      rw [if_pos hc]
      exact main
    · obtain ⟨I2, e2, F2⟩ := c_ref hm C1 (v := 1) (f := 1) rfl
      show ∃ r' I', _ = some (r', I') ∧ cR m T S H (if T k1 = 60 ∨ T k1 = 61 ∨ T k1 = 62 then (match gs T (k1 + 1) L1 with
        | .inr f => (.inr f : gO)
        | .inl (k2, L2) => .inl (k2, L2 ++ [(if T k1 = 60 then 7 else if T k1 = 61 then 8 else 9, 0)])) else .inr (1, k1)) r' I'
      rw [if_neg hc, if_neg (fun z => hc (Or.inl z)), if_neg (fun z => hc (Or.inr (Or.inl z))), if_neg (fun z => hc (Or.inr (Or.inr z))), e2, am_b2_s]
      exact ⟨_, _, rfl, rfl, F2⟩
def bAll (rec : Nat → am_IT → Int32 → Option (Int32 × am_IT)) (a1 : Int32) : Int32 → am_IT → Option ((Int32 × am_IT) ⊕ (am_IT ⊕ (Int32 × am_IT))) := (fun (l2_6 : Int32) (I_7 : am_IT) => if (I_7 47 5) ≤ l2_6 then (some (.inr (.inl (I_7)))) else (if (I_7 47 7) = (259 : Int32) then (am_b1 (F_X7_advance_47 I_7) (fun (I_17 : am_IT) => am_b2 (rec 4 I_17 a1) (fun (r_19 : Int32) (I_20 : am_IT) => if r_19 = 0 then (some (.inr (.inr ((0 : Int32), I_20)))) else (am_b1 (F_X6_addStep_48 I_20 (10 : Int32) (0 : Int32)) (fun (I_24 : am_IT) => am_let (l2_6 + (1 : Int32)) (fun (l2_25 : Int32) => some (.inl (l2_25, I_24)))))))) else (some (.inr (.inl (I_7))))))
def bAny (rec : Nat → am_IT → Int32 → Option (Int32 × am_IT)) (a1 : Int32) : Int32 → am_IT → Option ((Int32 × am_IT) ⊕ (am_IT ⊕ (Int32 × am_IT))) := (fun (l2_6 : Int32) (I_7 : am_IT) => if (I_7 47 5) ≤ l2_6 then (some (.inr (.inl (I_7)))) else (if (I_7 47 7) = (258 : Int32) then (am_b1 (F_X7_advance_47 I_7) (fun (I_17 : am_IT) => am_b2 (rec 0 I_17 a1) (fun (r_19 : Int32) (I_20 : am_IT) => if r_19 = 0 then (some (.inr (.inr ((0 : Int32), I_20)))) else (am_b1 (F_X6_addStep_48 I_20 (11 : Int32) (0 : Int32)) (fun (I_24 : am_IT) => am_let (l2_6 + (1 : Int32)) (fun (l2_25 : Int32) => some (.inl (l2_25, I_24)))))))) else (some (.inr (.inl (I_7))))))
def kO (m : Nat) (T : Nat → Int32) (S : Nat → Nat) (H : am_IT) (out : gO) (z : am_IT ⊕ (Int32 × am_IT)) : Prop := match out with
  | .inl (k, L) => ∃ I : am_IT, z = .inl I ∧ cS m T S H k L I
  | .inr (f, k) => ∃ I : am_IT, z = .inr (0, I) ∧ cF S H f k I
