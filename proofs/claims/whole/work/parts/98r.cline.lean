/-! text: lines, and how the class reads them -/
abbrev gM : Type := (Nat × Nat × List rOp) ⊕ (Nat × Nat)
abbrev gK : Type := (List (Nat × List rOp)) ⊕ (Nat × Nat)
def gn (T : Nat → Int32) (k l : Nat) (L : List rOp) : gM :=
  if T k = 256 then (if 16 ≤ l then .inr (3, k) else if T (k + 1) < 261 ∨ 266 < T (k + 1) then .inr (1, k + 1)
    else if T (k + 2) = 257 then (match gz T 2000 1 0 (k + 3) L with
      | .inr f => .inr f
      | .inl (k1, L1) => if T k1 = 59 then .inl ((T (k + 1)).toNatClampNeg - 261, k1 + 1, L1) else .inr (1, k1))
    else if T (k + 2) = 59 then .inl ((T (k + 1)).toNatClampNeg - 261, k + 3, L) else .inr (1, k + 2))
  else .inr (1, k)
def gt (T : Nat → Int32) : Nat → Nat → List rOp → List (Nat × List rOp) → gK
  | 0, _, _, _ => .inr (0, 0)
  | f + 1, k, L, ls => if T k = 300 then .inl ls else (match gn T k ls.length L with
    | .inr e => .inr e
    | .inl (mm, k1, L1) => gt T f k1 L1 (ls ++ [(mm, L1.drop L.length)]))
theorem me_s {t : Int32} (h : okT t) (g : ¬ (t < 261 ∨ 266 < t)) : ∃ mm, mm < 6 ∧ t = nI (261 + mm) := by
  rcases h with rfl | rfl | ⟨j, hj, rfl⟩ | ⟨x, hx, rfl⟩ | h
  · exact absurd (Or.inr (by decide)) g
  · exact absurd (Or.inr (by decide)) g
  · have h1 : ¬ 256 + j < 261 := fun z => g (Or.inl (nI_lt (b := 261) z (by decide)))
    have h2 : ¬ 266 < 256 + j := fun z => g (Or.inr (nI_lt (a := 266) z (by omega)))
    exact ⟨j - 5, by omega, by rw [show 261 + (j - 5) = 256 + j by omega]⟩
  · exact absurd (Or.inr (nI_lt (a := 266) (by omega) (by omega))) g
  · exfalso
    unfold isMk at h
    simp only [Bool.or_eq_true, beq_iff_eq] at h
    rcases h with ((((((((rfl | rfl) | rfl) | rfl) | rfl) | rfl) | rfl) | rfl) | rfl) | rfl <;> exact g (Or.inl (by decide))
theorem gn_p {T : Nat → Int32} {m : Nat} (hT : ∀ k, okT (T k)) (hT3 : ∀ k, m ≤ k → T k = 300) {k l : Nat} {L : List rOp} (hk : k ≤ m) {mm k1 : Nat} {L1 : List rOp} (e : gn T k l L = .inl (mm, k1, L1)) : l < 16 ∧ k + 3 ≤ k1 ∧ k1 ≤ m ∧ mm < 6 ∧ T (k + 1) = nI (261 + mm) ∧ ∃ X, L1 = L ++ X ∧ X.length ≤ (rRefs X).length ∧ (rRefs X).length ≤ k1 - k ∧ (∀ o ∈ X, rOpOk o) ∧ (X = [] ∨ rRun X [] = some [true]) := by
  have lt : ∀ k, ¬ T k = 300 → k < m := fun k h => by
    by_cases z : m ≤ k
    · exact absurd (hT3 k z) h
    · omega
  unfold gn at e
  by_cases h1 : T k = 256
  · rw [if_pos h1] at e
    by_cases h2 : 16 ≤ l
    · rw [if_pos h2] at e; cases e
    · rw [if_neg h2] at e
      by_cases h3 : T (k + 1) < 261 ∨ 266 < T (k + 1)
      · rw [if_pos h3] at e; cases e
      · rw [if_neg h3] at e
        obtain ⟨m1, hm1, ht⟩ := me_s (hT (k + 1)) h3
        have hq : (T (k + 1)).toNatClampNeg - 261 = m1 := by rw [ht, nI_clamp (by omega)]; omega
        rw [hq] at e
        by_cases h4 : T (k + 2) = 257
        · rw [if_pos h4] at e
          have hk2 := lt _ (by rw [h4]; decide : ¬ T (k + 2) = 300)
          cases hg : gz T 2000 1 0 (k + 3) L with
          | inr f => rw [hg] at e; cases e
          | inl q =>
            obtain ⟨k2, L2⟩ := q
            rw [hg] at e
            obtain ⟨p1, p2, p3, X, rfl, p4⟩ := gz_p hT hT3 2000 1 0 (k + 3) L (by decide) hk2 k2 L2 hg
            have p1' : k + 3 + 1 ≤ k2 := p1
            have e2 : (if T k2 = 59 then (.inl (m1, k2 + 1, L ++ X) : gM) else .inr (1, k2)) = .inl (mm, k1, L1) := e
            by_cases h5 : T k2 = 59
            · rw [if_pos h5] at e2
              have hk3 := lt _ (by rw [h5]; decide : ¬ T k2 = 300)
              have e3 := Sum.inl.inj e2
              have e4 : m1 = mm := congrArg Prod.fst e3
              have e5 : k2 + 1 = k1 := congrArg (fun q => q.2.1) e3
              have e6 : L ++ X = L1 := congrArg (fun q => q.2.2) e3
              rw [← e4, ← e5, ← e6]
              refine ⟨by omega, by omega, hk3, hm1, ht, X, rfl, p4.1, by have := p4.2.1; omega, p4.2.2.1, Or.inr ?_⟩
              exact p4.2.2.2 [] (Nat.zero_le _)
            · rw [if_neg h5] at e2; cases e2
        · rw [if_neg h4] at e
          by_cases h5 : T (k + 2) = 59
          · rw [if_pos h5] at e
            have hk3 := lt _ (by rw [h5]; decide : ¬ T (k + 2) = 300)
            have e3 := Sum.inl.inj e
            have e4 : m1 = mm := congrArg Prod.fst e3
            have e5 : k + 3 = k1 := congrArg (fun q => q.2.1) e3
            have e6 : L = L1 := congrArg (fun q => q.2.2) e3
            rw [← e4, ← e5, ← e6]
            exact ⟨by omega, Nat.le_refl _, hk3, hm1, ht, [], by rw [List.append_nil], Nat.le_refl _, Nat.zero_le _, (by intro o h; cases h), Or.inl rfl⟩
          · rw [if_neg h5] at e; cases e
  · rw [if_neg h1] at e; cases e
def cL9 (m : Nat) (T : Nat → Int32) (S : Nat → Nat) (H : am_IT) (out : gM) (r : Int32) (I : am_IT) : Prop := match out with
  | .inl (mm, k, L) => r = 1 ∧ ∃ J, cS m T S H k L J ∧ F_X6_addLine_48 J (nI (261 + mm)) = some I
  | .inr (f, k) => r = 0 ∧ cF S H f k I
theorem c_addl (I : am_IT) {v : Int32} (h : ¬ (16 : Int32) ≤ I 48 0) (h2 : am_ix (I 48 0) 16 = true) : ∃ I', F_X6_addLine_48 I v = some I' := by
  unfold F_X6_addLine_48
  rw [if_neg h, if_pos h2, am_let_s, show (up2 I 49 (I 48 0).toNatClampNeg v) 48 0 = I 48 0 from rfl, if_pos h2]
  exact ⟨_, rfl⟩
theorem c_line {m : Nat} {T : Nat → Int32} {S : Nat → Nat} {H : am_IT} {k l : Nat} {L : List rOp} {I : am_IT} (hm : m ≤ 400) (hT : ∀ k, okT (T k)) (hT3 : ∀ k, m ≤ k → T k = 300) (C : cS m T S H k L I) (hL : L.length ≤ k) (h48 : H 48 0 = nI l) (hl : l ≤ 16) : ∃ r I', F_X7_readLine_47 I (nI l) = some (r, I') ∧ cL9 m T S H (gn T k l L) r I' := by
  have c7 : k ≤ m := C.2.1
  have lt : ∀ k, ¬ T k = 300 → k < m := fun k h => by
    by_cases z : m ≤ k
    · exact absurd (hT3 k z) h
    · omega
  unfold F_X7_readLine_47 gn
  rw [show I 47 7 = T k from C.2.2.2.1]
  by_cases h1 : T k = 256
  · rw [if_pos h1, if_pos h1]
    by_cases h2 : 16 ≤ l
    · obtain ⟨I1, e1, F1⟩ := c_ref hm C (v := 3) (f := 3) rfl
      rw [if_pos h2, if_neg (show ¬ nI l < (16 : Int32) from fun z => by have := (nI_ltI (a := l) (b := 16) (by omega) (by decide)).mp z; omega), e1, am_b2_s]
      exact ⟨_, _, rfl, rfl, F1⟩
    · obtain ⟨I1, e1, C1⟩ := c_adv hm C (lt k (by rw [h1]; decide))
      have al : ∀ (k' : Nat) (L' : List rOp) (J : am_IT) (v : Int32), cS m T S H k' L' J → ∃ I', F_X6_addLine_48 J v = some I' := by
        intro k' L' J v CJ
        have : J 48 0 = nI l := CJ.1.2.2.2.1.trans h48
        exact c_addl J (by rw [this]; exact nI_ge (b := 16) (by omega) (by decide)) (by rw [this]; exact am_ix_nI (by omega) (by decide))
      rw [if_neg h2, if_pos (show nI l < (16 : Int32) from nI_lt (b := 16) (by omega) (by decide)), e1, am_b1_s, am_let_s, show I1 47 7 = T (k + 1) from C1.2.2.2.1]
      by_cases h3 : T (k + 1) < 261 ∨ 266 < T (k + 1)
      · obtain ⟨I2, e2, F2⟩ := c_ref hm C1 (v := 1) (f := 1) rfl
        rw [if_pos h3]
        by_cases h4 : T (k + 1) < 261
        · rw [if_pos h4, e2, am_b2_s]
          exact ⟨_, _, rfl, rfl, F2⟩
        · have h5 : 266 < T (k + 1) := h3.resolve_left h4
          rw [if_neg h4, if_neg (fun z => absurd h5 (Int32.not_lt.mpr z)), e2, am_b2_s]
          exact ⟨_, _, rfl, rfl, F2⟩
      · obtain ⟨m1, hm1, ht⟩ := me_s (hT (k + 1)) h3
        have hq : (T (k + 1)).toNatClampNeg - 261 = m1 := by rw [ht, nI_clamp (by omega)]; omega
        have hk1 := lt (k + 1) (by
          rw [ht]
          intro z
          have := (nI_eq (a := 261 + m1) (b := 300) (by omega) (by decide)).mp z
          omega)
        obtain ⟨I2, e2, C2⟩ := c_adv hm C1 hk1
        rw [hq, if_neg h3, if_neg (fun z => h3 (Or.inl z)), if_pos (Int32.not_lt.mp (fun z => h3 (Or.inr z))), e2, am_b1_s, show I2 47 7 = T (k + 2) from C2.2.2.2.1, ht]
        by_cases h4 : T (k + 2) = 257
        · obtain ⟨I3, e3, C3⟩ := c_adv hm C2 (lt _ (by rw [h4]; decide))
          have h7 : k + 3 ≤ m := C3.2.1
          obtain ⟨r, I4, e4, R⟩ := (c_all hm hT hT3 2000).2.2.1 0 (k + 3) L I3 64 (by decide) C3 (by omega) (by omega) (by decide)
          have e4' : F_X7_readAny_47 I3 (0 : Int32) = some (r, I4) := e4
          rw [if_pos h4, if_pos h4, e3, am_b1_s, e4', am_b2_s]
          cases hg : gz T 2000 1 0 (k + 3) L with
          | inr f =>
            rw [hg] at R
            obtain ⟨rfl, R⟩ := R
            rw [if_pos rfl]
            exact ⟨_, _, rfl, rfl, R⟩
          | inl q =>
            obtain ⟨k1, L1⟩ := q
            rw [hg] at R
            obtain ⟨rfl, C4⟩ := R
            rw [if_neg (show ¬ (1 : Int32) = 0 by decide), show I4 47 7 = T k1 from C4.2.2.2.1]
            show ∃ r I', _ = some (r, I') ∧ cL9 m T S H (if T k1 = 59 then (.inl (m1, k1 + 1, L1) : gM) else .inr (1, k1)) r I'
            by_cases h5 : T k1 = 59
            · obtain ⟨I5, e5, C5⟩ := c_adv hm C4 (lt _ (by rw [h5]; decide))
              obtain ⟨I6, e6⟩ := al _ _ I5 (nI (261 + m1)) C5
              rw [if_pos h5, if_pos h5, e5, am_b1_s, e6, am_b1_s]
              exact ⟨_, _, rfl, rfl, I5, C5, e6⟩
            · obtain ⟨I5, e5, F5⟩ := c_ref hm C4 (v := 1) (f := 1) rfl
              rw [if_neg h5, if_neg h5, e5, am_b2_s]
              exact ⟨_, _, rfl, rfl, F5⟩
        · rw [if_neg h4, if_neg h4]
          by_cases h5 : T (k + 2) = 59
          · obtain ⟨I5, e5, C5⟩ := c_adv hm C2 (lt _ (by rw [h5]; decide))
            obtain ⟨I6, e6⟩ := al _ _ I5 (nI (261 + m1)) C5
            rw [if_pos h5, if_pos h5, e5, am_b1_s, e6, am_b1_s]
            exact ⟨_, _, rfl, rfl, I5, C5, e6⟩
          · obtain ⟨I5, e5, F5⟩ := c_ref hm C2 (v := 1) (f := 1) rfl
            rw [if_neg h5, if_neg h5, e5, am_b2_s]
            exact ⟨_, _, rfl, rfl, F5⟩
  · obtain ⟨I1, e1, F1⟩ := c_ref hm C (v := 1) (f := 1) rfl
    rw [if_neg h1, if_neg h1, e1, am_b2_s]
    exact ⟨_, _, rfl, rfl, F1⟩
