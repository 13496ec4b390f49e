/-! text: how the class reads a condition, by its grammar -/
def P4 (m : Nat) (T : Nat → Int32) (S : Nat → Nat) (H : am_IT) (n : Nat) : Prop := ∀ (o k : Nat) (L : List rOp) (I : am_IT) (g : Nat), o ≤ 8 → cS m T S H k L I → L.length ≤ k → 3 * (m - k) < n → 1 + 4 * (8 - o) ≤ g → ∃ r I', G_X7_readAll_47 g 4 I (nI o) = some (r, I') ∧ cR m T S H (gz T n 4 o k L) r I'
def P0 (m : Nat) (T : Nat → Int32) (S : Nat → Nat) (H : am_IT) (n : Nat) : Prop := ∀ (o k : Nat) (L : List rOp) (I : am_IT) (g : Nat), o ≤ 8 → cS m T S H k L I → L.length ≤ k → 3 * (m - k) + 1 < n → 2 + 4 * (8 - o) ≤ g → ∃ r I', G_X7_readAll_47 g 0 I (nI o) = some (r, I') ∧ cR m T S H (gz T n 0 o k L) r I'
def P1 (m : Nat) (T : Nat → Int32) (S : Nat → Nat) (H : am_IT) (n : Nat) : Prop := ∀ (o k : Nat) (L : List rOp) (I : am_IT) (g : Nat), o ≤ 8 → cS m T S H k L I → L.length ≤ k → 3 * (m - k) + 2 < n → 3 + 4 * (8 - o) ≤ g → ∃ r I', G_X7_readAll_47 g 1 I (nI o) = some (r, I') ∧ cR m T S H (gz T n 1 o k L) r I'
def P5 (m : Nat) (T : Nat → Int32) (S : Nat → Nat) (H : am_IT) (n : Nat) : Prop := ∀ (o k : Nat) (L : List rOp) (I : am_IT) (g c N : Nat), o ≤ 8 → cS m T S H k L I → L.length ≤ k → 3 * (m - k) < n → 1 + 4 * (8 - o) ≤ g → c ≤ k → m - k < N → ∃ z, am_it N (am_u2 (bAll (G_X7_readAll_47 g) (nI o))) (nI c, I) = some z ∧ kO m T S H (gz T n 5 o k L) z
def P6 (m : Nat) (T : Nat → Int32) (S : Nat → Nat) (H : am_IT) (n : Nat) : Prop := ∀ (o k : Nat) (L : List rOp) (I : am_IT) (g c N : Nat), o ≤ 8 → cS m T S H k L I → L.length ≤ k → 3 * (m - k) + 1 < n → 2 + 4 * (8 - o) ≤ g → c ≤ k → m - k < N → ∃ z, am_it N (am_u2 (bAny (G_X7_readAll_47 g) (nI o))) (nI c, I) = some z ∧ kO m T S H (gz T n 6 o k L) z
theorem c_p0 {m : Nat} {T : Nat → Int32} {S : Nat → Nat} {H : am_IT} (hm : m ≤ 400) (hT : ∀ k, okT (T k)) (hT3 : ∀ k, m ≤ k → T k = 300) {n : Nat} (h4 : P4 m T S H n) (h5 : P5 m T S H n) : P0 m T S H (n + 1) := by
  intro o k L I g ho C hL hn hg
  obtain ⟨g, rfl⟩ : ∃ g', g = g' + 1 := ⟨g - 1, by omega⟩
  have c7 : k ≤ m := C.2.1
  show ∃ r I', B_X7_readAll_47 (G_X7_readAll_47 g) I (nI o) = some (r, I') ∧ cR m T S H (match gz T n 4 o k L with
      | .inr f => (.inr f : gO)
      | .inl (k1, L1) => gz T n 5 o k1 L1) r I'
  unfold B_X7_readAll_47
  obtain ⟨r, I1, e1, R⟩ := h4 o k L I g ho C hL (by omega) (by omega)
  rw [e1, am_b2_s]
  cases hq : gz T n 4 o k L with
  | inr f =>
    rw [hq] at R
    obtain ⟨rfl, R⟩ := R
    rw [if_pos rfl]
    exact ⟨_, _, rfl, rfl, R⟩
  | inl q =>
    obtain ⟨k1, L1⟩ := q
    rw [hq] at R
    obtain ⟨rfl, C1⟩ := R
    obtain ⟨p1, p2, p3⟩ := pO_len (gz_p hT hT3 n 4 o k L ho c7) hq
    have p1' : k + 1 ≤ k1 := p1
    rw [if_neg (show ¬ (1 : Int32) = 0 by decide)]
    obtain ⟨z, hz, hO⟩ := h5 o k1 L1 I1 g 0 am_fu ho C1 (by omega) (by omega) (by omega) (Nat.zero_le _) (by show m - k1 < 1000000; omega)
    have hz' : am_it am_fu (am_u2 (bAll (G_X7_readAll_47 g) (nI o))) ((0 : Int32), I1) = some z := hz
    unfold bAll at hz'
    rw [hz']
    show ∃ r I', _ = some (r, I') ∧ cR m T S H (gz T n 5 o k1 L1) r I'
    revert hO
    generalize gz T n 5 o k1 L1 = out
    intro hO
    match out, hO with
    | .inl (k2, L2), hO =>
      obtain ⟨I2, rfl, C2⟩ := hO
      exact ⟨_, _, rfl, rfl, C2⟩
    | .inr (f, k2), hO =>
      obtain ⟨I2, rfl, F⟩ := hO
      exact ⟨_, _, rfl, rfl, F⟩
theorem c_p1 {m : Nat} {T : Nat → Int32} {S : Nat → Nat} {H : am_IT} (hm : m ≤ 400) (hT : ∀ k, okT (T k)) (hT3 : ∀ k, m ≤ k → T k = 300) {n : Nat} (h4 : P0 m T S H n) (h5 : P6 m T S H n) : P1 m T S H (n + 1) := by
  intro o k L I g ho C hL hn hg
  obtain ⟨g, rfl⟩ : ∃ g', g = g' + 1 := ⟨g - 1, by omega⟩
  have c7 : k ≤ m := C.2.1
  show ∃ r I', B_X7_readAny_47 (G_X7_readAll_47 g) I (nI o) = some (r, I') ∧ cR m T S H (match gz T n 0 o k L with
      | .inr f => (.inr f : gO)
      | .inl (k1, L1) => gz T n 6 o k1 L1) r I'
  unfold B_X7_readAny_47
  obtain ⟨r, I1, e1, R⟩ := h4 o k L I g ho C hL (by omega) (by omega)
  rw [e1, am_b2_s]
  cases hq : gz T n 0 o k L with
  | inr f =>
    rw [hq] at R
    obtain ⟨rfl, R⟩ := R
    rw [if_pos rfl]
    exact ⟨_, _, rfl, rfl, R⟩
  | inl q =>
    obtain ⟨k1, L1⟩ := q
    rw [hq] at R
    obtain ⟨rfl, C1⟩ := R
    obtain ⟨p1, p2, p3⟩ := pO_len (gz_p hT hT3 n 0 o k L ho c7) hq
    have p1' : k + 1 ≤ k1 := p1
    rw [if_neg (show ¬ (1 : Int32) = 0 by decide)]
    obtain ⟨z, hz, hO⟩ := h5 o k1 L1 I1 g 0 am_fu ho C1 (by omega) (by omega) (by omega) (Nat.zero_le _) (by show m - k1 < 1000000; omega)
    have hz' : am_it am_fu (am_u2 (bAny (G_X7_readAll_47 g) (nI o))) ((0 : Int32), I1) = some z := hz
    unfold bAny at hz'
    rw [hz']
    show ∃ r I', _ = some (r, I') ∧ cR m T S H (gz T n 6 o k1 L1) r I'
    revert hO
    generalize gz T n 6 o k1 L1 = out
    intro hO
    match out, hO with
    | .inl (k2, L2), hO =>
      obtain ⟨I2, rfl, C2⟩ := hO
      exact ⟨_, _, rfl, rfl, C2⟩
    | .inr (f, k2), hO =>
      obtain ⟨I2, rfl, F⟩ := hO
      exact ⟨_, _, rfl, rfl, F⟩
theorem c_p5 {m : Nat} {T : Nat → Int32} {S : Nat → Nat} {H : am_IT} (hm : m ≤ 400) (hT : ∀ k, okT (T k)) (hT3 : ∀ k, m ≤ k → T k = 300) {n : Nat} (h4 : P4 m T S H n) (h5 : P5 m T S H n) : P5 m T S H (n + 1) := by
  intro o k L I g c N ho C hL hn hg hc hN
  obtain ⟨N, rfl⟩ : ∃ N', N = N' + 1 := ⟨N - 1, by omega⟩
  have c7 : k ≤ m := C.2.1
  have c5 : I 47 5 = nI (m + 1) := C.1.1
  have c9 : I 47 7 = T k := C.2.2.2.1
  show ∃ z, _ = some z ∧ kO m T S H (if T k = 259 then (match gz T n 4 o (k + 1) L with
      | .inr f => (.inr f : gO)
      | .inl (k1, L1) => gz T n 5 o k1 (L1 ++ [(10, 0)])) else .inl (k, L)) z
  by_cases h1 : T k = 259
  · have hk : k < m := by
      by_cases z : m ≤ k
      · have := hT3 k z
        rw [this] at h1
        exact absurd h1 (by decide)
      · omega
    obtain ⟨I1, e1, C1⟩ := c_adv hm C hk
    obtain ⟨r, I2, e2, R⟩ := h4 o (k + 1) L I1 g ho C1 (by omega) (by omega) hg
    have hb : ∀ z, (if r = 0 then some (.inr (.inr ((0 : Int32), I2))) else (am_b1 (F_X6_addStep_48 I2 (10 : Int32) (0 : Int32)) (fun (I_24 : am_IT) => am_let (nI c + (1 : Int32)) (fun (l2_25 : Int32) => some (.inl (l2_25, I_24)))))) = some z → am_u2 (bAll (G_X7_readAll_47 g) (nI o)) (nI c, I) = some z := by
      intro z hz
      rw [← hz]
      show bAll (G_X7_readAll_47 g) (nI o) (nI c) I = _
      unfold bAll
      rw [c5, if_neg (nI_ge (by omega) (by omega)), c9, if_pos h1, e1, am_b1_s, e2, am_b2_s]
    rw [if_pos h1]
    cases hq : gz T n 4 o (k + 1) L with
    | inr f =>
      rw [hq] at R
      obtain ⟨rfl, R⟩ := R
      exact ⟨.inr (0, I2), am_it_e (hb _ (if_pos rfl)), I2, rfl, R⟩
    | inl q =>
      obtain ⟨k1, L1⟩ := q
      rw [hq] at R
      obtain ⟨rfl, C2⟩ := R
      obtain ⟨p1, p2, p3⟩ := pO_len (gz_p hT hT3 n 4 o (k + 1) L ho hk) hq
      have p1' : k + 1 + 1 ≤ k1 := p1
      obtain ⟨I3, e3, C3⟩ := c_add C2 (10, 0) (a := 10) (b := 0) rfl rfl (by show 10 < 15; decide) (by omega)
      obtain ⟨z, hz, hO⟩ := h5 o k1 (L1 ++ [(10, 0)]) I3 g (c + 1) N ho C3 (by rw [List.length_append]; show L1.length + 1 ≤ k1; omega) (by omega) hg (by omega) (by omega)
      refine ⟨z, ?_, hO⟩
      rw [← hz]
      exact am_it_l (hb _ (by rw [if_neg (by decide), e3, am_b1_s, am_let_s, nI_1]))
  · rw [if_neg h1]
    refine ⟨.inl I, am_it_e ?_, I, rfl, C⟩
    show bAll (G_X7_readAll_47 g) (nI o) (nI c) I = _
    unfold bAll
    rw [c5, if_neg (nI_ge (by omega) (by omega)), c9, if_neg h1]
theorem c_p6 {m : Nat} {T : Nat → Int32} {S : Nat → Nat} {H : am_IT} (hm : m ≤ 400) (hT : ∀ k, okT (T k)) (hT3 : ∀ k, m ≤ k → T k = 300) {n : Nat} (h4 : P0 m T S H n) (h5 : P6 m T S H n) : P6 m T S H (n + 1) := by
  intro o k L I g c N ho C hL hn hg hc hN
  obtain ⟨N, rfl⟩ : ∃ N', N = N' + 1 := ⟨N - 1, by omega⟩
  have c7 : k ≤ m := C.2.1
  have c5 : I 47 5 = nI (m + 1) := C.1.1
  have c9 : I 47 7 = T k := C.2.2.2.1
  show ∃ z, _ = some z ∧ kO m T S H (if T k = 258 then (match gz T n 0 o (k + 1) L with
      | .inr f => (.inr f : gO)
      | .inl (k1, L1) => gz T n 6 o k1 (L1 ++ [(11, 0)])) else .inl (k, L)) z
  by_cases h1 : T k = 258
  · have hk : k < m := by
      by_cases z : m ≤ k
      · have := hT3 k z
        rw [this] at h1
        exact absurd h1 (by decide)
      · omega
    obtain ⟨I1, e1, C1⟩ := c_adv hm C hk
    obtain ⟨r, I2, e2, R⟩ := h4 o (k + 1) L I1 g ho C1 (by omega) (by omega) hg
    have hb : ∀ z, (if r = 0 then some (.inr (.inr ((0 : Int32), I2))) else (am_b1 (F_X6_addStep_48 I2 (11 : Int32) (0 : Int32)) (fun (I_24 : am_IT) => am_let (nI c + (1 : Int32)) (fun (l2_25 : Int32) => some (.inl (l2_25, I_24)))))) = some z → am_u2 (bAny (G_X7_readAll_47 g) (nI o)) (nI c, I) = some z := by
      intro z hz
      rw [← hz]
      show bAny (G_X7_readAll_47 g) (nI o) (nI c) I = _
      unfold bAny
      rw [c5, if_neg (nI_ge (by omega) (by omega)), c9, if_pos h1, e1, am_b1_s, e2, am_b2_s]
    rw [if_pos h1]
    cases hq : gz T n 0 o (k + 1) L with
    | inr f =>
      rw [hq] at R
      obtain ⟨rfl, R⟩ := R
      exact ⟨.inr (0, I2), am_it_e (hb _ (if_pos rfl)), I2, rfl, R⟩
    | inl q =>
      obtain ⟨k1, L1⟩ := q
      rw [hq] at R
      obtain ⟨rfl, C2⟩ := R
      obtain ⟨p1, p2, p3⟩ := pO_len (gz_p hT hT3 n 0 o (k + 1) L ho hk) hq
      have p1' : k + 1 + 1 ≤ k1 := p1
      obtain ⟨I3, e3, C3⟩ := c_add C2 (11, 0) (a := 11) (b := 0) rfl rfl (by show 11 < 15; decide) (by omega)
      obtain ⟨z, hz, hO⟩ := h5 o k1 (L1 ++ [(11, 0)]) I3 g (c + 1) N ho C3 (by rw [List.length_append]; show L1.length + 1 ≤ k1; omega) (by omega) hg (by omega) (by omega)
      refine ⟨z, ?_, hO⟩
      rw [← hz]
      exact am_it_l (hb _ (by rw [if_neg (by decide), e3, am_b1_s, am_let_s, nI_1]))
  · rw [if_neg h1]
    refine ⟨.inl I, am_it_e ?_, I, rfl, C⟩
    show bAny (G_X7_readAll_47 g) (nI o) (nI c) I = _
    unfold bAny
    rw [c5, if_neg (nI_ge (by omega) (by omega)), c9, if_neg h1]
theorem c_p4 {m : Nat} {T : Nat → Int32} {S : Nat → Nat} {H : am_IT} (hm : m ≤ 400) (hT : ∀ k, okT (T k)) (hT3 : ∀ k, m ≤ k → T k = 300) {n : Nat} (h4 : P4 m T S H n) (h1 : P1 m T S H n) : P4 m T S H (n + 1) := by
  intro o k L I g ho C hL hn hg
  obtain ⟨g, rfl⟩ : ∃ g', g = g' + 1 := ⟨g - 1, by omega⟩
  have c7 : k ≤ m := C.2.1
  have c9 : I 47 7 = T k := C.2.2.2.1
  have lt : ¬ T k = 300 → k < m := fun h => by
    by_cases z : m ≤ k
    · exact absurd (hT3 k z) h
    · omega
  show ∃ r I', B_X7_readOne_47 (G_X7_readAll_47 g) I (nI o) = some (r, I') ∧ cR m T S H (if T k = 260 then (if 8 ≤ o then (.inr (3, k) : gO) else (match gz T n 4 (o + 1) (k + 1) L with
        | .inr f => .inr f
        | .inl (k1, L1) => .inl (k1, L1 ++ [(3, 0)])))
      else if T k = 40 then (if 8 ≤ o then .inr (3, k) else (match gz T n 1 (o + 1) (k + 1) L with
        | .inr f => .inr f
        | .inl (k1, L1) => if T k1 = 41 then .inl (k1 + 1, L1) else .inr (1, k1)))
      else gc T k L) r I'
  unfold B_X7_readOne_47
  rw [c9]
  by_cases q1 : T k = 260
  · rw [if_pos q1, if_pos q1, am_b1_s, if_neg (show ¬ (1 : Int32) = 0 by decide)]
    by_cases h8 : 8 ≤ o
    · obtain ⟨I1, e1, F1⟩ := c_ref hm C (v := 3) (f := 3) rfl
      rw [if_pos h8, if_neg (show ¬ nI o < (8 : Int32) from fun z => by have := (nI_ltI (a := o) (b := 8) (by omega) (by decide)).mp z; omega), e1, am_b2_s]
      exact ⟨_, _, rfl, rfl, F1⟩
    · have hk := lt (by rw [q1]; decide)
      obtain ⟨I1, e1, C1⟩ := c_adv hm C hk
      obtain ⟨g, rfl⟩ : ∃ g', g = g' + 1 := ⟨g - 1, by omega⟩
      obtain ⟨r, I2, e2, R⟩ := h4 (o + 1) (k + 1) L I1 g (by omega) C1 (by omega) (by omega) (by omega)
      rw [if_neg h8, if_pos (show nI o < (8 : Int32) from nI_lt (b := 8) (by omega) (by decide)), e1, am_b1_s, if_neg (show ¬ (1 : Int32) = 0 by decide), nI_1]
      show ∃ r I', am_b2 (B_X7_readDenied_47 (G_X7_readAll_47 g) I1 (nI (o + 1))) (fun (r_15 : Int32) (I_16 : am_IT) => some (r_15, I_16)) = some (r, I') ∧ _
      unfold B_X7_readDenied_47
      rw [e2, am_b2_s]
      cases hq : gz T n 4 (o + 1) (k + 1) L with
      | inr f =>
        rw [hq] at R
        obtain ⟨rfl, R⟩ := R
        rw [if_pos rfl]
        exact ⟨_, _, rfl, rfl, R⟩
      | inl q =>
        obtain ⟨k1, L1⟩ := q
        rw [hq] at R
        obtain ⟨rfl, C2⟩ := R
        obtain ⟨p1, p2, p3⟩ := pO_len (gz_p hT hT3 n 4 (o + 1) (k + 1) L (by omega) hk) hq
        have p1' : k + 1 + 1 ≤ k1 := p1
        obtain ⟨I3, e3, C3⟩ := c_add C2 (3, 0) (a := 3) (b := 0) rfl rfl (by show 3 < 15; decide) (by omega)
        rw [if_neg (show ¬ (1 : Int32) = 0 by decide), e3, am_b1_s]
        exact ⟨_, _, rfl, rfl, C3⟩
  · rw [if_neg q1, if_neg q1, am_b1_s, if_pos rfl]
    by_cases q2 : T k = 40
    · rw [if_pos q2, if_pos q2]
      by_cases h8 : 8 ≤ o
      · obtain ⟨I1, e1, F1⟩ := c_ref hm C (v := 3) (f := 3) rfl
        rw [if_pos h8, if_neg (show ¬ nI o < (8 : Int32) from fun z => by have := (nI_ltI (a := o) (b := 8) (by omega) (by decide)).mp z; omega), e1, am_b2_s]
        exact ⟨_, _, rfl, rfl, F1⟩
      · have hk := lt (by rw [q2]; decide)
        obtain ⟨I1, e1, C1⟩ := c_adv hm C hk
        obtain ⟨g, rfl⟩ : ∃ g', g = g' + 1 := ⟨g - 1, by omega⟩
        obtain ⟨r, I2, e2, R⟩ := h1 (o + 1) (k + 1) L I1 g (by omega) C1 (by omega) (by omega) (by omega)
        rw [if_neg h8, if_pos (show nI o < (8 : Int32) from nI_lt (b := 8) (by omega) (by decide)), e1, am_b1_s, if_pos rfl, nI_1]
        show ∃ r I', am_b2 (B_X7_readBracket_47 (G_X7_readAll_47 g) I1 (nI (o + 1))) (fun (r_15 : Int32) (I_16 : am_IT) => some (r_15, I_16)) = some (r, I') ∧ _
        unfold B_X7_readBracket_47
        rw [e2, am_b2_s]
        cases hq : gz T n 1 (o + 1) (k + 1) L with
        | inr f =>
          rw [hq] at R
          obtain ⟨rfl, R⟩ := R
          rw [if_pos rfl]
          exact ⟨_, _, rfl, rfl, R⟩
        | inl q =>
          obtain ⟨k1, L1⟩ := q
          rw [hq] at R
          obtain ⟨rfl, C2⟩ := R
          rw [if_neg (show ¬ (1 : Int32) = 0 by decide), show I2 47 7 = T k1 from C2.2.2.2.1]
          show ∃ r I', _ = some (r, I') ∧ cR m T S H (if T k1 = 41 then (.inl (k1 + 1, L1) : gO) else .inr (1, k1)) r I'
          by_cases q3 : T k1 = 41
          · have hk1 : k1 < m := by
              by_cases z : m ≤ k1
              · have := hT3 k1 z
                rw [this] at q3
                exact absurd q3 (by decide)
              · omega
            obtain ⟨I3, e3, C3⟩ := c_adv hm C2 hk1
            rw [if_pos q3, if_pos q3, e3, am_b1_s]
            exact ⟨_, _, rfl, rfl, C3⟩
          · obtain ⟨I3, e3, F3⟩ := c_ref hm C2 (v := 1) (f := 1) rfl
            rw [if_neg q3, if_neg q3, e3, am_b2_s]
            exact ⟨_, _, rfl, rfl, F3⟩
    · obtain ⟨r, I1, e1, R⟩ := c_cmp hm hT hT3 C hL
      rw [if_neg q2, if_neg q2, e1, am_b2_s]
      exact ⟨r, I1, rfl, R⟩
theorem c_all {m : Nat} {T : Nat → Int32} {S : Nat → Nat} {H : am_IT} (hm : m ≤ 400) (hT : ∀ k, okT (T k)) (hT3 : ∀ k, m ≤ k → T k = 300) : ∀ n, P4 m T S H n ∧ P0 m T S H n ∧ P1 m T S H n ∧ P5 m T S H n ∧ P6 m T S H n := by
  intro n
  induction n with
  | zero => exact ⟨fun _ _ _ _ _ _ _ _ h => by omega, fun _ _ _ _ _ _ _ _ h => by omega, fun _ _ _ _ _ _ _ _ h => by omega, fun _ _ _ _ _ _ _ _ _ _ h => by omega, fun _ _ _ _ _ _ _ _ _ _ h => by omega⟩
  | succ n ih =>
    obtain ⟨i4, i0, i1, i5, i6⟩ := ih
    exact ⟨c_p4 hm hT hT3 i4 i1, c_p0 hm hT hT3 i4 i5, c_p1 hm hT hT3 i0 i6, c_p5 hm hT hT3 i4 i5, c_p6 hm hT hT3 i0 i6⟩
