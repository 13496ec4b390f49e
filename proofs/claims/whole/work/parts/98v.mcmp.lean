/-! text: how the reference reads comparisons -/
def qO (B : Nat → Int32) (n m : Nat) (T : Nat → Int32) (S E : Nat → Nat) (H : am_IT) (out : gO) (z : am_IT ⊕ (Int32 × am_IT)) : Prop := match out with
  | .inl (k, L) => ∃ I : am_IT, z = .inl I ∧ mZ B n m T S E H k (rRefs L) I
  | .inr (f, k) => ∃ I : am_IT, z = .inr (-1, I) ∧ mE S H f k I
def mQ9 (B : Nat → Int32) (n m : Nat) (T : Nat → Int32) (S E : Nat → Nat) (H : am_IT) (out : gO) (r : Int32) (I : am_IT) : Prop := match out with
  | .inl (k, L) => r = 0 ∧ mZ B n m T S E H k (rRefs L) I
  | .inr (f, k) => r = -1 ∧ mE S H f k I
theorem gw_l {w : Nat} (h : w = 0 ∨ w = 4 ∨ w = 5) (L : List rOp) : (rRefs (L ++ gw w)).length = (rRefs L).length + (gw w).length := by
  rw [rRefs_app, List.length_append]
  rcases h with rfl | rfl | rfl <;> rfl
theorem r_sloop {B : Nat → Int32} {n m : Nat} {T : Nat → Int32} {S E : Nat → Nat} {H : am_IT} (X : nx B n m T S E) (hT3 : ∀ k, m ≤ k → T k = 300) : ∀ (N f k w : Nat) (L : List rOp) (I : am_IT), mZ B n m T S E H k (rRefs (L ++ gw w)) I → (w = 0 ∨ w = 4 ∨ w = 5) → (rRefs L).length + (gw w).length ≤ k → ¬ T k = 42 → ¬ T k = 47 → m - k < f → m - k < N → ∃ z, am_it N bRS I = some z ∧ qO B n m T S E H (gl T f k w L) z := by
  have h10 : ¬ (1 : Int32) = 0 := by decide
  have hm : m ≤ 400 := X.2
  intro N
  induction N with
  | zero => intro f k w L I _ _ _ _ _ _ h; omega
  | succ N ih =>
    intro f k w L I M hw hL h1 h2 hf hN
    obtain ⟨f, rfl⟩ : ∃ f', f = f' + 1 := ⟨f - 1, by omega⟩
    have K := M.2.2.2.1
    have lt : ∀ k, ¬ T k = 300 → k < m := fun k h => by
      by_cases z : m ≤ k
      · exact absurd (hT3 k z) h
      · omega
    by_cases h3 : T k = 43 ∨ T k = 45
    · have hk := lt k (by rcases h3 with h3 | h3 <;> (rw [h3]; decide))
      obtain ⟨I1, e1, M1⟩ := r_reads X M hk
      have hmk : isMk (T k) = true := by rcases h3 with h3 | h3 <;> (rw [h3]; rfl)
      have hv := (KV_sg K hmk).2
      obtain ⟨w', hw', hgw, u, hu1, hu2, hgl, hr⟩ : ∃ w', (w' = 0 ∨ w' = 4 ∨ w' = 5) ∧ (gw w').length = 1 ∧ ∃ u, (if I 55 30 = (43 : Int32) then (some (2 : Int32)) else (some (3 : Int32))) = some (nI u) ∧ u < 4 ∧ gl T (f + 1) k w L = (match un (T (k + 1)) with
        | none => (.inr (1, k + 1) : gO)
        | some o => gl T f (k + 2) w' (L ++ gw w ++ [o])) ∧ ∀ L' : List rOp, rRefs L' ++ [(u, 0)] = rRefs (L' ++ gw w') := by
        have hgl : gl T (f + 1) k w L = (match un (T (k + 1)) with
          | none => (.inr (1, k + 1) : gO)
          | some o => gl T f (k + 2) (if T k = 43 then 4 else 5) (L ++ gw w ++ [o])) := by
          show (if T k = 42 then _ else if T k = 47 then _ else if T k = 43 ∨ T k = 45 then _ else _) = _
          rw [if_neg h1, if_neg h2]
          exact if_pos h3
        by_cases q : T k = 43
        · rw [if_pos q] at hgl
          exact ⟨4, Or.inr (Or.inl rfl), rfl, 2, by rw [hv, if_pos q]; rfl, by decide, hgl, fun L' => by rw [rRefs_app]; rfl⟩
        · rw [if_neg q] at hgl
          exact ⟨5, Or.inr (Or.inr rfl), rfl, 3, by rw [hv, if_neg q]; rfl, by decide, hgl, fun L' => by rw [rRefs_app]; rfl⟩
      rw [hgl]
      have hb : ∀ z r J, F_X12_readProduct_55 I1 = some (r, J) → (if r = (-1 : Int32) then (some (.inr (.inr ((-1 : Int32), J)))) else (am_b1 (F_X12_emits_55 J (nI u) (0 : Int32)) (fun (I_27 : am_IT) => some (.inl (I_27))))) = some z → bRS I = some z := by
        intro z r J hJ hz
        rw [← hz]
        unfold bRS
        rcases h3 with h3 | h3
        · rw [e_isS K (c := 43) rfl, if_pos h3, am_b1_s, if_neg h10, hu1, am_b1_s, e1, am_b1_s, hJ, am_b2_s]
        · rw [e_isS K (c := 43) rfl, if_neg (show ¬ T k = 43 by rw [h3]; decide), am_b1_s, if_pos rfl, e_isS K (c := 45) rfl, if_pos h3, am_b1_s, if_neg h10, hu1, am_b1_s, e1, am_b1_s, hJ, am_b2_s]
      cases hu : un (T (k + 1)) with
      | none =>
        obtain ⟨I2, e2, F2⟩ := r_prod_n M1 hu
        exact ⟨.inr (-1, I2), am_it_e (hb _ _ _ e2 (if_pos rfl)), I2, rfl, F2⟩
      | some o =>
        obtain ⟨z, hz, e2⟩ := r_prod_s X hT3 (f := f) (w := w') M1 (by rw [gw_l hw]; omega) hu (by omega)
        show ∃ z, am_it (N + 1) bRS I = some z ∧ qO B n m T S E H (gl T f (k + 2) w' (L ++ gw w ++ [o])) z
        rcases hz with ⟨J, fq, kq, rfl, hz2, hz3⟩ | ⟨J, k', L', f', rfl, hz2, hz3, hz4, hz5, hz6, hz7, hz8⟩
        · have hz2' : gl T f (k + 2) w' (L ++ gw w ++ [o]) = .inr (fq, kq) := hz2
          rw [hz2']
          exact ⟨.inr (-1, J), am_it_e (hb _ _ _ e2 (if_pos rfl)), J, rfl, hz3⟩
        · have hz3' : gl T f (k + 2) w' (L ++ gw w ++ [o]) = gl T f' k' w' L' := hz3
          have hk' := hz2.1
          obtain ⟨I3, e3, M3⟩ := r_emit hz2 (by omega) u 0 (u := nI u) (v := 0) rfl rfl
          rw [hr] at M3
          obtain ⟨z, hz, hO⟩ := ih f' k' w' L' I3 M3 hw' hz7 hz4 hz5 hz6 (by omega)
          rw [hz3']
          refine ⟨z, ?_, hO⟩
          rw [← hz]
          exact am_it_l (hb _ _ _ e2 (by rw [if_neg (by decide), e3, am_b1_s]))
    · have hgl : gl T (f + 1) k w L = .inl (k, L ++ gw w) := by
        show (if T k = 42 then _ else if T k = 47 then _ else if T k = 43 ∨ T k = 45 then _ else _) = _
        rw [if_neg h1, if_neg h2, if_neg h3]
      rw [hgl]
      refine ⟨.inl I, am_it_e ?_, I, rfl, M⟩
      unfold bRS
      rw [e_isS K (c := 43) rfl, if_neg (fun z => h3 (Or.inl z)), am_b1_s, if_pos rfl, e_isS K (c := 45) rfl, if_neg (fun z => h3 (Or.inr z)), am_b1_s, if_pos rfl]
theorem r_sum {B : Nat → Int32} {n m : Nat} {T : Nat → Int32} {S E : Nat → Nat} {H : am_IT} (X : nx B n m T S E) (hT3 : ∀ k, m ≤ k → T k = 300) {k : Nat} {L : List rOp} {I : am_IT} (M : mZ B n m T S E H k (rRefs L) I) (hL : (rRefs L).length ≤ k) : ∃ r I', F_X12_readSum_55 I = some (r, I') ∧ mQ9 B n m T S E H (gs T k L) r I' := by
  have hm : m ≤ 400 := X.2
  unfold F_X12_readSum_55 gs
  cases hu : un (T k) with
  | none =>
    obtain ⟨I1, e1, F1⟩ := r_prod_n M hu
    rw [e1, am_b2_s, if_pos rfl]
    exact ⟨_, _, rfl, rfl, F1⟩
  | some o =>
    obtain ⟨z, hz, e1⟩ := r_prod_s X hT3 (f := 1000) (w := 0) M (by show _ + 0 ≤ _; omega) hu (by omega)
    show ∃ r I', _ = some (r, I') ∧ mQ9 B n m T S E H (gl T 1000 (k + 1) 0 (L ++ [o])) r I'
    rcases hz with ⟨J, fq, kq, rfl, hz2, hz3⟩ | ⟨J, k', L', f', rfl, hz2, hz3, hz4, hz5, hz6, hz7, hz8⟩
    · rw [hz2, e1, am_b2_s, if_pos rfl]
      exact ⟨_, _, rfl, rfl, hz3⟩
    · obtain ⟨z, hz, hO⟩ := r_sloop X hT3 am_fu f' k' 0 L' J (by show mZ B n m T S E H k' (rRefs (L' ++ [])) J; rw [List.append_nil]; exact hz2) (Or.inl rfl) hz7 hz4 hz5 hz6 (by show m - k' < 1000000; omega)
      unfold bRS at hz
      rw [hz3, e1, am_b2_s, if_neg (show ¬ (0 : Int32) = -1 by decide), hz]
      revert hO
      generalize gl T f' k' 0 L' = out
      intro hO
      match out, hO with
      | .inl (k2, L2), hO =>
        obtain ⟨I2, rfl, C2⟩ := hO
        exact ⟨_, _, rfl, rfl, C2⟩
      | .inr (f, k2), hO =>
        obtain ⟨I2, rfl, F⟩ := hO
        exact ⟨_, _, rfl, rfl, F⟩
theorem r_len {T : Nat → Int32} {m k c d : Nat} {L : List rOp} {a b : List Bool} {q : Nat → Prop} {r : gO} (h : pO T m k L c d 0 a b q r) {k' : Nat} {L' : List rOp} (hr : r = .inl (k', L')) : k + d ≤ k' ∧ k' ≤ m ∧ (rRefs L').length + k ≤ (rRefs L).length + k' := by
  obtain ⟨p1, p2, p3, X, rfl, p4⟩ := h k' L' hr
  refine ⟨p1, p2, ?_⟩
  rw [rRefs_app, List.length_append]
  have := p4.2.1
  omega
theorem r_cmp {B : Nat → Int32} {n m : Nat} {T : Nat → Int32} {S E : Nat → Nat} {H : am_IT} (X : nx B n m T S E) (hT : ∀ k, okT (T k)) (hT3 : ∀ k, m ≤ k → T k = 300) {k : Nat} {L : List rOp} {I : am_IT} (M : mZ B n m T S E H k (rRefs L) I) (hL : (rRefs L).length ≤ k) : ∃ r I', F_X12_readCompared_55 I = some (r, I') ∧ mQ9 B n m T S E H (gc T k L) r I' := by
  have h10 : ¬ (1 : Int32) = 0 := by decide
  have h0m : ¬ (0 : Int32) = -1 := by decide
  have hm : m ≤ 400 := X.2
  have c7 : k ≤ m := M.1
  unfold F_X12_readCompared_55 gc
  obtain ⟨r, I1, e1, R⟩ := r_sum X hT3 M hL
  rw [e1, am_b2_s]
  cases h1 : gs T k L with
  | inr f =>
    rw [h1] at R
    obtain ⟨rfl, R⟩ := R
    rw [if_pos rfl]
    exact ⟨_, _, rfl, rfl, R⟩
  | inl q =>
    obtain ⟨k1, L1⟩ := q
    rw [h1] at R
    obtain ⟨rfl, M1⟩ := R
    obtain ⟨p1, p2, p3⟩ := r_len (gs_p hT hT3 L c7) h1
    have K := M1.2.2.2.1
    rw [if_neg h0m]
    show ∃ r' I', _ = some (r', I') ∧ mQ9 B n m T S E H (if T k1 = 60 ∨ T k1 = 61 ∨ T k1 = 62 then (match gs T (k1 + 1) L1 with
        | .inr f => (.inr f : gO)
        | .inl (k2, L2) => .inl (k2, L2 ++ [(if T k1 = 60 then 7 else if T k1 = 61 then 8 else 9, 0)])) else .inr (1, k1)) r' I'
    by_cases hc : T k1 = 60 ∨ T k1 = 61 ∨ T k1 = 62
    · have hk1 : k1 < m := by
        by_cases z : m ≤ k1
        · have := hT3 k1 z
          rw [this] at hc
          exact absurd hc (by decide)
        · omega
      have hv := (KV_sg K (by rcases hc with h | h | h <;> (rw [h]; rfl))).2
      obtain ⟨I2, e2, M2⟩ := r_reads X M1 hk1
      obtain ⟨r, I3, e3, R⟩ := r_sum X hT3 M2 (by omega)
      rw [if_pos hc]
      have fin : ∀ (x y : Nat), (∀ L' : List rOp, rRefs L' ++ [(x, 0)] = rRefs (L' ++ [(y, 0)])) → y = (if T k1 = 60 then 7 else if T k1 = 61 then 8 else 9) → ∃ r' I', (if r = (-1 : Int32) then some ((-1 : Int32), I3) else am_b1 (F_X12_emits_55 I3 (nI x) 0) (fun I_21 => some ((0 : Int32), I_21))) = some (r', I') ∧ mQ9 B n m T S E H (match gs T (k1 + 1) L1 with
        | .inr f => (.inr f : gO)
        | .inl (k2, L2) => .inl (k2, L2 ++ [(if T k1 = 60 then 7 else if T k1 = 61 then 8 else 9, 0)])) r' I' := by
        intro x y hx hy
        cases h2 : gs T (k1 + 1) L1 with
        | inr f =>
          rw [h2] at R
          obtain ⟨rfl, R⟩ := R
          rw [if_pos rfl]
          exact ⟨_, _, rfl, rfl, R⟩
        | inl q =>
          obtain ⟨k2, L2⟩ := q
          rw [h2] at R
          obtain ⟨rfl, M3⟩ := R
          obtain ⟨q1, q2, q3⟩ := r_len (gs_p hT hT3 L1 hk1) h2
          obtain ⟨I4, e4, M4⟩ := r_emit M3 (by omega) x 0 (u := nI x) (v := 0) rfl rfl
          rw [hx, hy] at M4
          rw [if_neg h0m, e4, am_b1_s]
          exact ⟨_, _, rfl, rfl, M4⟩
      by_cases q1 : T k1 = 60
      · rw [e_isS K (c := 60) rfl, if_pos q1, am_b1_s, if_neg h10, hv, if_pos q1, am_b1_s, e2, am_b1_s, e3, am_b2_s]
        exact fin 6 7 (fun L' => by rw [rRefs_app]; rfl) (by rw [if_pos q1])
      · by_cases q2 : T k1 = 61
        · rw [e_isS K (c := 60) rfl, if_neg q1, am_b1_s, if_pos rfl, e_isS K (c := 61) rfl, if_pos q2, am_b1_s, if_neg h10, hv, if_neg q1, if_pos q2, am_b1_s, e2, am_b1_s, e3, am_b2_s]
          exact fin 7 8 (fun L' => by rw [rRefs_app]; rfl) (by rw [if_neg q1, if_pos q2])
        · have q3 : T k1 = 62 := (hc.resolve_left q1).resolve_left q2
          rw [e_isS K (c := 60) rfl, if_neg q1, am_b1_s, if_pos rfl, e_isS K (c := 61) rfl, if_neg q2, am_b1_s, if_pos rfl, e_isS K (c := 62) rfl, if_pos q3, am_b1_s, if_neg h10, hv, if_neg q1, if_neg q2, am_b1_s, e2, am_b1_s, e3, am_b2_s]
          exact fin 8 9 (fun L' => by rw [rRefs_app]; rfl) (by rw [if_neg q1, if_neg q2])
    · obtain ⟨I2, e2, F2⟩ := r_errs M1 (v := 1) (f := 1) rfl
      rw [if_neg hc, e_isS K (c := 60) rfl, if_neg (fun z => hc (Or.inl z)), am_b1_s, if_pos rfl, e_isS K (c := 61) rfl, if_neg (fun z => hc (Or.inr (Or.inl z))), am_b1_s, if_pos rfl, e_isS K (c := 62) rfl, if_neg (fun z => hc (Or.inr (Or.inr z))), am_b1_s, if_pos rfl, e2, am_b2_s]
      exact ⟨_, _, rfl, rfl, F2⟩
