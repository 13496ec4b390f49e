/-! text: how the reference reads a condition, whole -/
theorem d_4 {B : Nat → Int32} {n m : Nat} {T : Nat → Int32} {S E : Nat → Nat} {H : am_IT} (X : nx B n m T S E) (hT : ∀ k, okT (T k)) (hT3 : ∀ k, m ≤ k → T k = 300) {f : Nat} (h4 : D4 B n m T S E H f) (h1 : D1 B n m T S E H f) : D4 B n m T S E H (f + 1) := by
  intro o k b j L P0 I ho hj hb A h0 hL hP hf
  have c7 : k ≤ m := A.1.1
  have hm : m ≤ 400 := X.2
  have hlen : (List.replicate j 9 ++ P0).length = j + P0.length := by rw [List.length_append, List.length_replicate]
  have lt : ∀ k, ¬ T k = 300 → k < m := fun k h => by
    by_cases z : m ≤ k
    · exact absurd (hT3 k z) h
    · omega
  have r0 : ∀ x : Int32 × Int32 × am_IT, rch (am_u3 bDue) 0 x x := fun x N => by rw [Nat.zero_add]
  show z4 B n m T S E H (nI b, 1, I) k b j o P0 (if T k = 260 then (if 8 ≤ o then (.inr (3, k) : gO) else (match gz T f 4 (o + 1) (k + 1) L with
        | .inr f => .inr f
        | .inl (k1, L1) => .inl (k1, L1 ++ [(3, 0)])))
      else if T k = 40 then (if 8 ≤ o then .inr (3, k) else (match gz T f 1 (o + 1) (k + 1) L with
        | .inr f => .inr f
        | .inl (k1, L1) => if T k1 = 41 then .inl (k1 + 1, L1) else .inr (1, k1)))
      else gc T k L)
  by_cases q1 : T k = 260
  · rw [if_pos q1]
    by_cases h8 : 8 ≤ o
    · have ho8 : o = 8 := by omega
      subst ho8
      obtain ⟨I1, e1, F1⟩ := b_many (b := b) A (Or.inl q1)
      rw [if_pos h8]
      exact ⟨0, _, I1, r0 _, by omega, e1, F1⟩
    · have hk := lt k (by rw [q1]; decide)
      obtain ⟨I1, e1, A1⟩ := b_not (b := b) X A (by omega) (by rw [hlen]; omega) q1 hk
      have s1 : rch (am_u3 bDue) 1 (nI b, 1, I) (nI b, 1, I1) := rch_1 e1
      have q := h4 (o + 1) (k + 1) b (j + 1) L P0 I1 (by omega) (by omega) (by omega) A1 h0 (by omega) (by omega) (by omega)
      rw [if_neg h8]
      cases hg : gz T f 4 (o + 1) (k + 1) L with
      | inr e =>
        obtain ⟨fq, kq⟩ := e
        rw [hg] at q
        exact xF_s (B := B) (n := n) (T := T) (E := E) s1 (by omega) q
      | inl e =>
        obtain ⟨k1, L1⟩ := e
        rw [hg] at q
        obtain ⟨s, I2, a1, a2, a3⟩ := q
        refine ⟨1 + s, I2, rch_t s1 a1, by omega, ?_⟩
        have e2 : rRefs (L1 ++ [(3, 0)]) ++ List.replicate j (9, 0) = rRefs L1 ++ List.replicate (j + 1) (9, 0) := by
          rw [rRefs_app, List.append_assoc]; rfl
        rw [e2, show o - j = o + 1 - (j + 1) by omega]
        exact a3
  · rw [if_neg q1]
    by_cases q2 : T k = 40
    · rw [if_pos q2]
      by_cases h8 : 8 ≤ o
      · have ho8 : o = 8 := by omega
        subst ho8
        obtain ⟨I1, e1, F1⟩ := b_many (b := b) A (Or.inr q2)
        rw [if_pos h8]
        exact ⟨0, _, I1, r0 _, by omega, e1, F1⟩
      · have hk := lt k (by rw [q2]; decide)
        obtain ⟨I1, e1, A1⟩ := b_br (b := b) X A (by omega) (by rw [hlen]; omega) q2 hk
        have s1 : rch (am_u3 bDue) 1 (nI b, 1, I) (nI (b + 1), 1, I1) := rch_1 e1
        have hl2 : (12 :: (List.replicate j 9 ++ P0)).length = j + P0.length + 1 := by rw [List.length_cons, hlen]
        have q := h1 (o + 1) (k + 1) (b + 1) L (12 :: (List.replicate j 9 ++ P0)) I1 (by omega) (by omega) A1 (fun v r h => by cases h; rfl) (by rw [hl2]; omega) (by rw [hl2]; omega) (by omega)
        rw [if_neg h8]
        cases hg : gz T f 1 (o + 1) (k + 1) L with
        | inr e =>
          obtain ⟨fq, kq⟩ := e
          rw [hg] at q
          exact xF_s (B := B) (n := n) (T := T) (E := E) s1 (by omega) q
        | inl e =>
          obtain ⟨k1, L1⟩ := e
          rw [hg] at q
          obtain ⟨s, I2, a, c, R', a1, a2, a3, a4, a5, a6⟩ := q
          obtain ⟨g1, g2, ⟨g3, g4⟩, _⟩ := gz_p hT hT3 f 1 (o + 1) (k + 1) L (by omega) hk k1 L1 hg
          obtain ⟨p1, p2, p3⟩ := r_len (gz_p hT hT3 f 1 (o + 1) (k + 1) L (by omega) hk) hg
          have hR : (rRefs L1).length = R'.length + a + c := by rw [a4, List.length_append, List.length_append, List.length_replicate, List.length_replicate]
          show z4 B n m T S E H (nI b, 1, I) k b j o P0 (if T k1 = 41 then (.inl (k1 + 1, L1) : gO) else .inr (1, k1))
          by_cases q3 : T k1 = 41
          · rw [if_pos q3]
            obtain ⟨I3, e3, A3⟩ := b_endb (b := b) X a3 h0 (by omega) (by omega) g3 g4 (by omega) q3 (lt k1 (by rw [q3]; decide)) (by omega)
            refine ⟨1 + s + 1, I3, rch_t (rch_t s1 a1) (rch_1 e3), by omega, ?_⟩
            rw [a4, show o - j = o + 1 - 1 - j by omega]
            exact A3
          · rw [if_neg q3]
            obtain ⟨I3, e3, F3⟩ := b_endf (b := b) a3 (fun v r h => by cases h; rfl) (by omega) (by rw [hl2]; omega) g3 g4 (by omega) q3
            exact ⟨1 + s, _, I3, rch_t s1 a1, by omega, e3, F3⟩
    · rw [if_neg q2]
      rcases b_cmp (b := b) X hT hT3 A hj h0 (by omega) (by omega) q1 q2 with ⟨fq, kq, I1, e1, e2, F⟩ | ⟨k', L', I1, e1, e2, A1⟩
      · rw [e1]
        exact ⟨0, _, I1, r0 _, by omega, e2, F⟩
      · rw [e1]
        obtain ⟨p1, p2, p3⟩ := r_len (gc_p hT hT3 L c7) e1
        exact ⟨1, I1, rch_1 e2, by omega, A1⟩
theorem d_all {B : Nat → Int32} {n m : Nat} {T : Nat → Int32} {S E : Nat → Nat} {H : am_IT} (X : nx B n m T S E) (hT : ∀ k, okT (T k)) (hT3 : ∀ k, m ≤ k → T k = 300) : ∀ f, D4 B n m T S E H f ∧ D0 B n m T S E H f ∧ D1 B n m T S E H f ∧ D5 B n m T S E H f ∧ D6 B n m T S E H f := by
  intro f
  induction f with
  | zero => exact ⟨fun _ _ _ _ _ _ _ _ _ _ _ _ _ _ h => by omega, fun _ _ _ _ _ _ _ _ _ _ _ _ h => by omega, fun _ _ _ _ _ _ _ _ _ _ _ _ h => by omega, fun _ _ _ _ _ _ _ _ _ _ _ _ _ _ _ _ h => by omega, fun _ _ _ _ _ _ _ _ _ _ _ _ _ _ _ _ _ _ h => by omega⟩
  | succ f ih =>
    obtain ⟨i4, i0, i1, i5, i6⟩ := ih
    exact ⟨d_4 X hT hT3 i4 i1, d_0 X hT hT3 i4 i5, d_1 X hT hT3 i0 i6, d_5 X hT hT3 i4 i5, d_6 X hT hT3 i0 i6⟩
theorem r_any {B : Nat → Int32} {n m : Nat} {T : Nat → Int32} {S E : Nat → Nat} {H : am_IT} (X : nx B n m T S E) (hT : ∀ k, okT (T k)) (hT3 : ∀ k, m ≤ k → T k = 300) {k : Nat} {L : List rOp} {I : am_IT} (M : mZ B n m T S E I k (rRefs L) I) (hG : mG H I) (ho : I 55 39 = 0) (hL : (rRefs L).length ≤ k) : ∃ r I', F_X12_readAny_55 I = some (r, I') ∧ (match gz T 2000 1 0 k L with
    | .inl (k', L') => r = 0 ∧ mZ B n m T S E I' k' (rRefs L') I' ∧ mG H I' ∧ I' 55 39 = 0
    | .inr (fq, kq) => r = -1 ∧ mE S H fq kq I') := by
  have hm : m ≤ 400 := X.2
  have c7 : k ≤ m := M.1
  have A : mA B n m T S E H k (rRefs L) [] 0 (up2 I 55 41 0) := by
    obtain ⟨b1, b2, b3, b4, b5, b6, b7, b8⟩ := M
    obtain ⟨g1, g2, g3, g4⟩ := hG
    exact ⟨⟨b1, b2, b3, b4, b5, b6, mF_r _, b8⟩, ⟨fun q h1 h2 => (up2_k _ _ h1).trans (g1 q h1 h2), fun i a b c d e f => (up2_j _ _ d).trans (g2 i a b c d e f), g3, g4⟩, up2_s _ _ _ _, trivial, ho⟩
  have q := (d_all (H := H) X hT hT3 2000).2.2.1 0 k 0 L [] (up2 I 55 41 0) (by decide) (Nat.le_refl _) A (fun v r h => by cases h) hL (Nat.le_refl _) (by omega)
  unfold F_X12_readAny_55
  rw [am_let_s]
  cases hg : gz T 2000 1 0 k L with
  | inr e =>
    obtain ⟨fq, kq⟩ := e
    rw [hg] at q
    obtain ⟨s, y, I', a1, a2, a3, a4⟩ := q
    refine ⟨-1, I', ?_, rfl, a4⟩
    have h := a1 (1000000 - s)
    rw [show s + (1000000 - s) = am_fu by show s + (1000000 - s) = 1000000; omega] at h
    obtain ⟨N, hN⟩ : ∃ N, 1000000 - s = N + 1 := ⟨1000000 - s - 1, by omega⟩
    rw [hN, am_it_e a3] at h
    unfold bDue at h
    exact h
  | inl e =>
    obtain ⟨k1, L1⟩ := e
    rw [hg] at q
    obtain ⟨s, I1, a, c, R', a1, a2, a3, a4, a5, a6⟩ := q
    obtain ⟨g1, g2, ⟨g3, g4⟩, _⟩ := gz_p hT hT3 2000 1 0 k L (by decide) c7 k1 L1 hg
    obtain ⟨p1, p2, p3⟩ := r_len (gz_p hT hT3 2000 1 0 k L (by decide) c7) hg
    have hR : (rRefs L1).length = R'.length + a + c := by rw [a4, List.length_append, List.length_append, List.length_replicate, List.length_replicate]
    obtain ⟨I2, e2, A2⟩ := b_end0 a3 (fun v r h => by cases h) (by omega) (by show a + (c + 0) ≤ 40; omega) g3 g4
    rw [← a4] at A2
    refine ⟨0, I2, ?_, rfl, A2.1, A2.2.1, A2.2.2.2.2⟩
    have h := a1 (1000000 - s)
    rw [show s + (1000000 - s) = am_fu by show s + (1000000 - s) = 1000000; omega] at h
    obtain ⟨N, hN⟩ : ∃ N, 1000000 - s = N + 1 := ⟨1000000 - s - 1, by omega⟩
    have e2' : am_u3 bDue (nI 0, 0, I1) = some (.inr (0, I2)) := e2
    rw [hN, am_it_e e2'] at h
    unfold bDue at h
    exact h
