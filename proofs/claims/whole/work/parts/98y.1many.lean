/-! text: how the reference reads a condition -/
/-- the machine comes to a fault -/
def xF (B : Nat → Int32) (n m : Nat) (T : Nat → Int32) (S E : Nat → Nat) (H : am_IT) (x : Int32 × Int32 × am_IT) (k fq kq : Nat) : Prop := ∃ s y I', rch (am_u3 bDue) s x y ∧ s + k ≤ m ∧ am_u3 bDue y = some (.inr (-1, I')) ∧ mE S H fq kq I'
def z4 (B : Nat → Int32) (n m : Nat) (T : Nat → Int32) (S E : Nat → Nat) (H : am_IT) (x : Int32 × Int32 × am_IT) (k b j o : Nat) (P0 : List Nat) (out : gO) : Prop := match out with
  | .inl (k', L') => ∃ s I', rch (am_u3 bDue) s x (nI b, 0, I') ∧ s + k ≤ k' ∧ mA B n m T S E H k' (rRefs L' ++ List.replicate j (9, 0)) P0 (o - j) I'
  | .inr (fq, kq) => xF B n m T S E H x k fq kq
def x0 (B : Nat → Int32) (n m : Nat) (T : Nat → Int32) (S E : Nat → Nat) (H : am_IT) (x : Int32 × Int32 × am_IT) (k b o : Nat) (P0 : List Nat) (out : gO) : Prop := match out with
  | .inl (k', L') => ∃ s I' a R', rch (am_u3 bDue) s x (nI b, 0, I') ∧ s + k ≤ k' ∧ mA B n m T S E H k' R' (List.replicate a 10 ++ P0) o I' ∧ rRefs L' = R' ++ List.replicate a (10, 0) ∧ a ≤ 1
  | .inr (fq, kq) => xF B n m T S E H x k fq kq
def x1 (B : Nat → Int32) (n m : Nat) (T : Nat → Int32) (S E : Nat → Nat) (H : am_IT) (x : Int32 × Int32 × am_IT) (k b o : Nat) (P0 : List Nat) (out : gO) : Prop := match out with
  | .inl (k', L') => ∃ s I' a c R', rch (am_u3 bDue) s x (nI b, 0, I') ∧ s + k ≤ k' ∧ mA B n m T S E H k' R' (List.replicate a 10 ++ (List.replicate c 11 ++ P0)) o I' ∧ rRefs L' = R' ++ List.replicate a (10, 0) ++ List.replicate c (11, 0) ∧ a ≤ 1 ∧ c ≤ 1
  | .inr (fq, kq) => xF B n m T S E H x k fq kq
theorem xF_s {B : Nat → Int32} {n m : Nat} {T : Nat → Int32} {S E : Nat → Nat} {H : am_IT} {x y : Int32 × Int32 × am_IT} {k k1 s fq kq : Nat} (h : rch (am_u3 bDue) s x y) (hs : s + k ≤ k1) (g : xF B n m T S E H y k1 fq kq) : xF B n m T S E H x k fq kq := by
  obtain ⟨s', z, I', a1, a2, a3, a4⟩ := g
  exact ⟨s + s', z, I', rch_t h a1, by omega, a3, a4⟩
theorem z4_s {B : Nat → Int32} {n m : Nat} {T : Nat → Int32} {S E : Nat → Nat} {H : am_IT} {x y : Int32 × Int32 × am_IT} {k k1 s b j o : Nat} {P0 : List Nat} {out : gO} (h : rch (am_u3 bDue) s x y) (hs : s + k ≤ k1) (g : z4 B n m T S E H y k1 b j o P0 out) : z4 B n m T S E H x k b j o P0 out := by
  match out, g with
  | .inl (k', L'), g =>
    obtain ⟨s', I', a1, a2, a3⟩ := g
    exact ⟨s + s', I', rch_t h a1, by omega, a3⟩
  | .inr (fq, kq), g => exact xF_s (B := B) (n := n) (T := T) (E := E) h hs g
theorem x0_s {B : Nat → Int32} {n m : Nat} {T : Nat → Int32} {S E : Nat → Nat} {H : am_IT} {x y : Int32 × Int32 × am_IT} {k k1 s b o : Nat} {P0 : List Nat} {out : gO} (h : rch (am_u3 bDue) s x y) (hs : s + k ≤ k1) (g : x0 B n m T S E H y k1 b o P0 out) : x0 B n m T S E H x k b o P0 out := by
  match out, g with
  | .inl (k', L'), g =>
    obtain ⟨s', I', a, R', a1, a2, a3⟩ := g
    exact ⟨s + s', I', a, R', rch_t h a1, by omega, a3⟩
  | .inr (fq, kq), g => exact xF_s (B := B) (n := n) (T := T) (E := E) h hs g
theorem x1_s {B : Nat → Int32} {n m : Nat} {T : Nat → Int32} {S E : Nat → Nat} {H : am_IT} {x y : Int32 × Int32 × am_IT} {k k1 s b o : Nat} {P0 : List Nat} {out : gO} (h : rch (am_u3 bDue) s x y) (hs : s + k ≤ k1) (g : x1 B n m T S E H y k1 b o P0 out) : x1 B n m T S E H x k b o P0 out := by
  match out, g with
  | .inl (k', L'), g =>
    obtain ⟨s', I', a, c, R', a1, a2, a3⟩ := g
    exact ⟨s + s', I', a, c, R', rch_t h a1, by omega, a3⟩
  | .inr (fq, kq), g => exact xF_s (B := B) (n := n) (T := T) (E := E) h hs g
def D4 (B : Nat → Int32) (n m : Nat) (T : Nat → Int32) (S E : Nat → Nat) (H : am_IT) (f : Nat) : Prop := ∀ (o k b j : Nat) (L : List rOp) (P0 : List Nat) (I : am_IT), o ≤ 8 → j ≤ o → b ≤ o → mA B n m T S E H k (rRefs L) (List.replicate j 9 ++ P0) o I → hd9 P0 → (rRefs L).length + j + P0.length ≤ k → j + P0.length ≤ 3 * o + 2 → 3 * (m - k) < f → z4 B n m T S E H (nI b, 1, I) k b j o P0 (gz T f 4 o k L)
def D0 (B : Nat → Int32) (n m : Nat) (T : Nat → Int32) (S E : Nat → Nat) (H : am_IT) (f : Nat) : Prop := ∀ (o k b : Nat) (L : List rOp) (P0 : List Nat) (I : am_IT), o ≤ 8 → b ≤ o → mA B n m T S E H k (rRefs L) P0 o I → (∀ v r, P0 = v :: r → v = 11 ∨ v = 12) → (rRefs L).length + P0.length ≤ k → P0.length ≤ 3 * o + 1 → 3 * (m - k) + 1 < f → x0 B n m T S E H (nI b, 1, I) k b o P0 (gz T f 0 o k L)
def D5 (B : Nat → Int32) (n m : Nat) (T : Nat → Int32) (S E : Nat → Nat) (H : am_IT) (f : Nat) : Prop := ∀ (o k b a : Nat) (L : List rOp) (R : List (Nat × Nat)) (P0 : List Nat) (I : am_IT), o ≤ 8 → b ≤ o → mA B n m T S E H k R (List.replicate a 10 ++ P0) o I → rRefs L = R ++ List.replicate a (10, 0) → a ≤ 1 → (∀ v r, P0 = v :: r → v = 11 ∨ v = 12) → (rRefs L).length + P0.length ≤ k → P0.length ≤ 3 * o + 1 → 3 * (m - k) < f → x0 B n m T S E H (nI b, 0, I) k b o P0 (gz T f 5 o k L)
def D1 (B : Nat → Int32) (n m : Nat) (T : Nat → Int32) (S E : Nat → Nat) (H : am_IT) (f : Nat) : Prop := ∀ (o k b : Nat) (L : List rOp) (P0 : List Nat) (I : am_IT), o ≤ 8 → b ≤ o → mA B n m T S E H k (rRefs L) P0 o I → hd12 P0 → (rRefs L).length + P0.length ≤ k → P0.length ≤ 3 * o → 3 * (m - k) + 2 < f → x1 B n m T S E H (nI b, 1, I) k b o P0 (gz T f 1 o k L)
def D6 (B : Nat → Int32) (n m : Nat) (T : Nat → Int32) (S E : Nat → Nat) (H : am_IT) (f : Nat) : Prop := ∀ (o k b a c : Nat) (L : List rOp) (R : List (Nat × Nat)) (P0 : List Nat) (I : am_IT), o ≤ 8 → b ≤ o → mA B n m T S E H k R (List.replicate a 10 ++ (List.replicate c 11 ++ P0)) o I → rRefs L = R ++ List.replicate a (10, 0) ++ List.replicate c (11, 0) → a ≤ 1 → c ≤ 1 → hd12 P0 → (rRefs L).length + P0.length ≤ k → P0.length ≤ 3 * o → 3 * (m - k) + 1 < f → x1 B n m T S E H (nI b, 0, I) k b o P0 (gz T f 6 o k L)
theorem d_0 {B : Nat → Int32} {n m : Nat} {T : Nat → Int32} {S E : Nat → Nat} {H : am_IT} (X : nx B n m T S E) (hT : ∀ k, okT (T k)) (hT3 : ∀ k, m ≤ k → T k = 300) {f : Nat} (h4 : D4 B n m T S E H f) (h5 : D5 B n m T S E H f) : D0 B n m T S E H (f + 1) := by
  intro o k b L P0 I ho hb A h0 hL hP hf
  have c7 : k ≤ m := A.1.1
  have q := h4 o k b 0 L P0 I ho (Nat.zero_le _) hb A (fun v r h => by have := h0 v r h; omega) (by omega) (by omega) (by omega)
  show x0 B n m T S E H (nI b, 1, I) k b o P0 (match gz T f 4 o k L with
      | .inr f => (.inr f : gO)
      | .inl (k1, L1) => gz T f 5 o k1 L1)
  cases hg : gz T f 4 o k L with
  | inr e =>
    obtain ⟨fq, kq⟩ := e
    rw [hg] at q
    exact q
  | inl e =>
    obtain ⟨k1, L1⟩ := e
    rw [hg] at q
    obtain ⟨s, I1, q1, q2, q3⟩ := q
    obtain ⟨p1, p2, p3⟩ := r_len (gz_p hT hT3 f 4 o k L ho c7) hg
    have p1' : k + 1 ≤ k1 := p1
    have q3' : mA B n m T S E H k1 (rRefs L1 ++ []) P0 o I1 := q3
    rw [List.append_nil] at q3'
    exact x0_s q1 q2 (h5 o k1 b 0 L1 (rRefs L1) P0 I1 ho hb q3' (List.append_nil _).symm (Nat.zero_le _) h0 (by omega) hP (by omega))
theorem d_1 {B : Nat → Int32} {n m : Nat} {T : Nat → Int32} {S E : Nat → Nat} {H : am_IT} (X : nx B n m T S E) (hT : ∀ k, okT (T k)) (hT3 : ∀ k, m ≤ k → T k = 300) {f : Nat} (h4 : D0 B n m T S E H f) (h5 : D6 B n m T S E H f) : D1 B n m T S E H (f + 1) := by
  intro o k b L P0 I ho hb A h0 hL hP hf
  have c7 : k ≤ m := A.1.1
  have q := h4 o k b L P0 I ho hb A (fun v r h => Or.inr (h0 v r h)) hL (by omega) (by omega)
  show x1 B n m T S E H (nI b, 1, I) k b o P0 (match gz T f 0 o k L with
      | .inr f => (.inr f : gO)
      | .inl (k1, L1) => gz T f 6 o k1 L1)
  cases hg : gz T f 0 o k L with
  | inr e =>
    obtain ⟨fq, kq⟩ := e
    rw [hg] at q
    exact q
  | inl e =>
    obtain ⟨k1, L1⟩ := e
    rw [hg] at q
    obtain ⟨s, I1, a, R', q1, q2, q3, q4, q5⟩ := q
    obtain ⟨p1, p2, p3⟩ := r_len (gz_p hT hT3 f 0 o k L ho c7) hg
    have p1' : k + 1 ≤ k1 := p1
    exact x1_s q1 q2 (h5 o k1 b a 0 L1 R' P0 I1 ho hb q3 (by rw [q4]; exact (List.append_nil _).symm) q5 (Nat.zero_le _) h0 (by omega) hP (by omega))
theorem d_5 {B : Nat → Int32} {n m : Nat} {T : Nat → Int32} {S E : Nat → Nat} {H : am_IT} (X : nx B n m T S E) (hT : ∀ k, okT (T k)) (hT3 : ∀ k, m ≤ k → T k = 300) {f : Nat} (h4 : D4 B n m T S E H f) (h5 : D5 B n m T S E H f) : D5 B n m T S E H (f + 1) := by
  intro o k b a L R P0 I ho hb A hR ha h0 hL hP hf
  have c7 : k ≤ m := A.1.1
  have hm : m ≤ 400 := X.2
  have hlen : (rRefs L).length = R.length + a := by rw [hR, List.length_append, List.length_replicate]
  show x0 B n m T S E H (nI b, 0, I) k b o P0 (if T k = 259 then (match gz T f 4 o (k + 1) L with
      | .inr f => (.inr f : gO)
      | .inl (k1, L1) => gz T f 5 o k1 (L1 ++ [(10, 0)])) else .inl (k, L))
  by_cases h1 : T k = 259
  · have hk : k < m := by
      by_cases z : m ≤ k
      · have := hT3 k z
        rw [this] at h1
        exact absurd h1 (by decide)
      · omega
    obtain ⟨I1, e1, A1⟩ := b_an (b := b) X A h0 (by omega) (by omega) h1 hk
    rw [← hR] at A1
    have s1 : rch (am_u3 bDue) 1 (nI b, 0, I) (nI b, 1, I1) := rch_1 e1
    have q := h4 o (k + 1) b 0 L (10 :: P0) I1 ho (Nat.zero_le _) hb A1 (fun v r h => by cases h; exact Or.inl rfl) (by show _ + 0 + (P0.length + 1) ≤ k + 1; omega) (by show 0 + (P0.length + 1) ≤ _; omega) (by omega)
    rw [if_pos h1]
    cases hg : gz T f 4 o (k + 1) L with
    | inr e =>
      obtain ⟨fq, kq⟩ := e
      rw [hg] at q
      exact xF_s (B := B) (n := n) (T := T) (E := E) s1 (by omega) q
    | inl e =>
      obtain ⟨k1, L1⟩ := e
      rw [hg] at q
      obtain ⟨s, I2, q1, q2, q3⟩ := q
      obtain ⟨p1, p2, p3⟩ := r_len (gz_p hT hT3 f 4 o (k + 1) L ho hk) hg
      have p1' : k + 1 + 1 ≤ k1 := p1
      have q3' : mA B n m T S E H k1 (rRefs L1 ++ []) (10 :: P0) o I2 := q3
      rw [List.append_nil] at q3'
      have hr2 : rRefs (L1 ++ [(10, 0)]) = rRefs L1 ++ List.replicate 1 (10, 0) := by rw [rRefs_app]; rfl
      exact x0_s (rch_t s1 q1) (by omega) (h5 o k1 b 1 (L1 ++ [(10, 0)]) (rRefs L1) P0 I2 ho hb q3' hr2 (Nat.le_refl _) h0 (by rw [hr2, List.length_append]; show _ + 1 + _ ≤ _; omega) hP (by omega))
  · rw [if_neg h1]
    exact ⟨0, I, a, R, (fun N => by rw [Nat.zero_add]), by omega, A, hR, ha⟩
theorem d_6 {B : Nat → Int32} {n m : Nat} {T : Nat → Int32} {S E : Nat → Nat} {H : am_IT} (X : nx B n m T S E) (hT : ∀ k, okT (T k)) (hT3 : ∀ k, m ≤ k → T k = 300) {f : Nat} (h4 : D0 B n m T S E H f) (h5 : D6 B n m T S E H f) : D6 B n m T S E H (f + 1) := by
  intro o k b a c L R P0 I ho hb A hR ha hc h0 hL hP hf
  have c7 : k ≤ m := A.1.1
  have hm : m ≤ 400 := X.2
  have hlen : (rRefs L).length = R.length + a + c := by rw [hR, List.length_append, List.length_append, List.length_replicate, List.length_replicate]
  show x1 B n m T S E H (nI b, 0, I) k b o P0 (if T k = 258 then (match gz T f 0 o (k + 1) L with
      | .inr f => (.inr f : gO)
      | .inl (k1, L1) => gz T f 6 o k1 (L1 ++ [(11, 0)])) else .inl (k, L))
  by_cases h1 : T k = 258
  · have hk : k < m := by
      by_cases z : m ≤ k
      · have := hT3 k z
        rw [this] at h1
        exact absurd h1 (by decide)
      · omega
    obtain ⟨I1, e1, A1⟩ := b_oo (b := b) X A h0 (by omega) (by omega) h1 hk
    rw [← hR] at A1
    have s1 : rch (am_u3 bDue) 1 (nI b, 0, I) (nI b, 1, I1) := rch_1 e1
    have q := h4 o (k + 1) b L (11 :: P0) I1 ho hb A1 (fun v r h => by cases h; exact Or.inl rfl) (by show _ + (P0.length + 1) ≤ k + 1; omega) (by show P0.length + 1 ≤ _; omega) (by omega)
    rw [if_pos h1]
    cases hg : gz T f 0 o (k + 1) L with
    | inr e =>
      obtain ⟨fq, kq⟩ := e
      rw [hg] at q
      exact xF_s (B := B) (n := n) (T := T) (E := E) s1 (by omega) q
    | inl e =>
      obtain ⟨k1, L1⟩ := e
      rw [hg] at q
      obtain ⟨s, I2, a2, R2, q1, q2, q3, q4, q5⟩ := q
      obtain ⟨p1, p2, p3⟩ := r_len (gz_p hT hT3 f 0 o (k + 1) L ho hk) hg
      have p1' : k + 1 + 1 ≤ k1 := p1
      have hr2 : rRefs (L1 ++ [(11, 0)]) = R2 ++ List.replicate a2 (10, 0) ++ List.replicate 1 (11, 0) := by rw [rRefs_app, q4]; rfl
      have hl2 : (rRefs (L1 ++ [(11, 0)])).length = (rRefs L1).length + 1 := by rw [rRefs_app, List.length_append]; rfl
      exact x1_s (rch_t s1 q1) (by omega) (h5 o k1 b a2 1 (L1 ++ [(11, 0)]) R2 P0 I2 ho hb q3 hr2 q5 (Nat.le_refl _) h0 (by omega) hP (by omega))
  · rw [if_neg h1]
    exact ⟨0, I, a, c, R, (fun N => by rw [Nat.zero_add]), by omega, A, hR, ha, hc⟩
