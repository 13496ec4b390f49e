/-! text: how the reference reads -/
def mG (H I : am_IT) : Prop := (∀ q, q ≠ 55 → (q < 75 ∨ 80 < q) → I q = H q) ∧ (∀ j, (j < 27 ∨ 30 < j) → j ≠ 38 → j ≠ 39 → j ≠ 41 → j ≠ 42 → j ≠ 43 → I 55 j = H 55 j) ∧ (∀ i, i < 400 → I 78 i = H 78 i ∧ I 79 i = H 79 i) ∧ ∀ i, i < 32 → I 75 i = H 75 i ∧ I 76 i = H 76 i ∧ I 77 i = H 77 i
theorem mG_r (I : am_IT) : mG I I := ⟨fun _ _ _ => rfl, fun _ _ _ _ _ _ _ => rfl, fun _ _ => ⟨rfl, rfl⟩, fun _ _ => ⟨rfl, rfl, rfl⟩⟩
theorem mG_t {I J K : am_IT} (h : mG I J) (g : mG J K) : mG I K := ⟨fun q h1 h2 => (g.1 q h1 h2).trans (h.1 q h1 h2), fun j a b c d e f => (g.2.1 j a b c d e f).trans (h.2.1 j a b c d e f), fun i hi => ⟨(g.2.2.1 i hi).1.trans (h.2.2.1 i hi).1, (g.2.2.1 i hi).2.trans (h.2.2.1 i hi).2⟩, fun i hi => ⟨(g.2.2.2 i hi).1.trans (h.2.2.2 i hi).1, (g.2.2.2 i hi).2.1.trans (h.2.2.2 i hi).2.1, (g.2.2.2 i hi).2.2.trans (h.2.2.2 i hi).2.2⟩⟩
/-- only the reading's own cells differ -/
def mF (H I : am_IT) : Prop := (∀ q, q ≠ 55 → q ≠ 78 → q ≠ 79 → I q = H q) ∧ (∀ j, (j < 27 ∨ 30 < j) → j ≠ 38 → I 55 j = H 55 j) ∧ (∀ i, i < 400 → I 78 i = H 78 i ∧ I 79 i = H 79 i)
theorem mF_r (I : am_IT) : mF I I := ⟨fun _ _ _ _ => rfl, fun _ _ _ => rfl, fun _ _ => ⟨rfl, rfl⟩⟩
theorem mF_G {H I : am_IT} (h : mF H I) : mG H I := ⟨fun q h1 h2 => h.1 q h1 (by omega) (by omega), fun j a b _ _ _ _ => h.2.1 j a b, h.2.2, fun i _ => ⟨by rw [h.1 75 (by decide) (by decide) (by decide)], by rw [h.1 76 (by decide) (by decide) (by decide)], by rw [h.1 77 (by decide) (by decide) (by decide)]⟩⟩
def nx (B : Nat → Int32) (n m : Nat) (T : Nat → Int32) (S E : Nat → Nat) : Prop := (∀ k, k < m → isT B n (E k) (S (k + 1)) (E (k + 1)) (T (k + 1))) ∧ m ≤ 400
def mZ (B : Nat → Int32) (n m : Nat) (T : Nat → Int32) (S E : Nat → Nat) (H : am_IT) (k : Nat) (R : List (Nat × Nat)) (I : am_IT) : Prop :=
  k ≤ m ∧ I 55 27 = nI (E k) ∧ I 55 28 = nI (S k) ∧ KV (T k) (I 55 29) (I 55 30) ∧ I 55 38 = nI R.length ∧ (∀ i a b, R[i]? = some (a, b) → I 78 (400 + i) = nI a ∧ I 79 (400 + i) = nI b) ∧ mF H I ∧ RE B n I
def mE (S : Nat → Nat) (H : am_IT) (f k : Nat) (I : am_IT) : Prop := I 55 42 = nI f ∧ I 55 43 = nI (S k) ∧ mG H I
theorem r_reads {B : Nat → Int32} {n m : Nat} {T : Nat → Int32} {S E : Nat → Nat} {H I : am_IT} {k : Nat} {R : List (Nat × Nat)} (X : nx B n m T S E) (M : mZ B n m T S E H k R I) (hk : k < m) : ∃ I', F_X12_reads_55 I = some I' ∧ mZ B n m T S E H (k + 1) R I' := by
  obtain ⟨a1, a2, a3, a4, a5, a6, ⟨f1, f2, f3⟩, a8⟩ := M
  obtain ⟨J, e1, s1, s2, s3, s4⟩ := e_reads a8 a2 (X.1 k hk)
  refine ⟨J, e1, hk, s2, s3, s4, (s1.2 38 (by decide)).trans a5, fun i a b h => ?_, ⟨fun q h1 h2 h3 => (s1.1 q h1).trans (f1 q h1 h2 h3), fun j hj h => (s1.2 j hj).trans (f2 j hj h), fun i hi => ?_⟩, RE_s a8 s1⟩
  · rw [s1.1 78 (by decide), s1.1 79 (by decide)]; exact a6 i a b h
  · rw [s1.1 78 (by decide), s1.1 79 (by decide)]; exact f3 i hi
theorem r_emit {B : Nat → Int32} {n m : Nat} {T : Nat → Int32} {S E : Nat → Nat} {H I : am_IT} {k : Nat} {R : List (Nat × Nat)} (M : mZ B n m T S E H k R I) (hR : R.length < 400) (a b : Nat) {u v : Int32} (hu : u = nI a) (hv : v = nI b) : ∃ I', F_X12_emits_55 I u v = some I' ∧ mZ B n m T S E H k (R ++ [(a, b)]) I' := by
  obtain ⟨a1, a2, a3, a4, a5, a6, ⟨f1, f2, f3⟩, a8⟩ := M
  unfold F_X12_emits_55
  have e0 : (400 : Int32) + nI R.length = nI (400 + R.length) := nI_add 400 R.length
  rw [a5, e0, if_pos (am_ix_nI (by omega) (by decide)), am_let_s, nI_clamp (by omega), show (up2 I 78 (400 + R.length) u) 55 38 = nI R.length from a5, e0, if_pos (am_ix_nI (by omega) (by decide)), am_let_s, nI_clamp (by omega), show (up2 (up2 I 78 (400 + R.length) u) 79 (400 + R.length) v) 55 38 = nI R.length from a5, am_let_s, nI_1]
  refine ⟨_, rfl, a1, a2, a3, a4, ?_, fun i a' b' h => ?_, ⟨fun q h1 h2 h3 => ?_, fun j hj h => ?_, fun i hi => ?_⟩, ⟨a8.1, a8.2.1, a8.2.2.1, a8.2.2.2.1, a8.2.2.2.2⟩⟩
  · rw [up2_s, List.length_append]; rfl
  · rw [up2_k _ _ (show (78 : Nat) ≠ 55 by decide), up2_k _ _ (show (78 : Nat) ≠ 79 by decide), up2_k _ _ (show (79 : Nat) ≠ 55 by decide), up2_r, up2_r, up2_k _ _ (show (79 : Nat) ≠ 78 by decide)]
    by_cases z : i = R.length
    · subst z
      rw [List.getElem?_append_right (Nat.le_refl _), Nat.sub_self] at h
      cases h
      rw [if_pos rfl, if_pos rfl]
      exact ⟨hu, hv⟩
    · rw [if_neg (by omega), if_neg (by omega)]
      by_cases g : i < R.length
      · rw [List.getElem?_append_left g] at h
        exact a6 i a' b' h
      · rw [List.getElem?_append_right (by omega)] at h
        obtain ⟨p, hp⟩ : ∃ p, i - R.length = p + 1 := ⟨i - R.length - 1, by omega⟩
        rw [hp] at h
        cases h
  · rw [up2_k _ _ h1, up2_k _ _ h3, up2_k _ _ h2]; exact f1 q h1 h2 h3
  · rw [up2_j _ _ h, up2_k _ _ (by decide), up2_k _ _ (by decide)]; exact f2 j hj h
  · rw [up2_k _ _ (show (78 : Nat) ≠ 55 by decide), up2_k _ _ (show (78 : Nat) ≠ 79 by decide), up2_k _ _ (show (79 : Nat) ≠ 55 by decide), up2_r, up2_r, up2_k _ _ (show (79 : Nat) ≠ 78 by decide), if_neg (by omega), if_neg (by omega)]
    exact f3 i hi
theorem r_errs {B : Nat → Int32} {n m : Nat} {T : Nat → Int32} {S E : Nat → Nat} {H I : am_IT} {k : Nat} {R : List (Nat × Nat)} (M : mZ B n m T S E H k R I) {v : Int32} {f : Nat} (hv : v = nI f) : ∃ I', F_X12_errs_55 I v = some (-1, I') ∧ mE S H f k I' := by
  obtain ⟨a1, a2, a3, a4, a5, a6, a7, a8⟩ := M
  obtain ⟨f1, f2, f3, f4⟩ := mF_G a7
  unfold F_X12_errs_55
  rw [am_let_s, am_let_s]
  refine ⟨_, rfl, hv, a3, fun q h1 h2 => ?_, fun j a b c d e f => ?_, fun i hi => ?_, fun i hi => ?_⟩
  · rw [up2_k _ _ h1, up2_k _ _ h1]; exact f1 q h1 h2
  · rw [up2_j _ _ f, up2_j _ _ e]; exact f2 j a b c d e f
  · exact f3 i hi
  · exact f4 i hi
theorem mk_lt {t : Int32} (h : isMk t = true) : ∃ c, c < 63 ∧ t = nI c := by
  unfold isMk at h
  simp only [Bool.or_eq_true, beq_iff_eq] at h
  rcases h with ((((((((rfl | rfl) | rfl) | rfl) | rfl) | rfl) | rfl) | rfl) | rfl) | rfl
  · exact ⟨59, by decide, rfl⟩
  · exact ⟨43, by decide, rfl⟩
  · exact ⟨45, by decide, rfl⟩
  · exact ⟨42, by decide, rfl⟩
  · exact ⟨47, by decide, rfl⟩
  · exact ⟨40, by decide, rfl⟩
  · exact ⟨41, by decide, rfl⟩
  · exact ⟨60, by decide, rfl⟩
  · exact ⟨61, by decide, rfl⟩
  · exact ⟨62, by decide, rfl⟩
theorem wp_t : ∀ r, r < 17 → wp r < 17 ∧ (11 ≤ wp r ↔ 11 ≤ r) ∧ (11 ≤ r → wp r = r) ∧ (∀ q, q < 17 → wp r = wp q → r = q) ∧ ((5 ≤ wp r ∧ wp r ≤ 10) ↔ (1 ≤ r ∧ r ≤ 6)) ∧ (1 ≤ r → r ≤ 6 → wp r = r + 4) := by decide +kernel
theorem e_isS {t : Int32} {I : am_IT} (K : KV t (I 55 29) (I 55 30)) {c : Int32} (hc : isMk c = true) : F_X12_isSign_55 I c = some (if t = c then 1 else 0) := by
  unfold F_X12_isSign_55
  have hn : ¬ isMk t = true → ¬ t = c := fun h z => h (by rw [z]; exact hc)
  rcases K with ⟨h1, h2⟩ | ⟨h1, h2⟩ | ⟨r, hr, h1, h2, h3⟩ | ⟨x, hx, h1, h2, h3⟩ | ⟨h1, h2, h3⟩
  · rw [h2, if_neg (by decide), if_neg (hn (by rw [h1]; decide))]
  · rw [h2, if_neg (by decide), if_neg (hn (by rw [h1]; decide))]
  · rw [h2, if_neg (by decide), if_neg (hn (fun z => by
      obtain ⟨q, hq, e⟩ := mk_lt z
      rw [h1] at e
      have := (nI_eq (by have := (wp_t r hr).1; omega) (by omega)).mp e
      omega))]
  · rw [h2, if_neg (by decide), if_neg (hn (fun z => by
      obtain ⟨q, hq, e⟩ := mk_lt z
      rw [h1] at e
      have := (nI_eq (by omega) (by omega)).mp e
      omega))]
  · rw [h2, if_pos rfl, h3]
    by_cases q : t = c
    · rw [if_pos q, if_pos q]
    · rw [if_neg q, if_neg q]
theorem e_isW {t : Int32} {I : am_IT} (K : KV t (I 55 29) (I 55 30)) {w : Nat} (hw : w < 17) {v : Int32} (hv : v = nI w) : F_X12_isWord_55 I v = some (if t = nI (256 + wp w) then 1 else 0) := by
  unfold F_X12_isWord_55
  have hww := (wp_t w hw).1
  rcases K with ⟨h1, h2⟩ | ⟨h1, h2⟩ | ⟨r, hr, h1, h2, h3⟩ | ⟨x, hx, h1, h2, h3⟩ | ⟨h1, h2, h3⟩
  · rw [h2, if_neg (by decide), if_neg (fun z => by
      rw [h1] at z
      have := (nI_eq (a := 300) (by decide) (by omega)).mp z
      omega)]
  · rw [h2, if_neg (by decide), if_neg (fun z => by
      rw [h1] at z
      have := (nI_eq (a := 301) (by decide) (by omega)).mp z
      omega)]
  · rw [h2, if_pos rfl, h3, hv, h1]
    have hrw := (wp_t r hr).1
    by_cases q : r = w
    · subst q; rw [if_pos rfl, if_pos rfl]
    · rw [if_neg (fun z => q ((nI_eq (by omega) (by omega)).mp z)), if_neg (fun z => q ((wp_t r hr).2.2.2.1 w hw (by have := (nI_eq (by omega) (by omega)).mp z; omega)))]
  · rw [h2, if_neg (by decide), if_neg (fun z => by
      rw [h1] at z
      have := (nI_eq (by omega) (by omega)).mp z
      omega)]
  · rw [h2, if_neg (by decide), if_neg (fun z => by
      obtain ⟨q, hq, e⟩ := mk_lt h1
      rw [e] at z
      have := (nI_eq (by omega) (by omega)).mp z
      omega)]
theorem KV_un {t k v : Int32} (K : KV t k v) : (un t = none ∧ ¬ k = 3 ∧ (k = 2 → v < 11)) ∨ (∃ x, x < 10000 ∧ t = nI (1000 + x) ∧ k = 3 ∧ v = nI x ∧ un t = some (0, x)) ∨ (∃ x, x < 6 ∧ t = nI (267 + x) ∧ k = 2 ∧ ¬ v < 11 ∧ v - 11 = nI x ∧ un t = some (1, x)) := by
  unfold un
  rcases K with ⟨h1, h2⟩ | ⟨h1, h2⟩ | ⟨r, hr, h1, h2, h3⟩ | ⟨x, hx, h1, h2, h3⟩ | ⟨h1, h2, h3⟩
  · subst h1; subst h2
    exact Or.inl ⟨by rw [if_neg (by decide), if_neg (by decide)], by decide, fun z => absurd z (by decide)⟩
  · subst h1; subst h2
    exact Or.inl ⟨by rw [if_neg (by decide), if_neg (by decide)], by decide, fun z => absurd z (by decide)⟩
  · obtain ⟨w1, w2, w3, w4, w5, w6⟩ := wp_t r hr
    by_cases g : 11 ≤ r
    · rw [w3 g] at h1
      refine Or.inr (Or.inr ⟨r - 11, by omega, by rw [h1, show 267 + (r - 11) = 256 + r by omega], h2, ?_, ?_, ?_⟩)
      · rw [h3]; exact fun z => by have := (nI_ltI (a := r) (b := 11) (by omega) (by decide)).mp z; omega
      · rw [h3, show (11 : Int32) = nI 11 from rfl, pk_sub g]
      · rw [h1, if_neg (show ¬ (1000 : Int32) ≤ nI (256 + r) from nI_ge (b := 1000) (by omega) (by decide)), if_pos ⟨show (267 : Int32) ≤ nI (256 + r) from nI_le (a := 267) (by omega) (by omega), show nI (256 + r) ≤ (272 : Int32) from nI_le (b := 272) (by omega) (by decide)⟩, nI_clamp (by omega), show 256 + r - 267 = r - 11 by omega]
    · have hw : wp r < 11 := by omega
      refine Or.inl ⟨?_, by rw [h2]; decide, fun _ => by rw [h3]; exact nI_lt (b := 11) (by omega) (by decide)⟩
      rw [h1, if_neg (show ¬ (1000 : Int32) ≤ nI (256 + wp r) from nI_ge (b := 1000) (by omega) (by decide)), if_neg (fun z => absurd z.1 (show ¬ (267 : Int32) ≤ nI (256 + wp r) from nI_ge (b := 267) (by omega) (by decide)))]
  · refine Or.inr (Or.inl ⟨x, hx, h1, h2, h3, ?_⟩)
    rw [h1, if_pos (show (1000 : Int32) ≤ nI (1000 + x) from nI_le (a := 1000) (by omega) (by omega)), nI_clamp (by omega), show 1000 + x - 1000 = x by omega]
  · obtain ⟨q, hq, e⟩ := mk_lt h1
    refine Or.inl ⟨?_, by rw [h2]; decide, fun z => by rw [h2] at z; exact absurd z (by decide)⟩
    rw [e, if_neg (show ¬ (1000 : Int32) ≤ nI q from nI_ge (b := 1000) (by omega) (by decide)), if_neg (fun z => absurd z.1 (show ¬ (267 : Int32) ≤ nI q from nI_ge (b := 267) (by omega) (by decide)))]
theorem r_unit_n {B : Nat → Int32} {n m : Nat} {T : Nat → Int32} {S E : Nat → Nat} {H I : am_IT} {k : Nat} {R : List (Nat × Nat)} (M : mZ B n m T S E H k R I) (hu : un (T k) = none) : ∃ I', F_X12_readUnit_55 I = some (-1, I') ∧ mE S H 1 k I' := by
  obtain ⟨I1, e1, F1⟩ := r_errs M (v := 1) (f := 1) rfl
  rcases KV_un M.2.2.2.1 with ⟨_, h1, h2⟩ | ⟨x, _, _, _, _, h⟩ | ⟨x, _, _, _, _, _, h⟩
  · unfold F_X12_readUnit_55
    have : (if (I 55 29) = (2 : Int32) then (if (I 55 30) < (11 : Int32) then (some ((0 : Int32))) else (some ((1 : Int32)))) else (some ((0 : Int32)))) = some 0 := by
      by_cases g : I 55 29 = 2
      · rw [if_pos g, if_pos (h2 g)]
      · rw [if_neg g]
    rw [this, am_b1_s, if_pos rfl, if_neg h1, e1, am_b2_s]
    exact ⟨_, rfl, F1⟩
  · rw [hu] at h; cases h
  · rw [hu] at h; cases h
theorem r_unit_s {B : Nat → Int32} {n m : Nat} {T : Nat → Int32} {S E : Nat → Nat} {H I : am_IT} {k : Nat} {R : List (Nat × Nat)} (X : nx B n m T S E) (M : mZ B n m T S E H k R I) (hk : k < m) (hR : R.length < 400) {o : rOp} (hu : un (T k) = some o) : ∃ I', F_X12_readUnit_55 I = some (0, I') ∧ mZ B n m T S E H (k + 1) (R ++ rRef o) I' := by
  rcases KV_un M.2.2.2.1 with ⟨h, _⟩ | ⟨x, hx, h1, h2, h3, h⟩ | ⟨x, hx, h1, h2, h3, h4, h⟩
  · rw [hu] at h; cases h
  · rw [hu] at h
    cases h
    obtain ⟨I1, e1, M1⟩ := r_emit M hR 0 x (u := 0) (v := I 55 30) rfl h3
    obtain ⟨I2, e2, M2⟩ := r_reads X M1 hk
    unfold F_X12_readUnit_55
    rw [h2, if_neg (show ¬ (3 : Int32) = 2 by decide), am_b1_s, if_pos rfl, if_pos rfl, if_pos rfl, am_b1_s, if_pos rfl, am_b1_s, e1, am_b1_s, e2, am_b1_s]
    exact ⟨_, rfl, M2⟩
  · rw [hu] at h
    cases h
    obtain ⟨I1, e1, M1⟩ := r_emit M hR 1 x (u := 1) (v := I 55 30 - 11) rfl h4
    obtain ⟨I2, e2, M2⟩ := r_reads X M1 hk
    unfold F_X12_readUnit_55
    rw [h2, if_pos rfl, if_neg h3, am_b1_s, if_neg (show ¬ (1 : Int32) = 0 by decide), if_neg (show ¬ (1 : Int32) = 0 by decide), am_b1_s, if_neg (show ¬ (1 : Int32) = 0 by decide), am_b1_s, e1, am_b1_s, e2, am_b1_s]
    exact ⟨_, rfl, M2⟩
