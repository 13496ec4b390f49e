/-! text: how the class splits it -/
theorem it_b1_ex {X E Z : Type} {f : X → Option (X ⊕ E)} {k : E → Option Z} {x0 : X} {R : Option Z → Prop} (Inv : Nat → X → Prop) (Post : E → Prop) {n : Nat} (hn : n < 1000000) (hs : ∀ i x, i < n → Inv i x → (∃ y, f x = some (.inl y) ∧ Inv (i + 1) y) ∨ (∃ e, f x = some (.inr e) ∧ Post e)) (he : ∀ x, Inv n x → ∃ e, f x = some (.inr e) ∧ Post e) (h0 : Inv 0 x0) (hk : ∀ e, Post e → R (k e)) : R (am_b1 (am_it am_fu f x0) k) := by
  obtain ⟨e, h1, h2⟩ := am_it_ex2 Inv Post hn hs he h0
  rw [h1]; exact hk e h2
theorem e_num {I : am_IT} {B : Nat → Int32} {n a e : Nat} (hn : n ≤ 400) (hB : ∀ i, i < n → I 54 i = B i) (hv : ∀ i, i < n → vb 256 (B i)) (h : rn B n 3 a e) : F_X7_numberAt_54 I (nI a) (nI e) = some (if e - a ≤ 4 then nI (1000 + nv B a (e - a)) else 301) := by
  obtain ⟨z1, z2, z3, z4⟩ := h
  unfold F_X7_numberAt_54
  rw [pk_sub (by omega)]
  by_cases h4 : e - a ≤ 4
  · rw [if_pos (show nI (e - a) ≤ (4 : Int32) from nI_le (b := 4) h4 (by decide)), if_pos h4]
    refine it_u2 (fun i => nI (nv B a i)) (fun i => nI (a + i)) (n := e - a) (e := nI (nv B a (e - a))) rfl (by omega) (fun i hi => ?_) ?_ ?_
    · obtain ⟨d, hd, ed⟩ := kd_d (hv (a + i) (by omega)) (z3 (a + i) (by omega) (by omega))
      rw [if_neg (nI_ge (by omega) (by omega)), if_pos (am_ix_nI (by omega) (by decide)), nI_clamp (by omega), hB _ (by omega), am_let_s, am_let_s, ed, show (10 : Int32) = nI 10 from rfl, nI_mul, nI_dg, nI_1, nv_s ed hd, Nat.mul_comm]
      rfl
    · rw [if_pos (nI_le (by omega) (by omega))]
    · rw [show (1000 : Int32) = nI 1000 from rfl, nI_add]
  · rw [if_neg (show ¬ nI (e - a) ≤ (4 : Int32) from nI_ge (a := 4) (by omega) (by omega)), if_neg h4]
/-- what the last part of isT says of a token at s -/
def tkT (B : Nat → Int32) (n s e : Nat) (t : Int32) : Prop := (s < n ∧ kd (B s) = 0 ∧ e = s + 1 ∧ t = if isMk (B s) = true then B s else 301) ∨
   (rn B n 2 s e ∧ ((∃ j, j < 17 ∧ eW B s e j ∧ t = nI (256 + j)) ∨ (t = 301 ∧ ∀ j, j < 17 → ¬ eW B s e j))) ∨
   (rn B n 3 s e ∧ t = if e - s ≤ 4 then nI (1000 + nv B s (e - s)) else 301)
theorem e_tok {I : am_IT} {B : Nat → Int32} {n s e : Nat} (hn : n ≤ 400) (hB : ∀ i, i < n → I 54 i = B i) (hv : ∀ i, i < n → vb 256 (B i)) (hs : s < n) (h1 : ¬ kd (B s) = 1) (h0 : kd (B s) = 0 → e = s + 1) (hr : ¬ kd (B s) = 0 → rn B n (kd (B s)) s e) : ∃ t, F_X7_tokenOf_54 I (kd (B s)) (nI s) (nI e) = some t ∧ tkT B n s e t := by
  unfold F_X7_tokenOf_54
  rcases kd_3 (B s) with k | k | k | k
  · rw [k, if_neg (by decide), if_neg (by decide), if_pos (am_ix_nI (by omega) (by decide)), nI_clamp (by omega), hB s hs]
    obtain ⟨r, hr1, hr2⟩ := e_sg I (hv s hs)
    rw [hr1, am_b1_s]
    by_cases q : r < 0
    · rw [if_pos q]
      exact ⟨_, rfl, Or.inl ⟨hs, k, h0 k, by rw [if_neg (by rw [hr2.mp q]; decide)]⟩⟩
    · rw [if_neg q, if_pos (am_ix_nI (by omega) (by decide))]
      have : isMk (B s) = true := by
        cases hm : isMk (B s)
        · exact absurd (hr2.mpr hm) q
        · rfl
      exact ⟨_, rfl, Or.inl ⟨hs, k, h0 k, by rw [if_pos this]⟩⟩
  · exact absurd k h1
  · have hr' := hr (by rw [k]; decide)
    rw [k] at hr'
    obtain ⟨t, ht, h⟩ := e_key (I := I) (B := B) (a := s) (e := e) (fun i hi => hB i (by have := hr'.2.1; omega)) (by have := hr'.2.1; omega) (by have := hr'.1; omega)
    rw [k, if_pos rfl, ht, am_b1_s]
    exact ⟨t, rfl, Or.inr (Or.inl ⟨hr', h⟩)⟩
  · have hr' := hr (by rw [k]; decide)
    rw [k] at hr'
    rw [k, if_neg (by decide), if_pos rfl, e_num hn hB hv hr', am_b1_s]
    exact ⟨_, rfl, Or.inr (Or.inr ⟨hr', rfl⟩)⟩
def ep (e : Nat → Nat) : Nat → Nat
  | 0 => 0
  | k + 1 => e k
def TP (B : Nat → Int32) (n c : Nat) (s e : Nat → Nat) (t : Nat → Int32) : Prop := ∀ k, k < c → isT B n (ep e k) (s k) (e k) (t k) ∧ s k < n ∧ k < e k
theorem TP_s {B : Nat → Int32} {n c : Nat} {s e : Nat → Nat} {t : Nat → Int32} {p x : Nat} {v : Int32} (T : TP B n c s e t) (h : isT B n (ep e c) p x v) (hp : p < n) (hx : c < x) : TP B n (c + 1) (fun k => if k = c then p else s k) (fun k => if k = c then x else e k) (fun k => if k = c then v else t k) := by
  have he : ∀ k, k ≤ c → ep (fun k => if k = c then x else e k) k = ep e k := by
    intro k hk
    cases k with
    | zero => rfl
    | succ k => show (if k = c then x else e k) = e k; rw [if_neg (by omega)]
  intro k hk
  rw [he k (by omega)]
  by_cases z : k = c
  · subst z
    simp only [if_true]
    exact ⟨h, hp, hx⟩
  · simp only [if_neg z]
    exact T k (by omega)
theorem e_add {I : am_IT} {c : Nat} {v p : Int32} (h : I 47 5 = nI c) (hc : c < 401) : F_X7_addToken_47 I v p = some (up2 (up2 (up2 I 52 c v) 53 c p) 47 5 (nI (c + 1))) := by
  unfold F_X7_addToken_47
  rw [h, if_neg (show ¬ (401 : Int32) ≤ nI c from nI_ge hc (by decide)), if_pos (am_ix_nI hc (by decide)), am_let_s, nI_clamp (by omega), show (up2 I 52 c v) 47 5 = nI c from h, if_pos (am_ix_nI hc (by decide)), am_let_s, nI_clamp (by omega), show (up2 (up2 I 52 c v) 53 c p) 47 5 = nI c from h, am_let_s, nI_1]
def TZ (B : Nat → Int32) (n m : Nat) (s e : Nat → Nat) (t : Nat → Int32) : Prop := TP B n m s e t ∧ m ≤ n ∧ isT B n (ep e m) n n 300
theorem e_split {I : am_IT} {B : Nat → Int32} {n : Nat} (hn : n ≤ 400) (hB : ∀ i, i < n → I 54 i = B i) (hv : ∀ i, i < n → vb 256 (B i)) : ∃ J, F_X7_split_47_54 I (nI n) = some J ∧ ∃ (m : Nat) (s e : Nat → Nat) (t : Nat → Int32), TZ B n m s e t ∧ (∀ k, k ≠ 47 → k ≠ 52 → k ≠ 53 → J k = I k) ∧ (∀ j, j ≠ 5 → J 47 j = I 47 j) ∧ J 47 5 = nI (m + 1) ∧ (∀ k, k < m → J 52 k = t k ∧ J 53 k = nI (s k)) ∧ J 52 m = 300 ∧ J 53 m = nI n := by
  unfold F_X7_split_47_54
  rw [am_let_s]
  refine it_b1_ex (R := fun z => ∃ J : am_IT, z = some J ∧ ∃ (m : Nat) (s e : Nat → Nat) (t : Nat → Int32), TZ B n m s e t ∧ (∀ k, k ≠ 47 → k ≠ 52 → k ≠ 53 → J k = I k) ∧ (∀ j, j ≠ 5 → J 47 j = I 47 j) ∧ J 47 5 = nI (m + 1) ∧ (∀ k, k < m → J 52 k = t k ∧ J 53 k = nI (s k)) ∧ J 52 m = 300 ∧ J 53 m = nI n)
    (fun i x => ∃ (p : Nat) (J : am_IT) (c : Nat) (s e : Nat → Nat) (t : Nat → Int32), x = (nI p, J) ∧ i ≤ p ∧ p ≤ n ∧ TP B n c s e t ∧ c ≤ p ∧ ep e c ≤ p ∧ (∀ k, ep e c ≤ k → k < p → kd (B k) = 1) ∧ (∀ k, k ≠ 47 → k ≠ 52 → k ≠ 53 → J k = I k) ∧ (∀ j, j ≠ 5 → J 47 j = I 47 j) ∧ J 47 5 = nI c ∧ (∀ k, k < c → J 52 k = t k ∧ J 53 k = nI (s k)))
    (fun (J : am_IT) => ∃ (c : Nat) (s e : Nat → Nat) (t : Nat → Int32), TP B n c s e t ∧ c ≤ n ∧ ep e c ≤ n ∧ (∀ k, ep e c ≤ k → k < n → kd (B k) = 1) ∧ (∀ k, k ≠ 47 → k ≠ 52 → k ≠ 53 → J k = I k) ∧ (∀ j, j ≠ 5 → J 47 j = I 47 j) ∧ J 47 5 = nI c ∧ (∀ k, k < c → J 52 k = t k ∧ J 53 k = nI (s k))) (n := n) (by omega) ?_ ?_ ?_ ?_
  · rintro i x hi ⟨p, J, c, s, e, t, rfl, a1, a2, a3, a4, a5, a6, a7, a8, a9, a10⟩
    rw [am_u2_s]
    by_cases hp : p = n
    · subst hp
      rw [if_pos (nI_le (Nat.le_refl _) (by omega))]
      exact Or.inr ⟨_, rfl, c, s, e, t, a3, a4, a5, a6, a7, a8, a9, a10⟩
    · have hBJ : ∀ i, i < n → J 54 i = B i := by rw [a7 54 (by decide) (by decide) (by decide)]; exact hB
      have e47 : (47 : Nat) ≠ 52 := by decide
      refine Or.inl ?_
      rw [if_neg (nI_ge (by omega) (by omega)), if_pos (am_ix_nI (by omega) (by decide)), nI_clamp (by omega), hBJ p (by omega), e_kd _ (hv p (by omega)), am_b1_s, am_let_s, nI_1]
      refine it_b1_ex (R := fun (z : Option ((Int32 × am_IT) ⊕ am_IT)) => ∃ y, z = some (.inl y) ∧ (∃ (p' : Nat) (J' : am_IT) (c : Nat) (s e : Nat → Nat) (t : Nat → Int32), y = (nI p', J') ∧ i + 1 ≤ p' ∧ p' ≤ n ∧ TP B n c s e t ∧ c ≤ p' ∧ ep e c ≤ p' ∧ (∀ k, ep e c ≤ k → k < p' → kd (B k) = 1) ∧ (∀ k, k ≠ 47 → k ≠ 52 → k ≠ 53 → J' k = I k) ∧ (∀ j, j ≠ 5 → J' 47 j = I 47 j) ∧ J' 47 5 = nI c ∧ (∀ k, k < c → J' 52 k = t k ∧ J' 53 k = nI (s k))))
        (fun i x => x = nI (p + 1 + i) ∧ (∀ k, p ≤ k → k < p + 1 + i → kd (B k) = kd (B p)) ∧ (kd (B p) = 0 → i = 0)) (fun z => ∃ x : Nat, z = nI x ∧ p < x ∧ x ≤ n ∧ (∀ k, p ≤ k → k < x → kd (B k) = kd (B p)) ∧ (kd (B p) = 0 → x = p + 1) ∧ (¬ kd (B p) = 0 → x < n → ¬ kd (B x) = kd (B p))) (n := n - p - 1) (by omega) ?_ ?_ ⟨rfl, fun k h1 h2 => by rw [show k = p by omega], fun _ => rfl⟩ ?_
      · rintro i x hi ⟨rfl, b1, b2⟩
        rw [if_neg (nI_ge (by omega) (by omega))]
        by_cases k0 : kd (B p) = 0
        · rw [if_pos k0]
          exact Or.inr ⟨_, rfl, _, rfl, by omega, by omega, b1, fun _ => by rw [b2 k0], fun q => absurd k0 q⟩
        · rw [if_neg k0, if_pos (am_ix_nI (by omega) (by decide)), nI_clamp (by omega), hBJ _ (by omega), e_kd _ (hv _ (by omega)), am_b1_s]
          by_cases k1 : kd (B (p + 1 + i)) = kd (B p)
          · rw [if_pos k1, am_let_s]
            refine Or.inl ⟨_, rfl, nI_1 _, fun k h1 h2 => ?_, fun q => absurd q k0⟩
            by_cases z : k = p + 1 + i
            · rw [z]; exact k1
            · exact b1 k h1 (by omega)
          · rw [if_neg k1]
            exact Or.inr ⟨_, rfl, _, rfl, by omega, by omega, b1, fun q => absurd q k0, fun _ _ => k1⟩
      · rintro x ⟨rfl, b1, b2⟩
        rw [if_pos (nI_le (by omega) (by omega))]
        exact ⟨_, rfl, _, rfl, by omega, by omega, b1, fun q => by have := b2 q; omega, fun _ q => by omega⟩
      · rintro z ⟨x, rfl, b1, b2, b3, b4, b5⟩
        by_cases k1 : kd (B p) = 1
        · rw [if_pos k1]
          refine ⟨_, rfl, x, J, c, s, e, t, rfl, by omega, b2, a3, by omega, by omega, fun k h1 h2 => ?_, a7, a8, a9, a10⟩
          by_cases z : k < p
          · exact a6 k h1 z
          · rw [b3 k (by omega) h2, k1]
        · rw [if_neg k1]
          obtain ⟨v, hv1, hv2⟩ := e_tok (I := J) (B := B) (n := n) (s := p) (e := x) hn hBJ hv (by omega) k1 b4 (fun k0 => ⟨b1, b2, b3, b5 k0⟩)
          rw [hv1, am_b1_s, e_add a9 (by omega), am_b1_s]
          refine ⟨_, rfl, x, _, c + 1, _, _, _, rfl, by omega, b2, TP_s a3 (p := p) (x := x) (v := v) ⟨a5, by omega, a6, Or.inr hv2⟩ (by omega) (by omega), by omega, ?_, ?_, ?_, ?_, ?_, ?_⟩
          · show (if c = c then x else e c) ≤ x
            rw [if_pos rfl]; exact Nat.le_refl _
          · intro k h1 h2
            have : (if c = c then x else e c) ≤ k := h1
            rw [if_pos rfl] at this
            omega
          · intro k h1 h2 h3
            rw [up2_k _ _ h1, up2_k _ _ h3, up2_k _ _ h2]
            exact a7 k h1 h2 h3
          · intro j hj
            rw [up2_j _ _ hj, up2_k _ _ (by decide), up2_k _ _ (by decide)]
            exact a8 j hj
          · exact up2_s _ _ _ _
          · intro k hk
            rw [up2_k _ _ (show (52 : Nat) ≠ 47 by decide), up2_k _ _ (show (52 : Nat) ≠ 53 by decide), up2_k _ _ (show (53 : Nat) ≠ 47 by decide), up2_r, up2_r, up2_k _ _ (show (53 : Nat) ≠ 52 by decide)]
            by_cases z : k = c
            · simp only [if_pos z, and_self]
            · simp only [if_neg z]
              exact a10 k (by omega)
  · rintro x ⟨p, J, c, s, e, t, rfl, a1, a2, a3, a4, a5, a6, a7, a8, a9, a10⟩
    have hp : p = n := by omega
    subst hp
    rw [am_u2_s, if_pos (nI_le (Nat.le_refl _) (by omega))]
    exact ⟨_, rfl, c, s, e, t, a3, a4, a5, a6, a7, a8, a9, a10⟩
  · exact ⟨0, _, 0, fun _ => 0, fun _ => 0, fun _ => 0, rfl, Nat.le_refl _, Nat.zero_le _, fun k hk => by omega, Nat.le_refl _, Nat.le_refl _, fun k h1 h2 => by omega, fun k h1 _ _ => up2_k _ _ h1, fun j hj => up2_j _ _ hj, up2_s _ _ _ _, fun k hk => by omega⟩
  · rintro J ⟨c, s, e, t, a3, a4, a5, a6, a7, a8, a9, a10⟩
    rw [e_add a9 (by omega), am_b1_s]
    refine ⟨_, rfl, c, s, e, t, ⟨a3, a4, a5, Nat.le_refl _, a6, Or.inl ⟨rfl, rfl, rfl⟩⟩, ?_, ?_, up2_s _ _ _ _, ?_, ?_, ?_⟩
    · intro k h1 h2 h3
      rw [up2_k _ _ h1, up2_k _ _ h3, up2_k _ _ h2]
      exact a7 k h1 h2 h3
    · intro j hj
      rw [up2_j _ _ hj, up2_k _ _ (by decide), up2_k _ _ (by decide)]
      exact a8 j hj
    · intro k hk
      rw [up2_k _ _ (show (52 : Nat) ≠ 47 by decide), up2_k _ _ (show (52 : Nat) ≠ 53 by decide), up2_k _ _ (show (53 : Nat) ≠ 47 by decide), up2_r, up2_r, up2_k _ _ (show (53 : Nat) ≠ 52 by decide), if_neg (by omega), if_neg (by omega)]
      exact a10 k hk
    · rw [up2_k _ _ (show (52 : Nat) ≠ 47 by decide), up2_k _ _ (show (52 : Nat) ≠ 53 by decide), up2_s]
    · rw [up2_k _ _ (show (53 : Nat) ≠ 47 by decide), up2_s]
