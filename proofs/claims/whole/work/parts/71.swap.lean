/-! searches, first found first -/
def fs {Z : Type} (g : Nat → Option Z) : Nat → Nat → Option Z
  | _, 0 => none
  | a, m + 1 => match g a with
    | some z => some z
    | none => fs g (a + 1) m
theorem fs_n {Z : Type} {g : Nat → Option Z} {a m : Nat} (h : g a = none) : fs g a (m + 1) = fs g (a + 1) m := by
  show (match g a with | some z => some z | none => fs g (a + 1) m) = _
  rw [h]
theorem fs_y {Z : Type} {g : Nat → Option Z} {a m : Nat} {z : Z} (h : g a = some z) : fs g a (m + 1) = some z := by
  show (match g a with | some z => some z | none => fs g (a + 1) m) = _
  rw [h]
def fe {Z0 Z : Type} (o : Option Z0) (φ : Z0 → Z) (d : Option Z) : Option Z := match o with
  | none => d
  | some z => some (φ z)
def fx {X E Z0 Z : Type} (o : Option Z0) (φ : Z0 → Z) (y : X) : Option (X ⊕ (E ⊕ Z)) := match o with
  | none => some (.inl y)
  | some z => some (.inr (.inr (φ z)))
theorem it_fs {E Z0 Z : Type} {f : Int32 → Option (Int32 ⊕ (E ⊕ Z))} {k : E → Option Z} {x0 : Int32} {R : Option Z} {a n : Nat} {e0 : E} (h0 : x0 = nI a) (g : Nat → Option Z0) (φ : Z0 → Z) (ha : a ≤ n) (hn : n < 1000000) (hs : ∀ i, a ≤ i → i < n → f (nI i) = fx (g i) φ (nI (i + 1))) (he : f (nI n) = some (.inr (.inl e0))) (hR : fe (fs g a (n - a)) φ (k e0) = R) : am_lr (am_it am_fu f x0) k = R := by
  subst h0
  rw [← hR]
  have go : ∀ (m j i : Nat), a ≤ i → i + j = n → j < m → am_lr (am_it m f (nI i)) k = fe (fs g i j) φ (k e0) := by
    intro m
    induction m with
    | zero => intro j i _ _ h; omega
    | succ m ih =>
      intro j i hi hj hm
      cases j with
      | zero =>
        have hin : i = n := by omega
        subst hin
        rw [am_it_e he]; rfl
      | succ j =>
        have h1 := hs i hi (by omega)
        cases hg : g i with
        | none =>
          rw [hg] at h1
          rw [am_it_l (show f (nI i) = some (.inl (nI (i + 1))) from h1), fs_n hg]
          exact ih j (i + 1) (by omega) (by omega) (by omega)
        | some z =>
          rw [hg] at h1
          rw [am_it_e (show f (nI i) = some (.inr (.inr (φ z))) from h1), fs_y hg]; rfl
  exact go am_fu (n - a) a (Nat.le_refl a) (by omega) (by show n - a < 1000000; omega)
theorem hP3 {I J : am_IT} {c w p t y d ln : Nat} (X : cx I c w p t y d ln) (h3 : J 3 = I 3) : ∀ u, u < w → J 3 u = nI (pN I u) ∧ pN I u < 4 := by
  intro u hu
  obtain ⟨h1, h2, -⟩ := pN_ok X hu
  have : c ≤ 4 := X.1.2.1
  exact ⟨by rw [h3]; exact h2, by omega⟩
theorem hP72 {I J : am_IT} {c w p t y d ln : Nat} (X : cx I c w p t y d ln) (h72 : ∀ u, u < 7 → J 72 u = I 72 u) : ∀ u, u < w → J 72 (0 + u) = nI (pN I u) ∧ pN I u < 4 := by
  intro u hu
  obtain ⟨h1, -, h2⟩ := pN_ok X hu
  have : c ≤ 4 := X.1.2.1
  have : w ≤ 7 := X.1.2.2.1
  exact ⟨by rw [Nat.zero_add, h72 u (by omega)]; exact h2, by omega⟩
/-- one would rather live in another one's house -/
def lk (I : am_IT) (t w a b : Nat) : Prop := ¬ wV I t w a (hN I b) (pN I) ≤ wV I t w a (hN I a) (pN I)
def swf (I : am_IT) (t w i j : Nat) : Option Nat := if wV I t w i (hN I j) (pN I) ≤ wV I t w i (hN I i) (pN I) then none else if wV I t w j (hN I i) (pN I) ≤ wV I t w j (hN I j) (pN I) then none else some (10 * i + j)
def sw (I : am_IT) (t w p : Nat) : Option Nat := fs (fun i => fs (fun j => swf I t w i j) (i + 1) (p - (i + 1))) 0 p
theorem e_lk {I J : am_IT} {c w p t y d ln : Nat} (X : cx I c w p t y d ln) (S : sq I J) (hy : ∀ h u, h < 8 → u < 7 → J 24 (7 * h + u) = cl0 (tS I h u t)) (h3 : J 3 = I 3) {a b : Nat} (ha : a < p) (hb : b < p) : F_X3_likesHouseOf_43 J (nI a) (nI b) = some (if wV I t w a (hN I b) (pN I) ≤ wV I t w a (hN I a) (pN I) then 0 else 1) := by
  obtain ⟨h1, h2, -⟩ := hN_ok X hb
  have b4 : p ≤ 7 := X.1.2.2.2.1
  unfold F_X3_likesHouseOf_43
  rw [if_pos (am_ix_nI (by omega) (by decide)), nI_clamp (by omega), sq_c S (k := 4) rfl, h2, cW_3 X S hy (hP3 X h3) ha h1, am_b1_s, cT_3 X S hy (hP3 X h3) ha, am_b1_s, ite_s]
theorem t10 (a b : Nat) : 10 * nI a + nI b = nI (10 * a + b) := by rw [show (10 : Int32) = nI 10 from rfl, pk_mul, nI_add]
theorem e_sw1 {I J : am_IT} {c w p t y d ln : Nat} (X : cx I c w p t y d ln) (S : sq I J) (h3 : J 3 = I 3) : ∃ K, F_X3_firstSwap_43 J = some ((sw I t w p).elim (-1) nI, K) ∧ ∀ k, k ≠ 24 → K k = J k := by
  obtain ⟨K, e, hy, hk⟩ := ms X S
  have SK : sq I K := sq_x S (fun _ => rfl) hk
  have k3 : K 3 = I 3 := (hk 3 (by decide)).trans h3
  have b4 : p ≤ 7 := X.1.2.2.2.1
  have hp1 : K 1 4 = nI p := by rw [sq_c SK (k := 1) rfl]; exact X.2.1.2.2.2.2.1.1
  refine ⟨K, ?_, hk⟩
  unfold F_X3_firstSwap_43
  rw [e, am_b1_s]
  refine it_fs (n := p) (e0 := (0 : Int32)) nI_0.symm (fun i => fs (fun j => swf I t w i j) (i + 1) (p - (i + 1))) (fun r => (nI r, K)) (Nat.zero_le _) (by omega) (fun i _ hi => ?_) ?_ ?_
  rotate_left 2
  · rw [Nat.sub_zero]
    show fe (sw I t w p) _ _ = _
    cases sw I t w p <;> rfl
  · rw [hp1, if_neg (nI_ge hi (by omega)), am_let_s, nI_1]
    refine it_fs (a := i + 1) (n := p) (e0 := (0 : Int32)) rfl (fun j => swf I t w i j) (fun r => (.inr (.inr (nI r, K)))) (by omega) (by omega) (fun j hj hjp => ?_) ?_ ?_
    rotate_left 2
    · cases fs (fun j => swf I t w i j) (i + 1) (p - (i + 1)) <;> rfl
    · rw [if_neg (nI_ge hjp (by omega)), e_lk X SK hy k3 hi hjp, am_b1_s, am_let_s, nI_1, t10]
      unfold swf
      by_cases q1 : wV I t w i (hN I j) (pN I) ≤ wV I t w i (hN I i) (pN I)
      · rw [if_pos q1, if_pos q1, if_pos rfl]; rfl
      · rw [if_neg q1, if_neg q1, if_neg (by decide), e_lk X SK hy k3 hjp hi, am_b1_s]
        by_cases q2 : wV I t w j (hN I i) (pN I) ≤ wV I t w j (hN I j) (pN I)
        · rw [if_pos q2, if_pos q2, if_pos rfl]; rfl
        · rw [if_neg q2, if_neg q2, if_neg (by decide)]; rfl
    · rw [if_pos (nI_le (Nat.le_refl p) (by omega))]
  · rw [hp1, if_pos (nI_le (Nat.le_refl p) (by omega))]
theorem e_sw2 {I J : am_IT} {c w p t y d ln : Nat} (X : cx I c w p t y d ln) (S : sq I J) (h72 : ∀ u, u < 7 → J 72 u = I 72 u) : ∃ K, F_X12_swap_55 J = some ((sw I t w p).elim (-1) nI, K) ∧ ∀ k j, stc k j = true ∨ k = 3 ∨ k = 72 → K k j = J k j := by
  have S1 : sq I (up2 J 55 0 0) := sq_u 0 S rfl
  obtain ⟨K, e, hy, hk⟩ := fy X S1
  have SK : sq I K := sq_x S1 (fun _ => rfl) hk
  have k72 : ∀ u, u < 7 → K 72 u = I 72 u := fun u hu => by rw [hk 72 (by decide)]; exact h72 u hu
  have b4 : p ≤ 7 := X.1.2.2.2.1
  have hp1 : K 55 5 = nI p := by rw [SK 55 5 rfl]; exact X.2.1.2.2.2.2.1.2
  refine ⟨K, ?_, ?_⟩
  rotate_left 1
  · intro k j hkj
    have n83 : k ≠ 83 := by
      rcases hkj with h | h | h
      · exact st_ne (fun _ => rfl) h
      · omega
      · omega
    rw [hk k n83]
    unfold up2
    rw [if_neg]
    rintro ⟨rfl, rfl⟩
    rcases hkj with h | h | h
    · exact absurd h (by decide)
    · omega
    · omega
  unfold F_X12_swap_55
  rw [am_let_s, e, am_b1_s]
  have w1 : ∀ {a b : Nat}, a < p → b < p → F_X12_worthFrom_55 K (K 57 b) (nI a) 0 = some (wV I t w a (hN I b) (pN I)) := by
    intro a b ha hb
    obtain ⟨h1, -, h2⟩ := hN_ok X hb
    rw [sq_c SK (k := 57) rfl, h2]
    exact mW X SK hy (off := 0) (by omega) (hP72 X k72) ha h1
  have w2 : ∀ {a : Nat}, a < p → F_X12_worthOf_55 K (nI a) 0 = some (wV I t w a (hN I a) (pN I)) := by
    intro a ha
    exact mT X SK hy (off := 0) (by omega) (hP72 X k72) ha
  refine it_fs (n := p) (e0 := (0 : Int32)) nI_0.symm (fun i => fs (fun j => swf I t w i j) (i + 1) (p - (i + 1))) (fun r => (nI r, K)) (Nat.zero_le _) (by omega) (fun i _ hi => ?_) ?_ ?_
  rotate_left 2
  · rw [Nat.sub_zero]
    show fe (sw I t w p) _ _ = _
    cases sw I t w p <;> rfl
  · rw [hp1, if_neg (nI_ge hi (by omega)), am_let_s, nI_1]
    refine it_fs (a := i + 1) (n := p) (e0 := (0 : Int32)) rfl (fun j => swf I t w i j) (fun r => (.inr (.inr (nI r, K)))) (by omega) (by omega) (fun j hj hjp => ?_) ?_ ?_
    rotate_left 2
    · cases fs (fun j => swf I t w i j) (i + 1) (p - (i + 1)) <;> rfl
    · rw [if_neg (nI_ge hjp (by omega)), if_pos (am_ix_nI (by omega) (by decide)), nI_clamp (by omega), w1 hi hjp, am_b1_s, w2 hi, am_b1_s, am_let_s, nI_1, t10, if_pos (am_ix_nI (by omega) (by decide)), nI_clamp (by omega), w1 hjp hi, am_b1_s, w2 hjp, am_b1_s]
      unfold swf
      by_cases q1 : wV I t w i (hN I j) (pN I) ≤ wV I t w i (hN I i) (pN I)
      · rw [if_pos q1, if_pos q1]; rfl
      · rw [if_neg q1, if_neg q1]
        by_cases q2 : wV I t w j (hN I i) (pN I) ≤ wV I t w j (hN I j) (pN I)
        · rw [if_pos q2, if_pos q2]; rfl
        · rw [if_neg q2, if_neg q2]; rfl
    · rw [if_pos (nI_le (Nat.le_refl p) (by omega))]
  · rw [hp1, if_pos (nI_le (Nat.le_refl p) (by omega))]
theorem sq_sm {I J : am_IT} (h : ∀ k j, stc k j = true ∨ k = 3 ∨ k = 72 → J k j = I k j) : sm I J := sq_3 (fun k j m => h k j (Or.inl m)) (funext (fun j => h 3 j (Or.inr (Or.inl rfl)))) (fun j _ => h 72 j (Or.inr (Or.inr rfl)))
theorem op_25 : am_op25 RI := by
  intro b I _ hR
  have hR0 := hR
  obtain ⟨c, w, p, t, y, d, ln, n, X, -, -, -⟩ := hR
  obtain ⟨K, e1, k1⟩ := e_sw1 X (sq_r I) rfl
  have SK : sq I K := sq_x (sq_r I) (fun _ => rfl) k1
  obtain ⟨L, e2, k2⟩ := e_sw2 X SK (fun u _ => by rw [k1 72 (by decide)])
  refine ⟨_, K, L, ?_, e2, RI_sm (sm_t (sq_3 SK (k1 3 (by decide)) (fun j _ => by rw [k1 72 (by decide)])) (sq_sm k2)) hR0⟩
  unfold F_X11_swap_0
  rw [e1, am_b2_s]
