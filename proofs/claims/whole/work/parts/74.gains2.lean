/-! saying otherwise, both -/
theorem it_b3_inv {X E1 E2 E3 Z : Type} {f : X → Option (X ⊕ (E1 × E2 × E3))} {k : E1 → E2 → E3 → Option Z} {x0 : X} {R : Option Z → Prop} (Inv : Nat → X → Prop) (Post : E1 × E2 × E3 → Prop) {n : Nat} (hn : n < 1000000) (hs : ∀ i x, i < n → Inv i x → ∃ y, f x = some (.inl y) ∧ Inv (i + 1) y) (he : ∀ x, Inv n x → ∃ e, f x = some (.inr e) ∧ Post e) (h0 : Inv 0 x0) (hk : ∀ e1 e2 e3, Post (e1, e2, e3) → R (k e1 e2 e3)) : R (am_b3 (am_it am_fu f x0) k) := by
  obtain ⟨⟨e1, e2, e3⟩, h1, h2⟩ := am_it_inv Inv Post hn hs he h0
  rw [h1]; exact hk e1 e2 e3 h2
/-- what one gains by a saying; the best of the first i -/
def sT (I : am_IT) : Nat → Nat → Int32 := fun i k => I 8 (4 * i + k)
def sL (I : am_IT) (q cc : Nat) : Nat → Nat → Int32 := fun i k => if i = q then (if k = cc then 9 else -9) else I 8 (4 * i + k)
def gg (I : am_IT) (t w : Nat) (ls : List (Nat × List rOp)) (c p y q cc : Nat) : Int32 := wV I t w q (hN I q) (jd I t ls c p y (sL I q cc)) - wV I t w q (hN I q) (jd I t ls c p y (sT I))
def gm (G : Nat → Int32) : Nat → Int32
  | 0 => 0
  | i + 1 => if G i ≤ gm G i then gm G i else G i
def gb (G : Nat → Int32) : Nat → Int32
  | 0 => -1
  | i + 1 => if G i ≤ gm G i then gb G i else nI i
theorem e_ws {I J : am_IT} {c w p t y d ln q : Nat} {ls : List (Nat × List rOp)} (X : cx I c w p t y d ln) (S : sq I J) (h3 : J 3 = I 3) (hq : q < p) (H : rLs ls ln (I 11 1) (I 12) (I 13) (I 14) (I 75) (I 76) (I 77) (I 78) (I 79)) :
    ∃ K, F_X2_weighSayings_25 J (nI q) = some K ∧ K 25 1 = gb (gg I t w ls c p y q) c ∧ K 25 2 = gm (gg I t w ls c p y q) c ∧ ∀ k, k ≠ 24 → k ≠ 25 → k ≠ 26 → k ≠ 27 → k ≠ 28 → k ≠ 29 → K k = J k := by
  have b2 : c ≤ 4 := X.1.2.1
  have b4 : p ≤ 7 := X.1.2.2.2.1
  obtain ⟨K, e, k26, k24, kk⟩ := jC_8 X S h3 H (s := sT I) (fun i k _ _ => by rw [sq_c S (k := 8) rfl]; rfl)
  have nS : ∀ {A B : am_IT}, sq I A → (∀ k, k ≠ 24 → k ≠ 26 → k ≠ 28 → k ≠ 29 → B k = A k) → sq I B := fun {A B} SA h a i ma => by
    rw [h a (st_ne (fun _ => rfl) ma) (st_ne (fun _ => rfl) ma) (st_ne (fun _ => rfl) ma) (st_ne (fun _ => rfl) ma)]; exact SA a i ma
  have SK : sq I K := nS S kk
  have jd4 : ∀ s u, u < w → jd I t ls c p y s u < 4 := fun s u hu => by
    have := (jd_ok X hu ls s).2
    omega
  unfold F_X2_weighSayings_25
  rw [e, am_b1_s, cT_26 X SK k24 (P := jd I t ls c p y (sT I)) (fun u hu => ⟨k26 u hu, jd4 _ u hu⟩) hq, am_b1_s, am_let_s, am_let_s]
  refine it_b1_inv (R := fun z => ∃ K : am_IT, z = some K ∧ K 25 1 = gb (gg I t w ls c p y q) c ∧ K 25 2 = gm (gg I t w ls c p y q) c ∧ ∀ k, k ≠ 24 → k ≠ 25 → k ≠ 26 → k ≠ 27 → k ≠ 28 → k ≠ 29 → K k = J k)
    (fun i x => ∃ J' : am_IT, x = (nI i, J') ∧ J' 25 1 = gb (gg I t w ls c p y q) i ∧ J' 25 2 = gm (gg I t w ls c p y q) i ∧ ∀ k, k ≠ 24 → k ≠ 25 → k ≠ 26 → k ≠ 27 → k ≠ 28 → k ≠ 29 → J' k = J k)
    (fun (J' : am_IT) => J' 25 1 = gb (gg I t w ls c p y q) c ∧ J' 25 2 = gm (gg I t w ls c p y q) c ∧ ∀ k, k ≠ 24 → k ≠ 25 → k ≠ 26 → k ≠ 27 → k ≠ 28 → k ≠ 29 → J' k = J k) (n := c) (by omega) ?_ ?_ ⟨_, by rw [nI_0], rfl, rfl, fun k h24 h25 h26 h27 h28 h29 => by rw [up2_k _ _ h25, up2_k _ _ h25]; exact kk k h24 h26 h28 h29⟩ (fun J' h => ⟨J', rfl, h⟩)
  · rintro i x hi ⟨J', rfl, j1, j2, j3⟩
    have SJ : sq I J' := fun a m ma => by
      rw [j3 a (st_ne (fun _ => rfl) ma) (st_ne (fun _ => rfl) ma) (st_ne (fun _ => rfl) ma) (st_ne (fun _ => rfl) ma) (st_ne (fun _ => rfl) ma) (st_ne (fun _ => rfl) ma)]; exact S a m ma
    have hc : J' 1 0 = nI c := by rw [sq_c SJ (k := 1) rfl]; exact X.2.1.1.1
    obtain ⟨A, eA, a27, ak⟩ := e_sa (I := J') (q := q) (cc := i) (by omega) (by omega)
    have SA : sq I A := sq_x SJ (fun _ => rfl) ak
    obtain ⟨B, eB, b26, b24, bk⟩ := jC_27 X SA (by rw [ak 3 (by decide), j3 3 (by decide) (by decide) (by decide) (by decide) (by decide) (by decide)]; exact h3) H (s := sL I q i) (fun a k ha hk => by
      rw [a27 a k (by omega) hk, sq_c SJ (k := 8) rfl]; rfl)
    have SB : sq I B := nS SA bk
    have eW := cT_26 X SB b24 (P := jd I t ls c p y (sL I q i)) (fun u hu => ⟨b26 u hu, jd4 _ u hu⟩) hq
    have B2 : B 25 2 = gm (gg I t w ls c p y q) i := by rw [bk 25 (by decide) (by decide) (by decide) (by decide), ak 25 (by decide)]; exact j2
    have B1 : B 25 1 = gb (gg I t w ls c p y q) i := by rw [bk 25 (by decide) (by decide) (by decide) (by decide), ak 25 (by decide)]; exact j1
    have Bk : ∀ k, k ≠ 24 → k ≠ 25 → k ≠ 26 → k ≠ 27 → k ≠ 28 → k ≠ 29 → B k = J k := fun k h24 h25 h26 h27 h28 h29 => by
      rw [bk k h24 h26 h28 h29, ak k h27]; exact j3 k h24 h25 h26 h27 h28 h29
    have e1 : gm (gg I t w ls c p y q) (i + 1) = if gg I t w ls c p y q i ≤ gm (gg I t w ls c p y q) i then gm (gg I t w ls c p y q) i else gg I t w ls c p y q i := rfl
    have e2 : gb (gg I t w ls c p y q) (i + 1) = if gg I t w ls c p y q i ≤ gm (gg I t w ls c p y q) i then gb (gg I t w ls c p y q) i else nI i := rfl
    by_cases z : gg I t w ls c p y q i ≤ gm (gg I t w ls c p y q) i
    · rw [if_pos z] at e1 e2
      refine ⟨(nI (i + 1), B), ?_, B, rfl, B1.trans e2.symm, B2.trans e1.symm, Bk⟩
      rw [am_u2_s, hc, if_neg (nI_ge hi (by omega)), eA, am_b1_s, eB, am_b1_s, eW, am_b1_s, am_let_s, B2, nI_1, if_pos (show wV I t w q (hN I q) (jd I t ls c p y (sL I q i)) - wV I t w q (hN I q) (jd I t ls c p y (sT I)) ≤ _ from z), am_let_s]
    · rw [if_neg z] at e1 e2
      refine ⟨(nI (i + 1), up2 (up2 B 25 2 (gg I t w ls c p y q i)) 25 1 (nI i)), ?_, _, rfl, (up2_s _ _ _ _).trans e2.symm, ?_, fun k h24 h25 h26 h27 h28 h29 => by rw [up2_k _ _ h25, up2_k _ _ h25]; exact Bk k h24 h25 h26 h27 h28 h29⟩
      · rw [am_u2_s, hc, if_neg (nI_ge hi (by omega)), eA, am_b1_s, eB, am_b1_s, eW, am_b1_s, am_let_s, B2, nI_1, if_neg (show ¬ wV I t w q (hN I q) (jd I t ls c p y (sL I q i)) - wV I t w q (hN I q) (jd I t ls c p y (sT I)) ≤ _ from z), am_let_s, am_let_s, am_let_s]
        rfl
      · rw [up2_j _ _ (show 2 ≠ 1 by decide), up2_s]; exact e1.symm
  · rintro x ⟨J', rfl, j1, j2, j3⟩
    have hc : J' 1 0 = nI c := by rw [j3 1 (by decide) (by decide) (by decide) (by decide) (by decide) (by decide), sq_c S (k := 1) rfl]; exact X.2.1.1.1
    exact ⟨J', by rw [am_u2_s, hc, if_pos (nI_le (Nat.le_refl c) (by omega))], j1, j2, j3⟩
