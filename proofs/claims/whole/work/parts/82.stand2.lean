/-! stand -/
theorem am_it_ex2 {X E : Type} {f : X → Option (X ⊕ E)} (Inv : Nat → X → Prop) (Post : E → Prop) {n : Nat} (hn : n < 1000000) (hs : ∀ i x, i < n → Inv i x → (∃ y, f x = some (.inl y) ∧ Inv (i + 1) y) ∨ (∃ e, f x = some (.inr e) ∧ Post e)) (he : ∀ x, Inv n x → ∃ e, f x = some (.inr e) ∧ Post e) {x0 : X} (h0 : Inv 0 x0) : ∃ e, am_it am_fu f x0 = some e ∧ Post e := by
  have go : ∀ (m j i : Nat) (x : X), i + j = n → j < m → Inv i x → ∃ e, am_it m f x = some e ∧ Post e := by
    intro m
    induction m with
    | zero => intro j i x _ h; omega
    | succ m ih =>
      intro j i x hj hm hi
      cases j with
      | zero =>
        have hin : i = n := by omega
        subst hin
        obtain ⟨e, h1, h2⟩ := he x hi
        exact ⟨e, am_it_e h1, h2⟩
      | succ j =>
        rcases hs i x (by omega) hi with ⟨z, h1, h2⟩ | ⟨e, h1, h2⟩
        · rw [am_it_l h1]
          exact ih j (i + 1) z (by omega) (by omega) h2
        · exact ⟨e, am_it_e h1, h2⟩
  exact go am_fu n 0 x0 (by omega) (by show n < 1000000; omega) h0
theorem it_b3_ex {X E1 E2 E3 Z : Type} {f : X → Option (X ⊕ (E1 × E2 × E3))} {k : E1 → E2 → E3 → Option Z} {x0 : X} {R : Option Z → Prop} (Inv : Nat → X → Prop) (Post : E1 × E2 × E3 → Prop) {n : Nat} (hn : n < 1000000) (hs : ∀ i x, i < n → Inv i x → (∃ y, f x = some (.inl y) ∧ Inv (i + 1) y) ∨ (∃ e, f x = some (.inr e) ∧ Post e)) (he : ∀ x, Inv n x → ∃ e, f x = some (.inr e) ∧ Post e) (h0 : Inv 0 x0) (hk : ∀ e1 e2 e3, Post (e1, e2, e3) → R (k e1 e2 e3)) : R (am_b3 (am_it am_fu f x0) k) := by
  obtain ⟨⟨e1, e2, e3⟩, h1, h2⟩ := am_it_ex2 Inv Post hn hs he h0
  rw [h1]; exact hk e1 e2 e3 h2
theorem am_u4_s {A1 A2 A3 A4 Z : Type} (f : A1 → A2 → A3 → A4 → Z) (a : A1) (b : A2) (c : A3) (d : A4) : am_u4 f (a, b, c, d) = f a b c d := rfl
theorem e_st2 {I J : am_IT} {c w p t y d ln : Nat} (X : cx I c w p t y d ln) (S : sq I J) (h72 : ∀ j, j < 7 → J 72 j = I 72 j) : ∃ L, F_X12_stand_55 J = some ((fs (stG I t w c p (pN I)) 0 30).elim (-1) nI, L) ∧ sq I L ∧ L 3 = J 3 ∧ ∀ j, j < 7 → L 72 j = J 72 j := by
  have hPc : ∀ u, u < w → pN I u < c := fun u hu => (pN_ok X hu).1
  have b3 : w ≤ 7 := X.1.2.2.1
  have b4 : p ≤ 7 := X.1.2.2.2.1
  have hpp : p * p ≤ 49 := Nat.mul_le_mul b4 b4
  have hz : ∀ u, (0 : Int32) + nI u = nI u := fun u => Int32.zero_add _
  have h28 : ∀ u, (28 : Int32) + nI u = nI (28 + u) := fun u => nI_add 28 u
  have n72 : ∀ j, stc 72 j = false := fun j => by unfold stc; simp
  have w2 : ∀ {L : am_IT}, sq I L → L 55 4 = nI w := fun {L} h => by rw [h 55 4 rfl]; exact X.2.1.2.2.2.1.2
  unfold F_X12_stand_55
  rw [am_let_s]
  refine it_b1_inv (R := fun z => ∃ L : am_IT, z = some ((fs (stG I t w c p (pN I)) 0 30).elim (-1) nI, L) ∧ sq I L ∧ L 3 = J 3 ∧ ∀ j, j < 7 → L 72 j = J 72 j)
    (fun i x => ∃ A : am_IT, x = (nI i, A) ∧ sq I A ∧ A 3 = J 3 ∧ (∀ j, j < 28 → A 72 j = J 72 j) ∧ ∀ u, u < i → A 72 (28 + u) = J 72 u)
    (fun (A : am_IT) => sq I A ∧ A 3 = J 3 ∧ (∀ j, j < 28 → A 72 j = J 72 j) ∧ ∀ u, u < w → A 72 (28 + u) = J 72 u) (n := w) (by omega) ?_ ?_ ⟨_, by rw [nI_0], sq_u 0 S rfl, rfl, fun _ _ => rfl, fun u hu => absurd hu (Nat.not_lt_zero u)⟩ ?_
  · rintro u x hu ⟨A, rfl, a1, a2, a3, a4⟩
    refine ⟨(nI (u + 1), up2 A 72 (28 + u) (J 72 u)), ?_, _, rfl, sq_u _ a1 (n72 _), ?_, ?_, ?_⟩
    · rw [am_u2_s, w2 a1, if_neg (nI_ge hu (by omega)), hz, h28, if_pos (am_ix_nI (by omega) (by decide)), if_pos (am_ix_nI (by omega) (by decide)), am_let_s, am_let_s, nI_clamp (by omega), nI_clamp (by omega), a3 u (by omega), nI_1]
    · rw [up2_k _ _ (by decide)]; exact a2
    · intro j hj
      rw [up2_j _ _ (by omega)]; exact a3 j hj
    · intro v hv
      by_cases z : v = u
      · subst z; exact up2_s _ _ _ _
      · rw [up2_j _ _ (by omega)]; exact a4 v (by omega)
  · rintro x ⟨A, rfl, a1, a2, a3, a4⟩
    exact ⟨A, by rw [am_u2_s, w2 a1, if_pos (nI_le (Nat.le_refl w) (by omega))], a1, a2, a3, a4⟩
  rintro A ⟨a1, a2, a3, a4⟩
  refine it_b3_ex (R := fun z => ∃ L : am_IT, z = some ((fs (stG I t w c p (pN I)) 0 30).elim (-1) nI, L) ∧ sq I L ∧ L 3 = J 3 ∧ ∀ j, j < 7 → L 72 j = J 72 j)
    (fun r x => ∃ (B : am_IT) (m : Nat), x = (nI (stT I t w c p (pN I) r), nI m, nI r, B) ∧ m < 1000 ∧ sq I B ∧ B 3 = J 3 ∧ (∀ u, u < w → B 72 u = nI (stS I t w c p (pN I) r u)) ∧ (∀ j, w ≤ j → B 72 j = A 72 j) ∧ ((m = 0 ∧ fs (stG I t w c p (pN I)) 0 30 = some (stT I t w c p (pN I) r)) ∨ (0 < m ∧ fs (stG I t w c p (pN I)) 0 30 = fs (stG I t w c p (pN I)) r (30 - r))))
    (fun x => ∃ (B : am_IT) (m T : Nat), x = (nI T, nI m, B) ∧ m < 1000 ∧ sq I B ∧ B 3 = J 3 ∧ (∀ j, w ≤ j → B 72 j = A 72 j) ∧ ((m = 0 ∧ fs (stG I t w c p (pN I)) 0 30 = some T) ∨ (0 < m ∧ fs (stG I t w c p (pN I)) 0 30 = none))) (n := 30) (by omega) ?_ ?_ ?_ ?_
  · rintro r x hr ⟨B, m, rfl, q1, q2, q3, q4, q5, q6⟩
    have e30 : 30 - r = (30 - (r + 1)) + 1 := by omega
    rcases q6 with ⟨h1, h2⟩ | ⟨h1, h2⟩
    · refine Or.inr ⟨_, ?_, B, m, _, rfl, q1, q2, q3, q5, Or.inl ⟨h1, h2⟩⟩
      subst h1
      rw [am_u4_s, if_neg (show ¬ (30 : Int32) ≤ nI r from nI_ge (a := r) (b := 30) hr (by decide)), if_pos (show nI 0 ≤ 0 by decide)]
    · obtain ⟨s1, s2⟩ := stS_ok (I := I) (t := t) (p := p) hPc r
      obtain ⟨K, eK, k72, k3, kk⟩ := e_rM X q2 (P := stS I t w c p (pN I) r) q4 s1
      refine Or.inl ⟨(nI (stT I t w c p (pN I) (r + 1)), nI (stN I t w c p (pN I) r), nI (r + 1), K), ?_, K, _, rfl, by omega, ?_, ?_, k72, ?_, ?_⟩
      · rw [am_u4_s, if_neg (show ¬ (30 : Int32) ≤ nI r from nI_ge (a := r) (b := 30) hr (by decide)), if_neg (nI_nle h1 (by omega)), eK, am_b2_s, am_let_s, am_let_s, nI_1, nI_add] <;> rfl
      · exact fun a i ma => by rw [kk a (stc_ne ma).2 (st_ne (fun _ => rfl) ma)]; exact q2 a i ma
      · rw [kk 3 (by decide) (by decide)]; exact q3
      · intro j hj
        rw [k3 j hj]; exact q5 j hj
      · by_cases z : stN I t w c p (pN I) r = 0
        · refine Or.inl ⟨z, ?_⟩
          rw [h2, e30, fs_y (show stG I t w c p (pN I) r = some (stT I t w c p (pN I) r) from if_pos z)]
          show some _ = some (stT I t w c p (pN I) r + stN I t w c p (pN I) r)
          rw [z]; rfl
        · refine Or.inr ⟨by omega, ?_⟩
          rw [h2, e30, fs_n (show stG I t w c p (pN I) r = none from if_neg z)]
  · rintro x ⟨B, m, rfl, q1, q2, q3, q4, q5, q6⟩
    exact ⟨_, by rw [am_u4_s, if_pos (show (30 : Int32) ≤ nI 30 from by decide)], B, m, _, rfl, q1, q2, q3, q5, q6⟩
  · exact ⟨A, 1, rfl, by decide, a1, a2, fun u hu => by rw [a3 u (by omega), h72 u (by omega)]; exact (pN_ok X hu).2.2, fun _ _ => rfl, Or.inr ⟨by decide, rfl⟩⟩
  rintro e1 e2 e3 ⟨B, m, T, hx, q1, q2, q3, q5, q6⟩
  have h1 : e1 = nI T := congrArg (fun z => z.1) hx
  have h2 : e2 = nI m := congrArg (fun z => z.2.1) hx
  have h3 : e3 = B := congrArg (fun z => z.2.2) hx
  rw [h1, h2, h3]
  refine it_b1_inv (R := fun z => ∃ L : am_IT, z = some ((fs (stG I t w c p (pN I)) 0 30).elim (-1) nI, L) ∧ sq I L ∧ L 3 = J 3 ∧ ∀ j, j < 7 → L 72 j = J 72 j)
    (fun i x => ∃ C : am_IT, x = (nI i, C) ∧ sq I C ∧ C 3 = J 3 ∧ (∀ j, w ≤ j → C 72 j = B 72 j) ∧ ∀ u, u < i → C 72 u = J 72 u)
    (fun (C : am_IT) => sq I C ∧ C 3 = J 3 ∧ (∀ j, w ≤ j → C 72 j = B 72 j) ∧ ∀ u, u < w → C 72 u = J 72 u) (n := w) (by omega) ?_ ?_ ⟨B, by rw [nI_0], q2, q3, fun _ _ => rfl, fun u hu => absurd hu (Nat.not_lt_zero u)⟩ ?_
  · rintro u x hu ⟨C, rfl, c1, c2, c3, c4⟩
    refine ⟨(nI (u + 1), up2 C 72 u (J 72 u)), ?_, _, rfl, sq_u _ c1 (n72 _), ?_, ?_, ?_⟩
    · rw [am_u2_s, w2 c1, if_neg (nI_ge hu (by omega)), hz, h28, if_pos (am_ix_nI (by omega) (by decide)), if_pos (am_ix_nI (by omega) (by decide)), am_let_s, am_let_s, nI_clamp (by omega), nI_clamp (by omega), c3 (28 + u) (by omega), q5 (28 + u) (by omega), a4 u hu, nI_1]
    · rw [up2_k _ _ (by decide)]; exact c2
    · intro j hj
      rw [up2_j _ _ (by omega)]; exact c3 j hj
    · intro v hv
      by_cases z : v = u
      · subst z; exact up2_s _ _ _ _
      · rw [up2_j _ _ (by omega)]; exact c4 v (by omega)
  · rintro x ⟨C, rfl, c1, c2, c3, c4⟩
    exact ⟨C, by rw [am_u2_s, w2 c1, if_pos (nI_le (Nat.le_refl w) (by omega))], c1, c2, c3, c4⟩
  rintro C ⟨c1, c2, c3, c4⟩
  refine ⟨C, ?_, c1, c2, ?_⟩
  · rcases q6 with ⟨g1, g2⟩ | ⟨g1, g2⟩
    · subst g1
      rw [if_pos (show nI 0 ≤ 0 by decide), g2]; rfl
    · rw [if_neg (nI_nle g1 (by omega)), g2]; rfl
  · intro j hj
    by_cases z : j < w
    · exact c4 j z
    · rw [c3 j (by omega), q5 j (by omega), a3 j (by omega)]
theorem op_22 : am_op22 RI := by
  intro b I _ hR
  have hR0 := hR
  obtain ⟨c, w, p, t, y, d, ln, n, X, -, -, -⟩ := hR
  obtain ⟨K, eK, kk⟩ := e_st1 X
  have SK : sq I K := fun a m ma => by rw [kk a (st_ne (fun _ => rfl) ma) (st_ne (fun _ => rfl) ma) (st_ne (fun _ => rfl) ma) (st_ne (fun _ => rfl) ma)]
  have k3 : K 3 = I 3 := kk 3 (by decide) (by decide) (by decide) (by decide)
  have k72 : K 72 = I 72 := kk 72 (by decide) (by decide) (by decide) (by decide)
  obtain ⟨L, eL, SL, l3, l72⟩ := e_st2 X SK (fun j _ => by rw [k72])
  refine ⟨_, K, L, ?_, eL, RI_sm (sq_3 SL (l3.trans k3) (fun j hj => by rw [l72 j hj, k72])) hR0⟩
  unfold F_X11_stand_0
  rw [eK, am_b2_s]
