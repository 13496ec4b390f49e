/-- the class's cells of one state beside the reference's of another -/
def cmb (C M : am_IT) : am_IT := fun k => if 55 ≤ k ∧ k ≤ 93 then M k else C k
theorem cmb_m (C M : am_IT) {k : Nat} (h : 55 ≤ k ∧ k ≤ 93) : cmb C M k = M k := if_pos h
theorem cmb_c (C M : am_IT) {k : Nat} (h : k < 55 ∨ 93 < k) : cmb C M k = C k := if_neg (by omega)
theorem mS_c {I J : am_IT} (h1 : J 1 = I 1) (h5 : J 5 = I 5) (h6 : J 6 = I 6) (h24 : J 24 = I 24) : ∀ i, mS J i = mS I i
  | 0 => by unfold mS; rw [h5, h24]
  | i + 1 => by unfold mS; rw [h1, h6, mS_c h1 h5 h6 h24 i]
def iterO (f : am_IT → Option am_IT) : Nat → am_IT → Option am_IT
  | 0, x => some x
  | n + 1, x => (f x).bind (iterO f n)
theorem loop_it {Z : Type} {f : am_IT → Option am_IT} {k : am_IT → Option Z} {a : Int32} {n : Nat} {J K : am_IT} (ha : a = nI n) (hn : n < 1000) (h : iterO f n J = some K) : am_b1 (am_it am_fu (am_u2 (fun (l : Int32) (I : am_IT) => if a ≤ l then (some (.inr I) : Option ((Int32 × am_IT) ⊕ am_IT)) else (am_b1 (f I) (fun (I1 : am_IT) => am_let (l + (1 : Int32)) (fun (l1 : Int32) => some (.inl (l1, I1))))))) ((0 : Int32), J)) k = k K := by
  subst ha
  refine it_b1_inv (R := fun z => z = k K) (fun i x => ∃ L : am_IT, x = (nI i, L) ∧ iterO f (n - i) L = some K) (fun L => L = K) (n := n) (by omega) ?_ ?_ ⟨J, rfl, h⟩ (fun L hL => by rw [hL])
  · rintro i x hi ⟨L, rfl, hL⟩
    rw [show n - i = (n - (i + 1)) + 1 by omega] at hL
    cases hf : f L with
    | none => rw [show iterO f (n - (i + 1) + 1) L = (f L).bind (iterO f (n - (i + 1))) from rfl, hf] at hL; cases hL
    | some L' =>
      rw [show iterO f (n - (i + 1) + 1) L = (f L).bind (iterO f (n - (i + 1))) from rfl, hf] at hL
      refine ⟨_, ?_, L', rfl, hL⟩
      rw [am_u2_s, if_neg (nI_ge hi (by omega)), hf, am_b1_s, am_let_s, nI_1]
  · rintro x ⟨L, rfl, hL⟩
    rw [Nat.sub_self] at hL
    cases hL
    exact ⟨_, by rw [am_u2_s, if_pos (nI_le (Nat.le_refl n) (by omega))], rfl⟩
/-- a year of both -/
def yStep (b : Bool) : Prop := ∀ (C M : am_IT) (yr : Nat), RI b (cmb C M) → C 1 2 = nI yr → yr < 999 → ∃ C' M' : am_IT, F_X11_passYear_0 C = some C' ∧ F_X12_goesBy_55 M = some M' ∧ RI b (cmb C' M') ∧ C' 1 2 = nI (yr + 1) ∧ (∀ k, 55 ≤ k ∧ k ≤ 93 → C' k = C k) ∧ (∀ k, k < 55 ∨ 93 < k → M' k = M k)
theorem yChain {b : Bool} (hS : yStep b) : ∀ (n : Nat) (C M : am_IT) (yr : Nat), RI b (cmb C M) → C 1 2 = nI yr → yr + n ≤ 999 → ∃ C' M' : am_IT, iterO F_X11_passYear_0 n C = some C' ∧ iterO F_X12_goesBy_55 n M = some M' ∧ RI b (cmb C' M') ∧ C' 1 2 = nI (yr + n) ∧ (∀ k, 55 ≤ k ∧ k ≤ 93 → C' k = C k) ∧ (∀ k, k < 55 ∨ 93 < k → M' k = M k)
  | 0, C, M, yr, h, hy, _ => ⟨C, M, rfl, rfl, h, hy, fun _ _ => rfl, fun _ _ => rfl⟩
  | n + 1, C, M, yr, h, hy, hb => by
    obtain ⟨C1, M1, e1, e2, e3, e4, e5, e6⟩ := hS C M yr h hy (by omega)
    obtain ⟨C2, M2, d1, d2, d3, d4, d5, d6⟩ := yChain hS n C1 M1 (yr + 1) e3 e4 (by omega)
    refine ⟨C2, M2, ?_, ?_, d3, ?_, fun k hk => (d5 k hk).trans (e5 k hk), fun k hk => (d6 k hk).trans (e6 k hk)⟩
    · show (F_X11_passYear_0 C).bind _ = _
      rw [e1]; exact d1
    · show (F_X12_goesBy_55 M).bind _ = _
      rw [e2]; exact d2
    · rw [d4]; exact congrArg nI (by omega)
theorem cmb_sm {I J : am_IT} (h : ∀ k j, 55 ≤ k ∧ k ≤ 93 → mt k j = true → J k j = I k j) : sm I (cmb I J) := by
  intro k j m
  unfold cmb
  by_cases e : 55 ≤ k ∧ k ≤ 93
  · rw [if_pos e]; exact h k j e m
  · rw [if_neg e]
theorem RI_y {b : Bool} {I : am_IT} (h : RI b I) : I 1 2 = I 55 13 := by
  obtain ⟨c, w, p, t, y, d, ln, n, ⟨_, ⟨_, _, ⟨h1, h2⟩, _⟩, _⟩, _⟩ := h
  exact h1.trans h2.symm
theorem gr1_of {a m : Int32} {n : Nat} (hm : m = nI n) (hn : n < 2 ^ 31) (h : gr a 1 m = 1) : ∃ k, k ≤ n ∧ a = nI k := by
  unfold gr at h
  by_cases h1 : a < 1
  · rw [if_pos h1] at h; exact absurd h (by decide)
  · rw [if_neg h1] at h
    by_cases h2 : m < a
    · rw [if_pos h2] at h; exact absurd h (by decide)
    · obtain ⟨j, hj, e⟩ := nI_of2 (x := a) (M := m) (n := n) (by rw [hm]; exact nI_toInt hn) (fun h0 => h1 (Int32.lt_trans h0 (by decide))) (Int32.not_lt.mp h2)
      exact ⟨j, hj, e⟩
theorem op_31' (hS : ∀ b, yStep b) : am_op31 RI := by
  intro b I a1 hR
  have hR0 := hR
  obtain ⟨c, w, p, t, y, d, ln, n, ⟨hb, ⟨⟨hc1, hc2⟩, hst, ⟨hy1, hy2⟩, ⟨hw1, hw2⟩, ⟨hp1, hp2⟩, ⟨ht1, ht2⟩, ⟨hl1, hl2⟩, ⟨hd1, hd2⟩⟩, ⟨rpo, rpa, rho, rvi, rtr, rta, rsa, rbe, rne, rde, rlo, rli, rru⟩⟩, rtp, rmi, rke⟩ := hR
  obtain ⟨b1, b2, b3, b4, b5, b6, b7, b8⟩ := id hb
  have no : F_X11_years_0 I a1 = some (-1, I) → F_X12_years_55 I a1 = some (-1, up2 I 55 0 0) → ∃ (r : Int32) (I1 : am_IT) (I2 : am_IT), F_X11_years_0 I a1 = some (r, I1) ∧ F_X12_years_55 I1 a1 = some (r, I2) ∧ RI b I2 := fun h1 h2 => ⟨_, I, _, h1, h2, c, w, p, t, y, d, ln, n, ⟨hb, ⟨⟨hc1, hc2⟩, hst, ⟨hy1, hy2⟩, ⟨hw1, hw2⟩, ⟨hp1, hp2⟩, ⟨ht1, ht2⟩, ⟨hl1, hl2⟩, ⟨hd1, hd2⟩⟩, ⟨rpo, rpa, rho, rvi, rtr, rta, rsa, rbe, rne, rde, rlo, rli, rru⟩⟩, rtp, rmi, rke⟩
  rcases gr01 a1 1 60 with g | g
  · refine no ?_ ?_
    · unfold F_X11_years_0; rw [gR1, am_b1_s, g, if_pos rfl]
    · unfold F_X12_years_55; rw [am_let_s, gR2, am_b1_s, g, if_pos rfl]
  · obtain ⟨k, hk, rfl⟩ := gr1_of (m := 60) (n := 60) rfl (by decide) g
    by_cases hb9 : y + k ≤ 999
    · obtain ⟨C, _, c1, -, -, c4, c5, -⟩ := yChain (hS b) k I I y (RI_sm (cmb_sm (fun _ _ _ _ => rfl)) hR0) hy1 hb9
      have hM0 : RI b (cmb I (up2 C 55 0 0)) := RI_sm (cmb_sm (fun a i ha m => by
        have e : up2 C 55 0 0 a i = C a i := by
          unfold up2
          rw [if_neg]
          rintro ⟨rfl, rfl⟩
          exact absurd m (by decide)
        rw [e, c5 a ha])) hR0
      obtain ⟨C2, M, d1, d2, d3, d4, d5, d6⟩ := yChain (hS b) k I (up2 C 55 0 0) y hM0 hy1 hb9
      have eC : C2 = C := Option.some.inj (d1.symm.trans c1)
      subst eC
      have eM : cmb C2 M = M := by
        funext a
        by_cases ha : 55 ≤ a ∧ a ≤ 93
        · exact cmb_m _ _ ha
        · rw [cmb_c _ _ (by omega), d6 a (by omega), up2_k _ _ (by omega)]
      have hyM : M 55 13 = nI (y + k) := by
        have := RI_y d3
        rw [← d4]; exact this.symm
      refine ⟨nI (y + k), C2, M, ?_, ?_, by rw [eM] at d3; exact d3⟩
      · unfold F_X11_years_0
        rw [gR1, am_b1_s, g, if_neg (by decide), hy1, nI_add, if_pos (show nI (y + k) ≤ (999 : Int32) from nI_le (b := 999) hb9 (by decide)), loop_it rfl (by omega) c1, d4]
      · unfold F_X12_years_55
        have e13 : (up2 C2 55 0 0) 55 13 = nI y := by
          show C2 55 13 = nI y
          rw [c5 55 (by decide)]; exact hy2
        rw [am_let_s, gR2, am_b1_s, g, if_neg (by decide), e13, nI_add, if_pos (show nI (y + k) ≤ (999 : Int32) from nI_le (b := 999) hb9 (by decide)), loop_it rfl (by omega) d2, hyM]
    · have h9 : ¬ nI (y + k) ≤ (999 : Int32) := nI_ge (a := 999) (by omega) (by omega)
      refine no ?_ ?_
      · unfold F_X11_years_0; rw [gR1, am_b1_s, g, if_neg (by decide), hy1, nI_add, if_neg h9]
      · unfold F_X12_years_55; rw [am_let_s, gR2, am_b1_s, g, if_neg (by decide), show (up2 I 55 0 0) 55 13 = nI y from hy2, nI_add, if_neg h9]
