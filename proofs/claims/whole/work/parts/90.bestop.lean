/-! best -/
theorem e_dM {L I J : am_IT} {c w p t y d ln q : Nat} (X : cx I c w p t y d ln) (H : fbI I J t w c p (c ^ w) L) (hq : q < p) : F_X12_dueOf_55 L (nI q) = some (DU I t w c p q) := by
  have b3 : w ≤ 7 := X.1.2.2.1
  have b4 : p ≤ 7 := X.1.2.2.2.1
  have hN0 := (c7 (c := c) (w := w) (by have : 2 ≤ c := X.1.1; omega) X.1.2.1 b3).1
  obtain ⟨m52, m53, m86, m14, m87⟩ := H.2.2.2.2.2 hN0
  have e52 : mxv (fB I t w c p 100) (c ^ w) = SV I t w 100 p (bP I t w c p 100) - ps (I 2) (bP I t w c p 100) w := by
    rw [mxv_at (f := fB I t w c p 100) (fun n => fB_b X) _ hN0, fB_SV]; rfl
  have v86 : L 86 q = VV I t w q (bP I t w c p 100) := m86 q hq
  have e : SV I t w q p (bP I t w c p 100) = SV I t w 100 p (bP I t w c p 100) - VV I t w q (bP I t w c p 100) := so_1 p b4 hq
  unfold F_X12_dueOf_55 DU
  rw [if_pos (am_ix_nI (by omega) (by decide)), nI_clamp (by omega), m87 q hq, m52, v86, e52, e]
  try rw [if_pos (am_ix_nI (by omega) (by decide))]
  generalize mxv (fB I t w c p q) (c ^ w) = x1
  generalize SV I t w 100 p (bP I t w c p 100) = x2
  generalize VV I t w q (bP I t w c p 100) = x3
  generalize ps (I 2) (bP I t w c p 100) w = x4
  refine congrArg some ?_
  grind
theorem op_20 : am_op20 RI := by
  intro b I a1 hR
  have hR0 := hR
  obtain ⟨c, w, p, t, y, d, ln, n, X, -, rmi, -⟩ := hR
  have hp1 : I 1 4 = nI p := X.2.1.2.2.2.2.1.1
  have hp2 : I 55 5 = nI p := X.2.1.2.2.2.2.1.2
  have b3 : w ≤ 7 := X.1.2.2.1
  have b4 : p ≤ 7 := X.1.2.2.2.1
  have hN0 := (c7 (c := c) (w := w) (by have : 2 ≤ c := X.1.1; omega) X.1.2.1 b3).1
  have go : gd (a1 - 10) p = gr a1 10 ((9 : Int32) + nI p) := gd_off a1 (ao := 10) rfl (by decide) b4 rfl (by decide)
  have q5 : (up2 I 55 0 0) 55 5 = nI p := hp2
  obtain ⟨K, eK, k31, ky, kk⟩ := e_ch X (sq_r I)
  have SK : sq I K := fun a m ma => by rw [kk a (st_ne (fun _ => rfl) ma) (st_ne (fun _ => rfl) ma) (st_ne (fun _ => rfl) ma) (st_ne (fun _ => rfl) ma) (st_ne (fun _ => rfl) ma) (st_ne (fun _ => rfl) ma) (st_ne (fun _ => rfl) ma)]
  have k3 : K 3 = I 3 := kk 3 (by decide) (by decide) (by decide) (by decide) (by decide) (by decide) (by decide)
  have k72 : K 72 = I 72 := kk 72 (by decide) (by decide) (by decide) (by decide) (by decide) (by decide) (by decide)
  have post : ∀ {C : am_IT} {r : Int32}, (∀ a, a ≠ 30 → a ≠ 32 → a ≠ 33 → a ≠ 34 → a ≠ 35 → C a = K a) → F_X11_best_0 I a1 = some (r, C) → (∀ L, fbI I (up2 C 55 0 0) t w c p (c ^ w) L → F_X12_findsBest_55 (up2 C 55 0 0) = some L → C 55 5 = nI p → F_X12_best_55 C a1 = some (r, L)) → ∃ (r : Int32) (I1 : am_IT) (I2 : am_IT), F_X11_best_0 I a1 = some (r, I1) ∧ F_X12_best_55 I1 a1 = some (r, I2) ∧ RI b I2 := by
    intro C r h1 h2 h3
    have SC : sq I C := fun a m ma => by rw [h1 a (st_ne (fun _ => rfl) ma) (st_ne (fun _ => rfl) ma) (st_ne (fun _ => rfl) ma) (st_ne (fun _ => rfl) ma) (st_ne (fun _ => rfl) ma)]; exact SK a m ma
    obtain ⟨L, eL, HL⟩ := e_fb X (J := up2 C 55 0 0) (sq_u 0 SC rfl)
    have c3 : C 3 = I 3 := (h1 3 (by decide) (by decide) (by decide) (by decide) (by decide)).trans k3
    have c72 : C 72 = I 72 := (h1 72 (by decide) (by decide) (by decide) (by decide) (by decide)).trans k72
    exact ⟨r, C, L, h2, h3 L HL eL (by rw [SC 55 5 rfl]; exact hp2), RI_sm (sq_3 HL.1 (by rw [HL.2.1, up2_k _ _ (by decide), c3]) (fun j hj => by rw [HL.2.2.1 j (by omega), up2_k _ _ (by decide), c72])) hR0⟩
  rcases gd_cases (a1 - 10) (n := p) (by omega) with g0 | ⟨g0, q, hq, e0⟩
  · rcases gr_cases a1 (m := 2) (n := 2) rfl (by decide) with g2 | ⟨g2, k, hk, rfl⟩
    · refine ⟨-100000, I, up2 I 55 0 0, ?_, ?_, RI_sm (sm_u 0 rfl) hR0⟩
      · unfold F_X11_best_0; rw [gP1 (n := p) hp1, am_b1_s, g0, if_pos rfl, gR1, am_b1_s, g2, if_pos rfl]
      · unfold F_X12_best_55; rw [am_let_s, gR2, am_b1_s, g2, if_pos rfl, gR2, q5, ← go, g0, am_b1_s, if_pos rfl]
    · rcases (show k = 0 ∨ k = 1 ∨ k = 2 by omega) with rfl | rfl | rfl
      · refine post (C := K) (r := mxv (fB I t w c p 100) (c ^ w)) (fun _ _ _ _ _ _ => rfl) ?_ ?_
        · unfold F_X11_best_0
          rw [gP1 (n := p) hp1, am_b1_s, g0, if_pos rfl, gR1, am_b1_s, g2, if_neg (by decide), eK, am_b2_s, if_pos nI_0]
        · intro L HL eL _
          unfold F_X12_best_55
          rw [am_let_s, gR2, am_b1_s, g2, if_neg (by decide), eL, am_b1_s, if_pos nI_0, (HL.2.2.2.2.2 hN0).1]
      · refine post (C := K) (r := ps (I 2) (bP I t w c p 100) w) (fun _ _ _ _ _ _ => rfl) ?_ ?_
        · unfold F_X11_best_0
          rw [gP1 (n := p) hp1, am_b1_s, g0, if_pos rfl, gR1, am_b1_s, g2, if_neg (by decide), eK, am_b2_s, if_neg (show ¬ nI 1 = 0 by decide), if_pos (show nI 1 = 1 from rfl), e_pc (pot := I 2) (P := bP I t w c p 100) b3 (by rw [sq_c SK (k := 1) rfl]; exact X.2.1.2.2.2.1.1) (fun u hu => ⟨k31 u hu, by have := bP_lt (lf := 100) X u; have : c ≤ 4 := X.1.2.1; omega⟩) (fun k _ => by rw [sq_c SK (k := 2) rfl]), am_b1_s]
        · intro L HL eL _
          unfold F_X12_best_55
          rw [am_let_s, gR2, am_b1_s, g2, if_neg (by decide), eL, am_b1_s, if_neg (show ¬ nI 1 = 0 by decide), if_pos (show nI 1 = 1 from rfl), (HL.2.2.2.2.2 hN0).2.1]
          rfl
      · obtain ⟨C, eC, hC⟩ := e_lc X SK ky k31
        refine post (C := C) (r := LK I t w c p p) hC ?_ ?_
        · unfold F_X11_best_0
          rw [gP1 (n := p) hp1, am_b1_s, g0, if_pos rfl, gR1, am_b1_s, g2, if_neg (by decide), eK, am_b2_s, if_neg (show ¬ nI 2 = 0 by decide), if_neg (show ¬ nI 2 = 1 by decide), if_pos rfl, eC, am_b2_s]
        · intro L HL eL _
          have L5 : L 55 5 = nI p := by rw [HL.1 55 5 rfl]; exact hp2
          unfold F_X12_best_55
          rw [am_let_s, gR2, am_b1_s, g2, if_neg (by decide), eL, am_b1_s, if_neg (show ¬ nI 2 = 0 by decide), if_neg (show ¬ nI 2 = 1 by decide), if_pos (show nI 2 ≤ 2 by decide), am_let_s, (HL.2.2.2.2.2 hN0).2.1]
          refine it_u2 (fun q => LK I t w c p q) (fun q => nI q) (n := p) (e := LK I t w c p p) rfl (by omega) (fun q hq => ?_) ?_ rfl
          · rw [L5, if_neg (nI_ge hq (by omega)), e_dM X HL hq, am_b1_s, am_let_s, am_let_s, nI_1]
            rfl
          · rw [L5, if_pos (nI_le (Nat.le_refl p) (by omega))]
  · have ea : a1 = nI (q + 10) := by
      have h := Int32.sub_add_cancel a1 10
      rw [e0] at h
      rw [← h, show (10 : Int32) = nI 10 from rfl, nI_add]
    have n0 : ¬ a1 = 0 := by rw [ea]; exact nI_ne0 (by omega) (by omega)
    have n1 : ¬ a1 = 1 := by rw [ea]; exact fun h => absurd ((nI_eq (b := 1) (by omega) (by decide)).mp h) (by omega)
    have n2 : ¬ a1 ≤ 2 := by rw [ea]; exact nI_ge (a := 2) (b := q + 10) (by omega) (by omega)
    have g2 : gr a1 0 2 = 0 := by
      unfold gr
      rw [ea, if_neg (nI_pos (by omega)), if_pos (show (2 : Int32) < nI (q + 10) from nI_lt (a := 2) (b := q + 10) (by omega) (by omega))]
    obtain ⟨C, eC, hC⟩ := e_du X SK ky k31 hq
    refine post (C := C) (r := DU I t w c p q) hC ?_ ?_
    · unfold F_X11_best_0
      rw [gP1 (n := p) hp1, am_b1_s, g0, if_neg (by decide), eK, am_b2_s, if_neg n0, if_neg n1, if_neg (by decide), e0, eC, am_b2_s]
    · intro L HL eL c5
      have u5 : (up2 C 55 0 0) 55 5 = nI p := c5
      unfold F_X12_best_55
      rw [am_let_s, gR2, am_b1_s, g2, if_pos rfl, gR2, u5, ← go, g0, am_b1_s, if_neg (by decide), eL, am_b1_s, if_neg n0, if_neg n1, if_neg n2, e0, e_dM X HL hq, am_b1_s]
