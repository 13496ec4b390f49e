theorem y_step (b : Bool) : yStep b := by
  intro C M yr hR hyC hyr
  have hR0 := hR
  obtain ⟨c, w, p, t, y1, d, ln, n, ⟨hb, ⟨⟨hc1, hc2⟩, hst, ⟨hy1, hy2⟩, ⟨hw1, hw2⟩, ⟨hp1, hp2⟩, ⟨ht1, ht2⟩, ⟨hl1, hl2⟩, ⟨hd1, hd2⟩⟩, ⟨rpo, rpa, rho, rvi, rtr, rta, rsa, rbe, rne, rde, rlo, rli, rru⟩⟩, rtp, rmi, rke⟩ := hR
  obtain ⟨b1, b2, b3, b4, b5, b6, b7, b8⟩ := id hb
  have ey : yr = y1 := (nI_eq (by omega) (by omega)).mp (hyC.symm.trans hy1)
  subst ey
  obtain ⟨ls, hlen, q1, q2, q3, q4, q5, q6⟩ := id rru
  obtain ⟨J, hJ, j26, j24, jk⟩ := e_dec_8 (I := (up2 C 1 2 (nI (yr + 1)))) (p := p) (c := c) (yr := yr + 1) (w := w) (t := t) (ln := ln) (ls := ls) (lw := cmb C M 75) (lf := cmb C M 76) (lt := cmb C M 77) hp1 b4 hc1 b1 b2 (up2_s _ _ _ _) (by omega) hw1 b3 ht1 b5 (fun j hj => by
    obtain ⟨h, hh, e, _⟩ := hse rho hj
    exact ⟨h, hh, e⟩) (fun i hi => tr_ok (I := cmb C M) b3 rtr i hi) hlen b8 hl1 q1 q2 q5
  obtain ⟨L, hL, l72, l72b, l83, lk⟩ := e_jud (I := (up2 M 55 13 (nI (yr + 1)))) (off := 7) (p := p) (c := c) (yr := yr + 1) (w := w) (t := t) (ln := ln) (ls := ls) (s := fun i k => M 64 (4 * i + k)) (me := cmb C M 12) (se := cmb C M 13) hp2 b4 hc2 b1 b2 (up2_s _ _ _ _) (by omega) hw2 b3 ht2 b5 (by decide) (by decide) (fun j hj => by
    obtain ⟨h, hh, _, e, _⟩ := hse rho hj
    exact ⟨h, hh, e⟩) (fun X h55 h64 i k hi hk => by
    rw [e_says (I := X) (q := i) (k := k) (by rw [h55]; exact rmi.2.1) (by omega) hk, h64]; rfl) hlen b8 hl2 q1 q3 q6
  have hyd : ∀ u, u < w → ∀ j, j < p → yC (up2 C 1 2 (nI (yr + 1))) t u j = yW (up2 M 55 13 (nI (yr + 1))) t u j := by
    intro u hu j hj
    have h := yC_yW (I := cmb (up2 C 1 2 (nI (yr + 1))) (up2 M 55 13 (nI (yr + 1)))) (p := p) (w := w) (y := yr) (t := t) (u := u) b3 (by omega) rho rvi rtr ((up2_s C 1 2 (nI (yr + 1))).trans (up2_s M 55 13 (nI (yr + 1))).symm) j hj
    have ea : yC (cmb (up2 C 1 2 (nI (yr + 1))) (up2 M 55 13 (nI (yr + 1)))) t u j = yC (up2 C 1 2 (nI (yr + 1))) t u j := by
      unfold yC mC
      rw [mS_c (I := (up2 C 1 2 (nI (yr + 1)))) (J := cmb (up2 C 1 2 (nI (yr + 1))) (up2 M 55 13 (nI (yr + 1)))) rfl rfl rfl rfl]; rfl
    have eb : yW (cmb (up2 C 1 2 (nI (yr + 1))) (up2 M 55 13 (nI (yr + 1)))) t u j = yW (up2 M 55 13 (nI (yr + 1))) t u j := by
      unfold yW
      rw [tS_c (I := (up2 M 55 13 (nI (yr + 1)))) (J := cmb (up2 C 1 2 (nI (yr + 1))) (up2 M 55 13 (nI (yr + 1)))) rfl rfl rfl rfl rfl rfl]; rfl
    rw [← ea, ← eb]; exact h
  have key : ∀ u, u < w → J 26 u = L 72 (7 + u) ∧ vb c (J 26 u) := by
    intro u hu
    have ep : (up2 C 1 2 (nI (yr + 1))) 3 u = (up2 M 55 13 (nI (yr + 1))) 72 u := (rpa u hu).1
    rw [j26 u hu, l72 u hu, ep, dC_c (s := fun i k => (up2 C 1 2 (nI (yr + 1))) 8 (4 * i + k)) (r := fun i k => M 64 (4 * i + k)) b1 b2 (hyd u hu) (fun j k hj hk => (rsa.1 (4 * j + k) (by omega)).1)]
    exact ⟨rfl, dC_b b1 (by rw [← ep]; exact (rpa u hu).2)⟩
  have a1 := e_ad_26 (I := J) (w := w) (by rw [jk 1 (by decide) (by decide) (by decide) (by decide)]; exact hw1) b3
  have m1 := e_be (I := L) (w := w) (off := 7) (by rw [lk 55 (by decide) (by decide) (by decide) (by decide) (by decide)]; exact hw2) b3 (by decide) (by decide)
  obtain ⟨K, hK⟩ : ∃ K, K = st2 J 3 (fun j => if j < w then J 26 j else J 3 j) := ⟨_, rfl⟩
  obtain ⟨N, hN⟩ : ∃ N, N = st2 L 72 (fun j => if j < w then L 72 (7 + j) else L 72 j) := ⟨_, rfl⟩
  rw [← hK] at a1
  rw [← hN] at m1
  have k3 : ∀ j, j < w → K 3 j = J 26 j := fun j hj => by rw [hK, st2_s, if_pos hj]
  have n72 : ∀ j, j < w → N 72 j = L 72 (7 + j) := fun j hj => by rw [hN, st2_s, if_pos hj]
  have kk : ∀ k, k ≠ 3 → k ≠ 24 → k ≠ 26 → k ≠ 28 → k ≠ 29 → K k = (up2 C 1 2 (nI (yr + 1))) k := fun k h1 h2 h3 h4 h5 => by rw [hK, st2_k _ _ h1]; exact jk k h2 h3 h4 h5
  have nk : ∀ k, k ≠ 72 → k ≠ 81 → k ≠ 82 → k ≠ 83 → k ≠ 84 → N k = (up2 M 55 13 (nI (yr + 1))) k := fun k h1 h2 h3 h4 h5 => by rw [hN, st2_k _ _ h1]; exact lk k h1 h2 h3 h4 h5
  have K1 := kk 1 (by decide) (by decide) (by decide) (by decide) (by decide)
  have N55 := nk 55 (by decide) (by decide) (by decide) (by decide) (by decide)
  have rp0 : rPaint c w (K 3) (N 72) := fun j hj => ⟨by rw [k3 j hj, n72 j hj]; exact (key j hj).1, by rw [k3 j hj]; exact (key j hj).2⟩
  have fin : ∀ (C' M' : am_IT), (∀ j, j ≠ 1 → C' 1 j = K 1 j) → (∀ j, j ≠ 1 → M' 55 j = N 55 j) → C' 1 1 = M' 55 1 → rPaint c w (C' 3) (M' 72) → (∀ k, k ≠ 1 → k ≠ 3 → C' k = K k) → (∀ k, k ≠ 55 → k ≠ 72 → M' k = N k) → RI b (cmb C' M') ∧ C' 1 2 = nI (yr + 1) ∧ (∀ k, 55 ≤ k ∧ k ≤ 93 → C' k = C k) ∧ (∀ k, k < 55 ∨ 93 < k → M' k = M k) := by
    intro C' M' g1 g2 g3 g4 g5 g6
    have e12 : C' 1 2 = nI (yr + 1) := by rw [g1 2 (by decide), K1]; exact up2_s _ _ _ _
    refine ⟨y_fin hR0 hyC hyr (fun j h1 h2 => by rw [g1 j h1, K1, up2_j _ _ h2]) e12 (fun j h1 h2 => by rw [g2 j h1, N55, up2_j _ _ h2]) (by rw [g2 13 (by decide), N55]; exact up2_s _ _ _ _) g3 (fun c' w' e1 e2 l1 l2 => ?_) (fun k h1 h2 h3 h4 h5 h6 => by rw [g5 k h1 h2, kk k h2 h3 h4 h5 h6, up2_k _ _ h1]) (fun k h1 h2 h3 h4 h5 h6 => by rw [g6 k h1 h2, nk k h2 h3 h4 h5 h6, up2_k _ _ h1]), e12, fun k hk => by rw [g5 k (by omega) (by omega), kk k (by omega) (by omega) (by omega) (by omega) (by omega), up2_k _ _ (by omega)], fun k hk => by rw [g6 k (by omega) (by omega), nk k (by omega) (by omega) (by omega) (by omega) (by omega), up2_k _ _ (by omega)]⟩
    have d1 : c' = c := (nI_eq (by omega) (by omega)).mp (e1.symm.trans hc1)
    have d2 : w' = w := (nI_eq (by omega) (by omega)).mp (e2.symm.trans hw1)
    rw [d1, d2]; exact g4
  have hy2 : M 55 13 + 1 = nI (yr + 1) := by rw [show M 55 13 = nI yr from hy2, nI_1]
  have hyc : F_X11_passYear_0 C = am_b1 (F_X11_passNight_0 K) (fun (I_8 : am_IT) => some I_8) := by
    unfold F_X11_passYear_0
    rw [hyC, nI_1, am_let_s, hJ, am_b1_s, a1, am_b2_s]
  have st0 : K 1 1 = N 55 1 := by rw [K1, N55, up2_j _ _ (by decide), up2_j _ _ (by decide)]; exact hst
  have K14 : K 1 4 = nI p := by rw [K1]; exact hp1
  have K13 : K 1 3 = nI w := by rw [K1]; exact hw1
  have N5 : N 55 5 = nI p := by rw [N55]; exact hp2
  have N4 : N 55 4 = nI w := by rw [N55]; exact hw2
  by_cases p0 : p = 0
  · refine ⟨K, N, ?_, ?_, fin K N (fun _ _ => rfl) (fun _ _ => rfl) st0 rp0 (fun _ _ _ => rfl) (fun _ _ _ => rfl)⟩
    · rw [hyc]; unfold F_X11_passNight_0
      rw [K14, p0, if_pos (show nI 0 = 0 from rfl), am_b1_s]
    · unfold F_X12_goesBy_55
      rw [hy2, am_let_s, show F_X12_judges_55 (up2 M 55 13 (nI (yr + 1))) 7 = some L from hL, am_b1_s, show F_X12_becomes_55 L 7 = _ from m1, am_b2_s, N5, p0, if_pos (show nI 0 = 0 from rfl)]
  by_cases w0 : w = 0
  · refine ⟨K, N, ?_, ?_, fin K N (fun _ _ => rfl) (fun _ _ => rfl) st0 rp0 (fun _ _ _ => rfl) (fun _ _ _ => rfl)⟩
    · rw [hyc]; unfold F_X11_passNight_0
      rw [K14, K13, if_neg (nI_ne0 (by omega) (by omega)), w0, if_pos (show nI 0 = 0 from rfl), am_b1_s]
    · unfold F_X12_goesBy_55
      rw [hy2, am_let_s, show F_X12_judges_55 (up2 M 55 13 (nI (yr + 1))) 7 = some L from hL, am_b1_s, show F_X12_becomes_55 L 7 = _ from m1, am_b2_s, N5, N4, if_neg (nI_ne0 (by omega) (by omega)), w0, if_pos (show nI 0 = 0 from rfl)]
  obtain ⟨qa, hqa, dc1, dm1⟩ := e_dr1 K (n := p) (by omega) (by omega)
  obtain ⟨Ka, hKa⟩ : ∃ Ka, Ka = up2 K 1 1 (nxt (K 1 1)) := ⟨_, rfl⟩
  obtain ⟨Na, hNa⟩ : ∃ Na, Na = up2 N 55 1 (nxt (K 1 1)) := ⟨_, rfl⟩
  rw [← hKa] at dc1
  have dm1' := dm1 N st0.symm
  rw [← hNa] at dm1'
  obtain ⟨qb, hqb, dc2, dm2⟩ := e_dr1 Ka (n := w) (by omega) (by omega)
  obtain ⟨Kb, hKb⟩ : ∃ Kb, Kb = up2 Ka 1 1 (nxt (Ka 1 1)) := ⟨_, rfl⟩
  obtain ⟨Nb, hNb⟩ : ∃ Nb, Nb = up2 Na 55 1 (nxt (Ka 1 1)) := ⟨_, rfl⟩
  rw [← hKb] at dc2
  have dm2' := dm2 Na (by rw [hNa, hKa, up2_s, up2_s])
  rw [← hNb] at dm2'
  have kbk : ∀ k, k ≠ 1 → Kb k = K k := fun k h => by rw [hKb, up2_k _ _ h, hKa, up2_k _ _ h]
  have nbk : ∀ k, k ≠ 55 → Nb k = N k := fun k h => by rw [hNb, up2_k _ _ h, hNa, up2_k _ _ h]
  have kb1 : ∀ j, j ≠ 1 → Kb 1 j = K 1 j := fun j h => by rw [hKb, up2_j _ _ h, hKa, up2_j _ _ h]
  have nb55 : ∀ j, j ≠ 1 → Nb 55 j = N 55 j := fun j h => by rw [hNb, up2_j _ _ h, hNa, up2_j _ _ h]
  have stb : Kb 1 1 = Nb 55 1 := by rw [hKb, hNb, up2_s, up2_s]
  obtain ⟨h, hh, e4, e57, eh⟩ := hse rho hqa
  have K4 : Kb 4 qa = nI h := by rw [kbk 4 (by decide), kk 4 (by decide) (by decide) (by decide) (by decide) (by decide)]; exact e4
  have N57 : Nb 57 qa = nI h := by rw [nbk 57 (by decide), nk 57 (by decide) (by decide) (by decide) (by decide) (by decide)]; exact e57
  have hv : mC (up2 C 1 2 (nI (yr + 1))) t (7 * h + qb) = cl0 (tS (up2 M 55 13 (nI (yr + 1))) h qb t) := by
    have := hyd qb hqb qa hqa
    unfold yC yW at this
    rw [show (up2 C 1 2 (nI (yr + 1))) 4 qa = nI h from e4, show (up2 M 55 13 (nI (yr + 1))) 57 qa = nI h from e57, nI_clamp (by omega)] at this
    exact this
  have K24 : Kb 24 (7 * h + qb) = cl0 (tS (up2 M 55 13 (nI (yr + 1))) h qb t) := by rw [kbk 24 (by decide), hK, st2_k _ _ (by decide), j24]; exact hv
  have N83 : Nb 83 (7 * h + qb) = cl0 (tS (up2 M 55 13 (nI (yr + 1))) h qb t) := by rw [nbk 83 (by decide), hN, st2_k _ _ (by decide), l83, yM_Y _ hh hqb b3]
  have hyo := e_yo (I := Kb) (j := qa) (u := qb) (by omega) (by omega) hh K4
  rw [K24] at hyo
  have hY0 := cl0_0 (tS (up2 M 55 13 (nI (yr + 1))) h qb t)
  generalize cl0 (tS (up2 M 55 13 (nI (yr + 1))) h qb t) = Y at hyo N83 hY0
  have hz : (0 : Int32) + nI qb = nI qb := Int32.zero_add _
  have Ka13 : Ka 1 3 = nI w := by rw [hKa, up2_j _ _ (by decide)]; exact K13
  have Na4 : Na 55 4 = nI w := by rw [hNa, up2_j _ _ (by decide)]; exact N4
  have rpb : rPaint c w (Kb 3) (Nb 72) := by rw [kbk 3 (by decide), nbk 72 (by decide)]; exact rp0
  by_cases z : Y = 0
  · refine ⟨Kb, Nb, ?_, ?_, fin Kb Nb kb1 nb55 stb rpb (fun k h1 _ => kbk k h1) (fun k h1 _ => nbk k h1)⟩
    · rw [hyc]; unfold F_X11_passNight_0
      rw [K14, K13, if_neg (nI_ne0 (by omega) (by omega)), if_neg (nI_ne0 (by omega) (by omega)), dc1, am_b2_s, Ka13, dc2, am_b2_s, hyo, am_b1_s, if_pos (show Y ≤ 0 by rw [z]; decide), am_b1_s]
    · unfold F_X12_goesBy_55
      rw [hy2, am_let_s, show F_X12_judges_55 (up2 M 55 13 (nI (yr + 1))) 7 = some L from hL, am_b1_s, show F_X12_becomes_55 L 7 = _ from m1, am_b2_s, N5, N4, if_neg (nI_ne0 (by omega) (by omega)), if_neg (nI_ne0 (by omega) (by omega)), dm1', am_b2_s, Na4, dm2', am_b2_s, if_pos (am_ix_nI (by omega) (by decide)), nI_clamp (by omega), N57, m7', if_pos (am_ix_nI (by omega) (by decide)), nI_clamp (by omega), N83, if_pos z]
  · have ef := e_fav_7 (I := Kb) (c := c) (q := qa) (by rw [kb1 0 (by decide), K1]; exact hc1) b1 b2 (by omega)
    have eT : ∀ k, k < 4 → Kb 7 (4 * qa + k) = Nb 63 (4 * qa + k) := fun k hk => by
      rw [kbk 7 (by decide), kk 7 (by decide) (by decide) (by decide) (by decide) (by decide), nbk 63 (by decide), nk 63 (by decide) (by decide) (by decide) (by decide) (by decide)]
      exact (rta.1 (4 * qa + k) (by omega)).1
    rw [fv_c (r := fun k => Nb 63 (4 * qa + k)) (fun k hk => eT k (by omega))] at ef
    have hfl := fv_le (fun k => Nb 63 (4 * qa + k)) (c - 1)
    refine ⟨up2 Kb 3 qb (nI (fv (fun k => Nb 63 (4 * qa + k)) (c - 1))), up2 Nb 72 qb (nI (fv (fun k => Nb 63 (4 * qa + k)) (c - 1))), ?_, ?_, fin _ _ (fun j hj => by rw [up2_k _ _ (by decide)]; exact kb1 j hj) (fun j hj => by rw [up2_k _ _ (by decide)]; exact nb55 j hj) (by rw [up2_k _ _ (by decide), up2_k _ _ (by decide)]; exact stb) (fun j hj => ?_) (fun k h1 h2 => by rw [up2_k _ _ h2]; exact kbk k h1) (fun k h1 h2 => by rw [up2_k _ _ h2]; exact nbk k h1)⟩
    · rw [hyc]; unfold F_X11_passNight_0
      rw [K14, K13, if_neg (nI_ne0 (by omega) (by omega)), if_neg (nI_ne0 (by omega) (by omega)), dc1, am_b2_s, Ka13, dc2, am_b2_s, hyo, am_b1_s, if_neg (fun l => z (Int32.le_antisymm l hY0)), ef, am_b1_s, if_pos (am_ix_nI (by omega) (by decide)), am_let_s, nI_clamp (by omega), am_b1_s]
    · unfold F_X12_goesBy_55
      rw [hy2, am_let_s, show F_X12_judges_55 (up2 M 55 13 (nI (yr + 1))) 7 = some L from hL, am_b1_s, show F_X12_becomes_55 L 7 = _ from m1, am_b2_s, N5, N4, if_neg (nI_ne0 (by omega) (by omega)), if_neg (nI_ne0 (by omega) (by omega)), dm1', am_b2_s, Na4, dm2', am_b2_s, if_pos (am_ix_nI (by omega) (by decide)), nI_clamp (by omega), N57, m7', if_pos (am_ix_nI (by omega) (by decide)), nI_clamp (by omega), N83, if_neg z]
      have Nc : Nb 55 2 = nI c := by rw [nb55 2 (by decide), N55]; exact hc2
      refine it_u2 (fun i => nI (fv (fun k => Nb 63 (4 * qa + k)) i)) (fun i => nI (i + 1)) (n := c - 1) (e := nI (fv (fun k => Nb 63 (4 * qa + k)) (c - 1))) rfl (by omega) (fun i hi => ?_) ?_ ?_
      · have hl := fv_le (fun k => Nb 63 (4 * qa + k)) i
        rw [Nc, if_neg (nI_ge (a := i + 1) (by omega) (by omega)), m4', m4', if_pos (am_ix_nI (by omega) (by decide)), if_pos (am_ix_nI (by omega) (by decide)), nI_clamp (by omega), nI_clamp (by omega), fv_1, nI_succ (i + 1)]
        by_cases l : Nb 63 (4 * qa + (i + 1)) ≤ Nb 63 (4 * qa + fv (fun k => Nb 63 (4 * qa + k)) i)
        · rw [if_pos l, if_pos l]; rfl
        · rw [if_neg l, if_neg l]; rfl
      · rw [Nc, if_pos (nI_le (a := c) (b := c - 1 + 1) (by omega) (by omega))]
      · rw [hz, if_pos (am_ix_nI (by omega) (by decide)), am_let_s, nI_clamp (by omega)]
    · by_cases e : j = qb
      · subst e
        rw [up2_s, up2_s]
        exact ⟨rfl, _, by omega, rfl⟩
      · rw [up2_j _ _ e, up2_j _ _ e]
        exact rpb j hj
theorem op_31 : am_op31 RI := op_31' y_step
