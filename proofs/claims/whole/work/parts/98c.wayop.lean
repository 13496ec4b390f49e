/-! way -/
theorem RI_18 {b : Bool} {J : am_IT} {f : Nat → Int32} (h : RI b J) : RI b (st2 J 18 f) := h
theorem RI_w {b : Bool} {I J : am_IT} (h : ∀ a j, mt a j = true → a ≠ 18 → J a j = I a j) (hR : RI b I) : RI b J := by
  have h1 : sm I (st2 J 18 (I 18)) := by
    intro a j ma
    unfold st2
    by_cases z : a = 18
    · rw [if_pos z, z]
    · rw [if_neg z]; exact h a j ma z
  have h2 := RI_18 (f := J 18) (RI_sm h1 hR)
  have e : st2 (st2 J 18 (I 18)) 18 (J 18) = J := by
    funext a
    unfold st2
    by_cases z : a = 18
    · rw [if_pos z, z]
    · rw [if_neg z, if_neg z]
  rw [e] at h2
  exact h2
def okB (β : wB) : Prop := (β.1 = -1 ∧ β.2.1 = 0) ∨ (∃ x, β.1 = nI x ∧ x ≤ 900 ∧ 1 ≤ β.2.1 ∧ β.2.1 ≤ 9)
theorem sl_n {lo : Nat → Int32} {r : Nat → Nat} : ∀ n, (∀ i, i < n → ∃ y, y < 100 ∧ lo (r i) = nI y) → ∃ x, x ≤ 99 * n ∧ sl lo r n = nI x
  | 0, _ => ⟨0, by omega, rfl⟩
  | n + 1, h => by
    obtain ⟨x, h1, h2⟩ := sl_n n (fun i hi => h i (by omega))
    obtain ⟨z, h3, h4⟩ := h n (by omega)
    refine ⟨x + z, by omega, ?_⟩
    show sl lo r n + lo (r n) = _
    rw [h2, h4, nI_add]
theorem uB_ok {lo : Nat → Int32} {r : Nat → Nat} {n : Nat} {β : wB} (hn1 : 1 ≤ n) (hn : n ≤ 9) (h : ∀ i, i < n → ∃ y, y < 100 ∧ lo (r i) = nI y) (hβ : okB β) : okB (uB β n (sl lo r n) r) := by
  unfold uB
  by_cases z : sl lo r n ≤ β.1
  · rw [if_pos z]; exact hβ
  · rw [if_neg z]
    obtain ⟨x, h1, h2⟩ := sl_n n h
    exact Or.inr ⟨x, h2, by omega, hn1, hn⟩
theorem scn_ok {h : Nat → wB → wB} (hh : ∀ x β, x < 9 → okB β → okB (h x β)) : ∀ j f β, f + j ≤ 9 → okB β → okB (scn h j f β)
  | 0, _, _, _, hb => hb
  | j + 1, f, β, hf, hb => scn_ok hh j (f + 1) (h f β) (by omega) (hh f β (by omega) hb)
theorem wk_ok {A : Nat → Nat → Bool} {lo : Nat → Int32} {g : Nat} (hlo : ∀ x, x < 9 → ∃ y, y < 100 ∧ lo x = nI y) : ∀ k d r v β, d + k ≤ 9 → (∀ i, i ≤ d → r i < 9) → okB β → okB (wk A lo g k d r v β)
  | 0, _, _, _, _, _, _, hb => hb
  | k + 1, d, r, v, β, hd, hr, hb => by
    unfold wk
    by_cases z : r d = g
    · rw [if_pos z]
      exact uB_ok (by omega) (by omega) (fun i hi => hlo _ (hr i (by omega))) hb
    · rw [if_neg z]
      refine scn_ok (fun x γ hx hγ => ?_) 9 0 β (by omega) hb
      by_cases zz : vld A (v ||| 2 ^ r d) (r d) x = true
      · rw [if_pos zz]
        refine wk_ok hlo k (d + 1) (pu r (d + 1) x) (v ||| 2 ^ r d) γ (by omega) (fun i hi => ?_) hγ
        unfold pu
        split
        · exact hx
        · exact hr i (by omega)
      · rw [if_neg zz]; exact hγ
theorem one_sh : ∀ a, a < 9 → ((1 : Int32) <<< (nI a &&& 31)) = nI (2 ^ a) := by decide +kernel
theorem cnn_0 : ∀ g, g < 9 → cnn g 0 9 0 = 8 := by decide +kernel
theorem e_fw {J B : am_IT} {A : Nat → Nat → Bool} {lo : Nat → Int32} {a g L : Nat} (hL0 : 1 ≤ L) (hL : L ≤ 9) (ha : a < 9) (hg : g < 9) (hlo : ∀ x, x < 9 → B 70 x = lo x) (hB : ∀ u, u < 9 → ∃ mu, mu < 512 ∧ B 71 u = nI mu ∧ ∀ x, x < 9 → A u x = mu.testBit x) (hJB : (∀ j, j ≠ 62 → j ≠ 63 → J 55 j = B 55 j) ∧ ∀ a, a ≠ 55 → a ≠ 91 → a ≠ 92 → J a = B a) :
    ∃ K, F_X12_findsWay_55 J (nI a) (nI g) (nI L) = some K ∧ rMw B K (wk A lo g L 0 (fun _ => a) 0 (-1, 0, fun _ => 0)) := by
  obtain ⟨k, rfl⟩ : ∃ k, L = k + 1 := ⟨L - 1, by omega⟩
  unfold F_X12_findsWay_55
  rw [am_let_s, am_let_s, if_pos (by decide), am_let_s, am_let_s]
  generalize hC : up2 (up2 (up2 J 55 63 (-1)) 55 62 0) 91 (0 : Int32).toNatClampNeg (nI a) = C
  have c91 : C 91 0 = nI a := by rw [← hC]; exact up2_s _ _ _ _
  have rC0 : rMw B C (-1, 0, fun _ => 0) := by
    refine ⟨?_, ?_, fun i hi => absurd hi (Nat.not_lt_zero i), ?_, ?_⟩
    · rw [← hC, up2_k _ _ (by decide), up2_j _ _ (by decide), up2_s]
    · rw [← hC, up2_k _ _ (by decide), up2_s]; rfl
    · intro j j62 j63
      rw [← hC, up2_k _ _ (by decide), up2_j _ _ j62, up2_j _ _ j63]; exact hJB.1 j j62 j63
    · intro x a55 a91 a92
      rw [← hC, up2_k _ _ a91, up2_k _ _ a55, up2_k _ _ a55]; exact hJB.2 x a55 a91 a92
  by_cases z : a = g
  · rw [if_pos (congrArg nI z)]
    obtain ⟨K, eK, k1, -⟩ := e_nw (n := 1) (r := fun _ => a) (by omega) hlo (fun _ _ => ha) rC0 (fun i hi => by rw [show i = 0 by omega]; exact c91)
    rw [show F_X12_notesWay_55 C (1 : Int32) = _ from eK, am_b1_s]
    refine ⟨K, rfl, ?_⟩
    unfold wk
    rw [if_pos z]
    exact k1
  · rw [if_neg (fun e => z ((nI_eq (by omega) (by omega)).mp e)), one_sh a ha]
    obtain ⟨s, K, s1, s2, s3, -⟩ := e_nd (B := B) (A := A) (lo := lo) (g := g) (L := k + 1) hL hg hlo hB k 0 (fun _ => a) 0 (-1, 0, fun _ => 0) C 7 (by omega) (by omega) (fun _ _ => ha) (Nat.zero_testBit a) z (fun i hi => by rw [show i = 0 by omega]; exact c91) rC0 (by
      have h := cnn_or (g := g) (v := 0) (x := a) z (Nat.zero_testBit a) 9 0
      rw [if_pos (by omega), cnn_0 g hg] at h
      omega)
    have hs := tcs_le 7 (by decide)
    have e1 : am_it am_fu (wF (nI g) (nI (k + 1))) (nI (2 ^ a), (1 : Int32), (0 : Int32), C) = some K := by
      have h := s2 (1000000 - s)
      rw [show s + (1000000 - s) = am_fu by show _ = 1000000; omega, Nat.zero_or] at h
      refine Eq.trans (show _ = am_it am_fu (wF (nI g) (nI (k + 1))) (nI (2 ^ a), nI (0 + 1), nI 0, C) from rfl) (h.trans ?_)
      obtain ⟨m, hm⟩ : ∃ m, 1000000 - s = m + 1 := ⟨1000000 - s - 1, by omega⟩
      rw [hm]
      refine am_it_e ?_
      unfold wF
      rw [am_u4_s, if_pos (show nI 0 ≤ 0 by decide)]
    refine ⟨K, ?_, s3⟩
    refine Eq.trans (show _ = am_b1 (am_it am_fu (wF (nI g) (nI (k + 1))) (nI (2 ^ a), (1 : Int32), (0 : Int32), C)) (fun (I_11 : am_IT) => some I_11) from rfl) ?_
    rw [e1, am_b1_s]
theorem op_30 : am_op30 RI := by
  intro b I a1 a2 a3 a4 hR
  have hR0 := hR
  obtain ⟨c, w, p, t, y, d, ln, n, X, -, -, -⟩ := hR
  have rlo : rLook (I 19) (I 70) := X.2.2.2.2.2.2.2.2.2.2.2.2.1
  have rli : rLink (I 20) (I 71) := X.2.2.2.2.2.2.2.2.2.2.2.2.2.1
  have no : F_X11_way_0 I a1 a2 a3 a4 = some (-1, I) → F_X12_way_55 I a1 a2 a3 a4 = some (-1, up2 I 55 0 0) → ∃ (r : Int32) (I1 : am_IT) (I2 : am_IT), F_X11_way_0 I a1 a2 a3 a4 = some (r, I1) ∧ F_X12_way_55 I1 a1 a2 a3 a4 = some (r, I2) ∧ RI b I2 := fun h1 h2 => ⟨_, I, _, h1, h2, RI_sm (sm_u 0 rfl) hR0⟩
  rcases gd_cases a1 (n := 9) (by decide) with g1 | ⟨g1, a, ha, rfl⟩
  · refine no ?_ ?_
    · unfold F_X11_way_0; rw [gQ1', am_b1_s, g1, if_pos rfl]
    · unfold F_X12_way_55; rw [am_let_s, gQ2, am_b1_s, g1, if_pos rfl]
  rcases gd_cases a2 (n := 9) (by decide) with g2 | ⟨g2, g, hg, rfl⟩
  · refine no ?_ ?_
    · unfold F_X11_way_0; rw [gQ1', am_b1_s, g1, if_neg (by decide), gQ1', am_b1_s, g2, if_pos rfl]
    · unfold F_X12_way_55; rw [am_let_s, gQ2, am_b1_s, g1, if_neg (by decide), gQ2, am_b1_s, g2, if_pos rfl]
  rcases gr01 a3 1 9 with g3 | g3
  · refine no ?_ ?_
    · unfold F_X11_way_0; rw [gQ1', am_b1_s, g1, if_neg (by decide), gQ1', am_b1_s, g2, if_neg (by decide), gR1, am_b1_s, g3, if_pos rfl]
    · unfold F_X12_way_55; rw [am_let_s, gQ2, am_b1_s, g1, if_neg (by decide), gQ2, am_b1_s, g2, if_neg (by decide), gR2, am_b1_s, g3, if_pos rfl]
  obtain ⟨L, hL, rfl⟩ := gr1_of (m := 9) (n := 9) rfl (by decide) g3
  have hL0 : 1 ≤ L := by
    rcases Nat.eq_zero_or_pos L with h | h
    · subst h; exact absurd g3 (by decide)
    · exact h
  obtain ⟨A, hAd⟩ : ∃ A : Nat → Nat → Bool, A = fun x z => decide (I 20 (9 * x + z) = 1) := ⟨_, rfl⟩
  have hA : ∀ x z, x < 9 → z < 9 → I 20 (9 * x + z) = if A x z = true then 1 else 0 := by
    intro x z hx hz
    obtain ⟨m, hm, em, hf⟩ := rli x hx
    rw [hf z hz, hAd]
    show _ = if decide (I 20 (9 * x + z) = 1) = true then 1 else 0
    rw [hf z hz]
    cases m.testBit z <;> decide
  have hB : ∀ u, u < 9 → ∃ mu, mu < 512 ∧ I 71 u = nI mu ∧ ∀ x, x < 9 → A u x = mu.testBit x := by
    intro u hu
    obtain ⟨m, hm, em, hf⟩ := rli u hu
    refine ⟨m, hm, em, fun x hx => ?_⟩
    rw [hAd]
    show decide (I 20 (9 * u + x) = 1) = _
    rw [hf x hx]
    cases m.testBit x <;> decide
  have hlo : ∀ x, x < 9 → ∃ y, y < 100 ∧ I 19 x = nI y := fun x hx => (rlo x hx).2
  have hok : okB (wk A (I 19) g L 0 (fun _ => a) 0 (-1, 0, fun _ => 0)) := wk_ok hlo L 0 (fun _ => a) 0 _ (by omega) (fun _ _ => ha) (Or.inl ⟨rfl, rfl⟩)
  generalize hβ : wk A (I 19) g L 0 (fun _ => a) 0 (-1, 0, fun _ => 0) = β at hok
  obtain ⟨K, eK, ⟨k4, k5, k6, k7, k22, kk⟩, -⟩ := e_wk (B := I) (A := A) (lo := I 19) (g := g) (L := L) hL hg (fun _ _ => rfl) hA L 0 64 (fun _ => a) 0 (-1, 0, fun _ => 0) (up2 (up2 (up2 (up2 I 18 4 (nI g)) 18 5 (nI L)) 18 6 (-1)) 18 7 0) (by omega) (by omega) (by omega) (fun _ _ => ha) ⟨rfl, rfl, rfl, rfl, fun i hi => absurd hi (Nat.not_lt_zero i), fun x h18 _ _ => by rw [up2_k _ _ h18, up2_k _ _ h18, up2_k _ _ h18, up2_k _ _ h18]⟩ (fun i hi => absurd hi (Nat.not_lt_zero i))
  rw [hβ] at k6 k7 k22
  have eF : F_X5_findWay_18 I (nI a) (nI g) (nI L) = if nI β.2.1 ≤ 0 then some ((0 : Int32), K) else some ((1 : Int32), K) := by
    unfold F_X5_findWay_18 F_X5_walk_18
    have eK' : G_X5_walk_18 64 (up2 (up2 (up2 (up2 I 18 4 (nI g)) 18 5 (nI L)) 18 6 (-1)) 18 7 0) (nI a) (nI 0) 0 (nI 0) = some K := eK
    rw [nI_0] at eK'
    rw [am_let_s, am_let_s, am_let_s, am_let_s, eK', am_b1_s, k7]
  have hKI : ∀ x j, mt x j = true → x ≠ 18 → K x j = I x j := fun x j m h18 => by rw [kk x h18 (mt_ne (fun _ => rfl) m) (mt_ne (fun _ => rfl) m)]
  have k55 : K 55 = I 55 := kk 55 (by decide) (by decide) (by decide)
  have fin : ∀ {r : Int32}, F_X11_way_0 I (nI a) (nI g) (nI L) a4 = some (r, K) → (∃ M, F_X12_way_55 K (nI a) (nI g) (nI L) a4 = some (r, M) ∧ (M = up2 K 55 0 0 ∨ rMw (up2 K 55 0 0) M β)) → ∃ (r : Int32) (I1 : am_IT) (I2 : am_IT), F_X11_way_0 I (nI a) (nI g) (nI L) a4 = some (r, I1) ∧ F_X12_way_55 I1 (nI a) (nI g) (nI L) a4 = some (r, I2) ∧ RI b I2 := by
    rintro r h1 ⟨M, h2, h3⟩
    refine ⟨r, K, M, h1, h2, RI_w (fun x j m h18 => ?_) hR0⟩
    have e0 : (up2 K 55 0 0) x j = I x j := by
      rw [← hKI x j m h18]
      unfold up2
      rw [if_neg (by rintro ⟨rfl, rfl⟩; exact absurd m (by decide))]
    rcases h3 with rfl | ⟨-, -, -, h4, h5⟩
    · exact e0
    · rw [← e0]
      by_cases z : x = 55
      · subst z
        exact h4 j (by rintro rfl; exact absurd m (by decide)) (by rintro rfl; exact absurd m (by decide))
      · rw [h5 x z (mt_ne (fun _ => rfl) m) (mt_ne (fun _ => rfl) m)]
  obtain ⟨M, eM, hM⟩ := e_fw (J := up2 K 55 0 0) (B := up2 K 55 0 0) (A := A) (lo := I 19) (a := a) (g := g) (L := L) hL0 hL ha hg (fun x hx => by rw [up2_k _ _ (by decide), kk 70 (by decide) (by decide) (by decide)]; exact (rlo x hx).1.symm) (by rw [up2_k _ _ (by decide), kk 71 (by decide) (by decide) (by decide)]; exact hB) ⟨fun _ _ _ => rfl, fun _ _ _ _ => rfl⟩
  rw [hβ] at hM
  have M63 := hM.1
  have M62 := hM.2.1
  have e1 : F_X11_way_0 I (nI a) (nI g) (nI L) a4 = am_b2 (F_X5_findWay_18 I (nI a) (nI g) (nI L)) (fun (r_14 : Int32) (I_15 : am_IT) => if r_14 = 0 then (some ((-1 : Int32), I_15)) else (if a4 = 0 then (some (I_15 18 6, I_15)) else (if a4 = (1 : Int32) then (some (I_15 18 7, I_15)) else (am_b1 (F_X11_isWithin I_15 a4 (10 : Int32) (((10 : Int32) + (I_15 18 7)) - (1 : Int32))) (fun (r_21 : Int32) => if r_21 = 0 then (some ((-1 : Int32), I_15)) else (if am_ix (a4 - (10 : Int32)) 9 = true then (some (I_15 22 (a4 - (10 : Int32)).toNatClampNeg, I_15)) else none)))))) := by
    unfold F_X11_way_0
    rw [gQ1', am_b1_s, g1, if_neg (by decide), gQ1', am_b1_s, g2, if_neg (by decide), gR1, am_b1_s, g3, if_neg (by decide)]
  have e2 : F_X12_way_55 K (nI a) (nI g) (nI L) a4 = am_b1 (F_X12_isIn_55 (up2 K 55 0 0) a4 (0 : Int32) (1 : Int32)) (fun (r_15 : Int32) => if r_15 = 0 then (am_b1 (F_X12_isIn_55 (up2 K 55 0 0) a4 (10 : Int32) (18 : Int32)) (fun (r_26 : Int32) => if r_26 = 0 then (some ((-1 : Int32), (up2 K 55 0 0))) else (am_b1 (F_X12_findsWay_55 (up2 K 55 0 0) (nI a) (nI g) (nI L)) (fun (I_30 : am_IT) => if (I_30 55 63) = (-1 : Int32) then (some ((-1 : Int32), I_30)) else (if a4 = 0 then (some (I_30 55 63, I_30)) else (if a4 = (1 : Int32) then (some (I_30 55 62, I_30)) else (if (I_30 55 62) ≤ (a4 - (10 : Int32)) then (some ((-1 : Int32), I_30)) else (if am_ix (a4 - (10 : Int32)) 9 = true then (some (I_30 92 (a4 - (10 : Int32)).toNatClampNeg, I_30)) else none)))))))) else (am_b1 (F_X12_findsWay_55 (up2 K 55 0 0) (nI a) (nI g) (nI L)) (fun (I_19 : am_IT) => if (I_19 55 63) = (-1 : Int32) then (some ((-1 : Int32), I_19)) else (if a4 = 0 then (some (I_19 55 63, I_19)) else (if a4 = (1 : Int32) then (some (I_19 55 62, I_19)) else (if (I_19 55 62) ≤ (a4 - (10 : Int32)) then (some ((-1 : Int32), I_19)) else (if am_ix (a4 - (10 : Int32)) 9 = true then (some (I_19 92 (a4 - (10 : Int32)).toNatClampNeg, I_19)) else none))))))) := by
    unfold F_X12_way_55
    rw [am_let_s, gQ2, am_b1_s, g1, if_neg (by decide), gQ2, am_b1_s, g2, if_neg (by decide), gR2, am_b1_s, g3, if_neg (by decide)]
  rcases hok with ⟨o1, o2⟩ | ⟨x, o1, o2, o3, o4⟩
  · refine fin (r := -1) ?_ ?_
    · rw [e1, eF, o2, if_pos (show nI 0 ≤ 0 by decide), am_b2_s, if_pos rfl]
    · rw [e2, gR2, am_b1_s, gR2]
      rcases gr01 a4 0 1 with h1 | h1
      · rw [h1, if_pos rfl]
        rcases gr01 a4 10 18 with h2 | h2
        · exact ⟨_, by rw [h2, am_b1_s, if_pos rfl], Or.inl rfl⟩
        · exact ⟨M, by rw [h2, am_b1_s, if_neg (by decide), eM, am_b1_s, if_pos (M63.trans o1)], Or.inr hM⟩
      · exact ⟨M, by rw [h1, if_neg (by decide), eM, am_b1_s, if_pos (M63.trans o1)], Or.inr hM⟩
  · have hx : ¬ M 55 63 = -1 := by
      rw [M63, o1]
      intro e
      have := congrArg Int32.toInt e
      rw [nI_toInt (by omega), show (-1 : Int32).toInt = -1 by decide] at this
      omega
    rw [eF, if_neg (nI_nle (show 0 < β.2.1 by omega) (by omega)), am_b2_s, if_neg (by decide), k6, k7] at e1
    rcases gr_cases a4 (m := 1) (n := 1) rfl (by decide) with h1 | ⟨h1, i, hi, rfl⟩
    · have n0 : ¬ a4 = 0 := by rintro rfl; exact absurd h1 (by decide)
      have n1 : ¬ a4 = 1 := by rintro rfl; exact absurd h1 (by decide)
      have em : (10 : Int32) + nI β.2.1 - 1 = nI (9 + β.2.1) := by
        rw [show (10 : Int32) + nI β.2.1 = nI (10 + β.2.1) from nI_add 10 _, show 10 + β.2.1 = (9 + β.2.1) + 1 by omega, nI_dec]
      rw [if_neg n0, if_neg n1, gR1, em, am_b1_s] at e1
      rw [gR2, am_b1_s, h1, if_pos rfl, gR2, am_b1_s] at e2
      have go : gd (a4 - 10) 9 = gr a4 10 18 := by
        have h := gd_off a4 (o := 10) (m := 18) (ao := 10) (p := 9)
        unfold gd gr
        by_cases zz : a4 < 0
        · rw [if_pos (show a4 < 10 from Int32.lt_trans zz (by decide))]
          obtain ⟨e, he⟩ : ∃ e : Int, e = a4.toInt := ⟨_, rfl⟩
          have hlt := (Int32.lt_iff_toInt_lt).mp zz
          rw [show (0 : Int32).toInt = 0 from rfl] at hlt
          have hge := Int32.le_toInt a4
          have ts : (a4 - 10).toInt = (a4.toInt - 10).bmod (2 ^ 32) := Int32.toInt_sub a4 10
          by_cases q : a4 - 10 < 0
          · rw [if_pos q]
          · rw [if_neg q]
            rw [if_pos]
            rw [Int32.le_iff_toInt_le, ts]
            have hq : ¬ (a4 - 10).toInt < 0 := fun hh => q (Int32.lt_iff_toInt_lt.mpr hh)
            rw [ts, Int.bmod_def] at hq
            rw [show (nI 9).toInt = 9 by decide, Int.bmod_def]
            omega
        · obtain ⟨j, hj, rfl⟩ := nI_of zz
          by_cases zz2 : j < 10
          · rw [if_pos (show nI j < 10 from nI_lt (a := j) (b := 10) zz2 (by decide)), if_pos (show nI j - 10 < 0 from pk_sneg (a := j) (b := 10) (by decide) zz2)]
          · rw [if_neg (show ¬ nI j < 10 from nI_nlt (a := j) (b := 10) (by omega) (by omega)), show nI j - 10 = nI (j - 10) from pk_sub (a := j) (b := 10) (by omega), if_neg (nI_pos (by omega))]
            by_cases zz3 : 18 < j
            · rw [if_pos (show (18 : Int32) < nI j from nI_lt (a := 18) (b := j) zz3 (by omega)), if_pos (nI_le (show 9 ≤ j - 10 by omega) (by omega))]
            · rw [if_neg (show ¬ (18 : Int32) < nI j from nI_nlt (a := 18) (b := j) (by omega) (by decide)), if_neg (nI_ge (show j - 10 < 9 by omega) (by decide))]
      rcases gd_cases (a4 - 10) (n := 9) (by decide) with g0 | ⟨g0, i, hi, e0⟩
      · rw [← go, g0, if_pos rfl] at e2
        refine fin (r := -1) ?_ ⟨_, e2, Or.inl rfl⟩
        rcases gr01 a4 10 (nI (9 + β.2.1)) with q | q
        · rw [e1, q, if_pos rfl]
        · exfalso
          rw [go] at g0
          unfold gr at g0 q
          by_cases q1 : a4 < 10
          · rw [if_pos q1] at q; exact absurd q (by decide)
          · rw [if_neg q1] at g0 q
            by_cases q2 : nI (9 + β.2.1) < a4
            · rw [if_pos q2] at q; exact absurd q (by decide)
            · by_cases q3 : 18 < a4
              · have := Int32.lt_of_le_of_lt (Int32.not_lt.mp q2) (show nI (9 + β.2.1) < 19 from nI_lt (a := 9 + β.2.1) (b := 19) (by omega) (by decide))
                rw [Int32.lt_iff_toInt_lt] at this q3
                rw [show (19 : Int32).toInt = 19 by decide] at this
                rw [show (18 : Int32).toInt = 18 by decide] at q3
                omega
              · rw [if_neg q3] at g0; exact absurd g0 (by decide)
      · have ea : a4 = nI (i + 10) := by
          have h := Int32.sub_add_cancel a4 10
          rw [e0] at h
          rw [← h, show (10 : Int32) = nI 10 from rfl, nI_add]
        rw [← go, g0, if_neg (by decide), eM, am_b1_s, if_neg hx, if_neg n0, if_neg n1, M62, e0] at e2
        by_cases zi : i < β.2.1
        · have gq : gr a4 10 (nI (9 + β.2.1)) = 1 := by
            unfold gr
            rw [ea, if_neg (show ¬ nI (i + 10) < 10 from nI_nlt (a := i + 10) (b := 10) (by omega) (by omega)), if_neg (nI_nlt (show i + 10 ≤ 9 + β.2.1 by omega) (by omega))]
          rw [gq, if_neg (by decide), e0, if_pos (am_ix_nI hi (by decide)), nI_clamp (by omega), k22 i zi] at e1
          rw [if_neg (nI_ge zi (by omega)), if_pos (am_ix_nI hi (by decide)), nI_clamp (by omega), hM.2.2.1 i zi] at e2
          exact fin e1 ⟨M, e2, Or.inr hM⟩
        · have gq : gr a4 10 (nI (9 + β.2.1)) = 0 := by
            unfold gr
            rw [ea, if_neg (show ¬ nI (i + 10) < 10 from nI_nlt (a := i + 10) (b := 10) (by omega) (by omega)), if_pos (nI_lt (show 9 + β.2.1 < i + 10 by omega) (by omega))]
          rw [gq, if_pos rfl] at e1
          rw [if_pos (nI_le (show β.2.1 ≤ i by omega) (by omega))] at e2
          exact fin e1 ⟨M, e2, Or.inr hM⟩
    · rw [gR2, am_b1_s, h1, if_neg (by decide), eM, am_b1_s, if_neg hx, M63, M62] at e2
      rcases (show i = 0 ∨ i = 1 by omega) with rfl | rfl
      · rw [if_pos nI_0] at e1 e2
        exact fin e1 ⟨M, e2, Or.inr hM⟩
      · rw [if_neg (show ¬ nI 1 = 0 by decide), if_pos (show nI 1 = 1 from rfl)] at e1 e2
        exact fin e1 ⟨M, e2, Or.inr hM⟩
