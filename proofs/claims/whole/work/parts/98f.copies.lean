/-! the image: towns that agree where it matters -/
def tLs : List (Nat × Nat) := [(1, 6), (2, 4), (3, 7), (4, 7), (5, 56), (6, 60), (7, 28), (8, 28), (9, 7), (10, 49), (11, 2), (12, 16), (13, 16), (14, 400), (15, 1), (16, 112), (19, 9), (20, 81)]
def mLs : List (Nat × Nat) := [(72, 7), (56, 4), (58, 56), (66, 49), (59, 20), (60, 20), (61, 20), (62, 20), (70, 9), (71, 9), (57, 7), (65, 7), (63, 28), (64, 28), (67, 40), (68, 40), (69, 40), (75, 16), (76, 16), (77, 16), (78, 400), (79, 400)]
def tEq (T T' : am_IT) : Prop := ∀ q, q ∈ tLs → ∀ j, j < q.2 → T' q.1 j = T q.1 j
def mEq (M M' : am_IT) : Prop := (∀ q, q ∈ mLs → ∀ j, j < q.2 → M' q.1 j = M q.1 j) ∧ ∀ j, j ∈ [1, 2, 13, 4, 8, 5, 18, 32] → M' 55 j = M 55 j
theorem rt_c {c w p t y d ln : Nat} {T M T' M' : am_IT} (h : rt c w p t y d ln T M) (ht : tEq T T') (hm : mEq M M') : rt c w p t y d ln T' M' := by
  obtain ⟨hb, hs, rpo, rpa, rho, rvi, rtr, rta, rsa, rbe, rne, rde, rlo, rli, rru⟩ := h
  have hb0 := hb
  obtain ⟨b1, b2, b3, b4, b5, b6, b7, b8⟩ := hb0
  have TT' : ∀ {k n j : Nat}, (k, n) ∈ tLs → j < n → T' k j = T k j := fun {k n j} h1 h2 => ht (k, n) h1 j h2
  have MM' : ∀ {k n j : Nat}, (k, n) ∈ mLs → j < n → M' k j = M k j := fun {k n j} h1 h2 => hm.1 (k, n) h1 j h2
  refine ⟨hb, ?_, fun j hj => ?_, fun j hj => ?_, ⟨fun j hj => ?_, fun i j hi hj e => ?_⟩, fun j hj => ?_, fun j hj => ?_, ⟨fun j hj => ?_, fun j h1 h2 => ?_⟩, ⟨fun j hj => ?_, fun j h1 h2 => ?_⟩, ⟨fun j hj => ?_, fun j h1 h2 => ?_⟩, ⟨fun j hj => ?_, fun u v hu hv => ?_⟩, ⟨fun k hk => ?_, fun q a b hq ha hb' => ?_⟩, fun j hj => ?_, fun a ha => ?_, ?_⟩
  · unfold rSc
    rw [TT' (k := 1) (n := 6) (j := 0) (by decide) (by decide), TT' (k := 1) (n := 6) (j := 1) (by decide) (by decide), TT' (k := 1) (n := 6) (j := 2) (by decide) (by decide), TT' (k := 1) (n := 6) (j := 3) (by decide) (by decide), TT' (k := 1) (n := 6) (j := 4) (by decide) (by decide), TT' (k := 1) (n := 6) (j := 5) (by decide) (by decide), TT' (k := 11) (n := 2) (j := 0) (by decide) (by decide), TT' (k := 15) (n := 1) (j := 0) (by decide) (by decide), hm.2 2 (by decide), hm.2 1 (by decide), hm.2 13 (by decide), hm.2 4 (by decide), hm.2 5 (by decide), hm.2 8 (by decide), hm.2 32 (by decide), hm.2 18 (by decide)]
    exact hs
  · rw [TT' (k := 2) (n := 4) (by decide) hj, MM' (k := 56) (n := 4) (by decide) hj]; exact rpo j hj
  · rw [TT' (k := 3) (n := 7) (by decide) (by omega), MM' (k := 72) (n := 7) (by decide) (by omega)]; exact rpa j hj
  · rw [TT' (k := 4) (n := 7) (by decide) (by omega), MM' (k := 57) (n := 7) (by decide) (by omega)]; exact rho.1 j hj
  · rw [TT' (k := 4) (n := 7) (by decide) (by omega), TT' (k := 4) (n := 7) (by decide) (by omega)] at e; exact rho.2 i j hi hj e
  · rw [TT' (k := 5) (n := 56) (by decide) hj, MM' (k := 58) (n := 56) (by decide) hj]; exact rvi j hj
  · rw [TT' (k := 6) (n := 60) (j := 3 * j) (by decide) (by omega), TT' (k := 6) (n := 60) (j := 3 * j + 1) (by decide) (by omega), TT' (k := 6) (n := 60) (j := 3 * j + 2) (by decide) (by omega), MM' (k := 59) (n := 20) (by decide) (by omega), MM' (k := 60) (n := 20) (by decide) (by omega), MM' (k := 61) (n := 20) (by decide) (by omega), MM' (k := 62) (n := 20) (by decide) (by omega)]; exact rtr j hj
  · rw [TT' (k := 7) (n := 28) (by decide) (by omega), MM' (k := 63) (n := 28) (by decide) (by omega)]; exact rta.1 j hj
  · rw [TT' (k := 7) (n := 28) (by decide) h2]; exact rta.2 j h1 h2
  · rw [TT' (k := 8) (n := 28) (by decide) (by omega), MM' (k := 64) (n := 28) (by decide) (by omega)]; exact rsa.1 j hj
  · rw [TT' (k := 8) (n := 28) (by decide) h2]; exact rsa.2 j h1 h2
  · rw [TT' (k := 9) (n := 7) (by decide) (by omega), MM' (k := 65) (n := 7) (by decide) (by omega)]; exact rbe.1 j hj
  · rw [TT' (k := 9) (n := 7) (by decide) h2]; exact rbe.2 j h1 h2
  · rw [TT' (k := 10) (n := 49) (by decide) hj, MM' (k := 66) (n := 49) (by decide) hj]; exact rne.1 j hj
  · rw [TT' (k := 10) (n := 49) (j := 7 * u + v) (by decide) (by omega), TT' (k := 10) (n := 49) (j := 7 * v + u) (by decide) (by omega)]; exact rne.2 u v hu hv
  · rw [MM' (k := 67) (n := 40) (by decide) (by omega), MM' (k := 68) (n := 40) (by decide) (by omega), MM' (k := 69) (n := 40) (by decide) (by omega)]; exact rde.1 k hk
  · have e : (∃ k, k < d ∧ (M' 67) k = nI q ∧ (M' 68) k = nI a ∧ (M' 69) k = nI b) ↔ (∃ k, k < d ∧ M 67 k = nI q ∧ M 68 k = nI a ∧ M 69 k = nI b) := by
      constructor
      · rintro ⟨k, h1, h2, h3, h4⟩
        rw [MM' (k := 67) (n := 40) (by decide) (by omega)] at h2
        rw [MM' (k := 68) (n := 40) (by decide) (by omega)] at h3
        rw [MM' (k := 69) (n := 40) (by decide) (by omega)] at h4
        exact ⟨k, h1, h2, h3, h4⟩
      · rintro ⟨k, h1, h2, h3, h4⟩
        refine ⟨k, h1, ?_, ?_, ?_⟩
        · rw [MM' (k := 67) (n := 40) (by decide) (by omega)]; exact h2
        · rw [MM' (k := 68) (n := 40) (by decide) (by omega)]; exact h3
        · rw [MM' (k := 69) (n := 40) (by decide) (by omega)]; exact h4
    rw [e, TT' (k := 16) (n := 112) (j := 16 * q + 4 * a + b) (by decide) (by omega)]
    exact rde.2 q a b hq ha hb'
  · rw [TT' (k := 19) (n := 9) (by decide) hj, MM' (k := 70) (n := 9) (by decide) hj]; exact rlo j hj
  · obtain ⟨m, hm1, hm2, hm3⟩ := rli a ha
    refine ⟨m, hm1, by rw [MM' (k := 71) (n := 9) (by decide) ha]; exact hm2, fun b hb' => ?_⟩
    rw [TT' (k := 20) (n := 81) (j := 9 * a + b) (by decide) (by omega)]; exact hm3 b hb'
  · obtain ⟨ls, e, q1, q2, q3, q4, q5, q6⟩ := rru
    refine ⟨ls, e, ?_, q2, q3, by rw [TT' (k := 11) (n := 2) (j := 1) (by decide) (by decide)]; exact q4, fun k o hk => ?_, fun k a b hk => ?_⟩
    · intro l m code hl
      have hlt : l < 16 := by
        rcases Nat.lt_or_ge l ls.length with h | h
        · omega
        · rw [List.getElem?_eq_none h] at hl; cases hl
      rw [TT' (k := 12) (n := 16) (by decide) hlt, TT' (k := 13) (n := 16) (by decide) hlt, MM' (k := 75) (n := 16) (by decide) hlt, MM' (k := 76) (n := 16) (by decide) hlt, MM' (k := 77) (n := 16) (by decide) hlt]
      exact q1 l m code hl
    · have hlt : k < 400 := by
        rcases Nat.lt_or_ge k (ls.flatMap (fun q => q.2)).length with h | h
        · omega
        · rw [List.getElem?_eq_none h] at hk; cases hk
      rw [TT' (k := 14) (n := 400) (by decide) hlt]; exact q5 k o hk
    · have hlt : k < 400 := by
        rcases Nat.lt_or_ge k (rRefs (ls.flatMap (fun q => q.2))).length with h | h
        · omega
        · rw [List.getElem?_eq_none h] at hk; cases hk
      rw [MM' (k := 78) (n := 400) (by decide) hlt, MM' (k := 79) (n := 400) (by decide) hlt]; exact q6 k a b hk
theorem cps (J : am_IT) (a b n : Nat) {m : Int32} (hm : m.toNatClampNeg = n) : ∃ K, cpy2 J a b (0 : Int32).toNatClampNeg (0 : Int32).toNatClampNeg m.toNatClampNeg = K ∧ (∀ j, j < n → K b j = J a j) ∧ ∀ k, k ≠ b → K k = J k := by
  refine ⟨_, rfl, fun j hj => ?_, fun k hk => ?_⟩
  · unfold cpy2
    rw [if_pos ⟨rfl, Nat.zero_le _, by rw [hm]; show j < 0 + n; omega⟩]
    exact congrArg (J a) (by show 0 + (j - 0) = j; omega)
  · funext j
    unfold cpy2
    rw [if_neg (fun e => hk e.1)]
theorem ups (J : am_IT) (k j : Nat) (v : Int32) : ∃ K, up2 J k j v = K ∧ K k j = v ∧ (∀ i, i ≠ j → K k i = J k i) ∧ ∀ a, a ≠ k → K a = J a := ⟨_, rfl, up2_s _ _ _ _, fun i hi => up2_j _ _ hi, fun a ha => up2_k _ _ ha⟩
theorem e_cpK (I : am_IT) : ∃ K, F_X9_copyFrom_94_1 I = some K ∧ (∀ q, q ∈ tLs → ∀ j, j < q.2 → K (93 + q.1) j = I (0 + q.1) j) ∧ ∀ a, a ∉ [94, 95, 96, 97, 98, 99, 100, 101, 102, 103, 104, 105, 106, 107, 108, 109, 112, 113] → K a = I a := by
  unfold F_X9_copyFrom_94_1
  obtain ⟨K1, e1, s1, f1, g1⟩ := ups I 94 0 (I 1 0)
  rw [am_let_s, e1]
  obtain ⟨K2, e2, s2, f2, g2⟩ := ups K1 94 1 (K1 1 1)
  rw [am_let_s, e2]
  obtain ⟨K3, e3, s3, f3, g3⟩ := ups K2 94 2 (K2 1 2)
  rw [am_let_s, e3]
  obtain ⟨K4, e4, s4, f4, g4⟩ := ups K3 94 3 (K3 1 3)
  rw [am_let_s, e4]
  obtain ⟨K5, e5, s5, f5, g5⟩ := ups K4 94 4 (K4 1 4)
  rw [am_let_s, e5]
  obtain ⟨K6, e6, s6, f6, g6⟩ := ups K5 94 5 (K5 1 5)
  rw [am_let_s, e6]
  obtain ⟨K7, e7, f7, g7⟩ := cps K6 2 95 4 (m := 4) rfl
  rw [if_pos (by decide), am_let_s, e7]
  obtain ⟨K8, e8, f8, g8⟩ := cps K7 3 96 7 (m := 7) rfl
  rw [if_pos (by decide), am_let_s, e8]
  obtain ⟨K9, e9, f9, g9⟩ := cps K8 4 97 7 (m := 7) rfl
  rw [if_pos (by decide), am_let_s, e9]
  obtain ⟨K10, e10, f10, g10⟩ := cps K9 5 98 56 (m := 56) rfl
  rw [if_pos (by decide), am_let_s, e10]
  obtain ⟨K11, e11, f11, g11⟩ := cps K10 6 99 60 (m := 60) rfl
  rw [if_pos (by decide), am_let_s, e11]
  obtain ⟨K12, e12, f12, g12⟩ := cps K11 7 100 28 (m := 28) rfl
  rw [if_pos (by decide), am_let_s, e12]
  obtain ⟨K13, e13, f13, g13⟩ := cps K12 8 101 28 (m := 28) rfl
  rw [if_pos (by decide), am_let_s, e13]
  obtain ⟨K14, e14, f14, g14⟩ := cps K13 9 102 7 (m := 7) rfl
  rw [if_pos (by decide), am_let_s, e14]
  obtain ⟨K15, e15, f15, g15⟩ := cps K14 10 103 49 (m := 49) rfl
  rw [if_pos (by decide), am_let_s, e15]
  unfold F_X6_copyFrom_104_11
  obtain ⟨K16, e16, s16, f16, g16⟩ := ups K15 104 0 (K15 11 0)
  rw [am_let_s, e16]
  obtain ⟨K17, e17, s17, f17, g17⟩ := ups K16 104 1 (K16 11 1)
  rw [am_let_s, e17]
  obtain ⟨K18, e18, f18, g18⟩ := cps K17 12 105 16 (m := 16) rfl
  rw [if_pos (by decide), am_let_s, e18]
  obtain ⟨K19, e19, f19, g19⟩ := cps K18 13 106 16 (m := 16) rfl
  rw [if_pos (by decide), am_let_s, e19]
  obtain ⟨K20, e20, f20, g20⟩ := cps K19 14 107 400 (m := 400) rfl
  rw [if_pos (by decide), am_let_s, e20]
  rw [am_b1_s]
  unfold F_X1_copyFrom_108_15
  obtain ⟨K21, e21, s21, f21, g21⟩ := ups K20 108 0 (K20 15 0)
  rw [am_let_s, e21]
  obtain ⟨K22, e22, f22, g22⟩ := cps K21 16 109 112 (m := 112) rfl
  rw [if_pos (by decide), am_let_s, e22]
  rw [am_b1_s]
  unfold F_X5_copyFrom_111_18
  obtain ⟨K23, e23, f23, g23⟩ := cps K22 19 112 9 (m := 9) rfl
  rw [if_pos (by decide), am_let_s, e23]
  obtain ⟨K24, e24, f24, g24⟩ := cps K23 20 113 81 (m := 81) rfl
  rw [if_pos (by decide), am_let_s, e24]
  rw [am_b1_s]
  refine ⟨K24, rfl, ?_, ?_⟩
  · intro q hq j hj
    have hc := hq
    unfold tLs at hc
    simp only [List.mem_cons, List.not_mem_nil, or_false] at hc
    rcases hc with rfl | rfl | rfl | rfl | rfl | rfl | rfl | rfl | rfl | rfl | rfl | rfl | rfl | rfl | rfl | rfl | rfl | rfl
    · show K24 94 j = I 1 j
      have hj' : j < 6 := hj
      rcases (show j = 0 ∨ j = 1 ∨ j = 2 ∨ j = 3 ∨ j = 4 ∨ j = 5 by omega) with rfl | rfl | rfl | rfl | rfl | rfl
      · rw [g24 94 (by decide), g23 94 (by decide), g22 94 (by decide), g21 94 (by decide), g20 94 (by decide), g19 94 (by decide), g18 94 (by decide), g17 94 (by decide), g16 94 (by decide), g15 94 (by decide), g14 94 (by decide), g13 94 (by decide), g12 94 (by decide), g11 94 (by decide), g10 94 (by decide), g9 94 (by decide), g8 94 (by decide), g7 94 (by decide), f6 0 (by decide), f5 0 (by decide), f4 0 (by decide), f3 0 (by decide), f2 0 (by decide), s1]
      · rw [g24 94 (by decide), g23 94 (by decide), g22 94 (by decide), g21 94 (by decide), g20 94 (by decide), g19 94 (by decide), g18 94 (by decide), g17 94 (by decide), g16 94 (by decide), g15 94 (by decide), g14 94 (by decide), g13 94 (by decide), g12 94 (by decide), g11 94 (by decide), g10 94 (by decide), g9 94 (by decide), g8 94 (by decide), g7 94 (by decide), f6 1 (by decide), f5 1 (by decide), f4 1 (by decide), f3 1 (by decide), s2, g1 1 (by decide)]
      · rw [g24 94 (by decide), g23 94 (by decide), g22 94 (by decide), g21 94 (by decide), g20 94 (by decide), g19 94 (by decide), g18 94 (by decide), g17 94 (by decide), g16 94 (by decide), g15 94 (by decide), g14 94 (by decide), g13 94 (by decide), g12 94 (by decide), g11 94 (by decide), g10 94 (by decide), g9 94 (by decide), g8 94 (by decide), g7 94 (by decide), f6 2 (by decide), f5 2 (by decide), f4 2 (by decide), s3, g2 1 (by decide), g1 1 (by decide)]
      · rw [g24 94 (by decide), g23 94 (by decide), g22 94 (by decide), g21 94 (by decide), g20 94 (by decide), g19 94 (by decide), g18 94 (by decide), g17 94 (by decide), g16 94 (by decide), g15 94 (by decide), g14 94 (by decide), g13 94 (by decide), g12 94 (by decide), g11 94 (by decide), g10 94 (by decide), g9 94 (by decide), g8 94 (by decide), g7 94 (by decide), f6 3 (by decide), f5 3 (by decide), s4, g3 1 (by decide), g2 1 (by decide), g1 1 (by decide)]
      · rw [g24 94 (by decide), g23 94 (by decide), g22 94 (by decide), g21 94 (by decide), g20 94 (by decide), g19 94 (by decide), g18 94 (by decide), g17 94 (by decide), g16 94 (by decide), g15 94 (by decide), g14 94 (by decide), g13 94 (by decide), g12 94 (by decide), g11 94 (by decide), g10 94 (by decide), g9 94 (by decide), g8 94 (by decide), g7 94 (by decide), f6 4 (by decide), s5, g4 1 (by decide), g3 1 (by decide), g2 1 (by decide), g1 1 (by decide)]
      · rw [g24 94 (by decide), g23 94 (by decide), g22 94 (by decide), g21 94 (by decide), g20 94 (by decide), g19 94 (by decide), g18 94 (by decide), g17 94 (by decide), g16 94 (by decide), g15 94 (by decide), g14 94 (by decide), g13 94 (by decide), g12 94 (by decide), g11 94 (by decide), g10 94 (by decide), g9 94 (by decide), g8 94 (by decide), g7 94 (by decide), s6, g5 1 (by decide), g4 1 (by decide), g3 1 (by decide), g2 1 (by decide), g1 1 (by decide)]
    · show K24 95 j = I 2 j
      rw [g24 95 (by decide), g23 95 (by decide), g22 95 (by decide), g21 95 (by decide), g20 95 (by decide), g19 95 (by decide), g18 95 (by decide), g17 95 (by decide), g16 95 (by decide), g15 95 (by decide), g14 95 (by decide), g13 95 (by decide), g12 95 (by decide), g11 95 (by decide), g10 95 (by decide), g9 95 (by decide), g8 95 (by decide), f7 j hj, g6 2 (by decide), g5 2 (by decide), g4 2 (by decide), g3 2 (by decide), g2 2 (by decide), g1 2 (by decide)]
    · show K24 96 j = I 3 j
      rw [g24 96 (by decide), g23 96 (by decide), g22 96 (by decide), g21 96 (by decide), g20 96 (by decide), g19 96 (by decide), g18 96 (by decide), g17 96 (by decide), g16 96 (by decide), g15 96 (by decide), g14 96 (by decide), g13 96 (by decide), g12 96 (by decide), g11 96 (by decide), g10 96 (by decide), g9 96 (by decide), f8 j hj, g7 3 (by decide), g6 3 (by decide), g5 3 (by decide), g4 3 (by decide), g3 3 (by decide), g2 3 (by decide), g1 3 (by decide)]
    · show K24 97 j = I 4 j
      rw [g24 97 (by decide), g23 97 (by decide), g22 97 (by decide), g21 97 (by decide), g20 97 (by decide), g19 97 (by decide), g18 97 (by decide), g17 97 (by decide), g16 97 (by decide), g15 97 (by decide), g14 97 (by decide), g13 97 (by decide), g12 97 (by decide), g11 97 (by decide), g10 97 (by decide), f9 j hj, g8 4 (by decide), g7 4 (by decide), g6 4 (by decide), g5 4 (by decide), g4 4 (by decide), g3 4 (by decide), g2 4 (by decide), g1 4 (by decide)]
    · show K24 98 j = I 5 j
      rw [g24 98 (by decide), g23 98 (by decide), g22 98 (by decide), g21 98 (by decide), g20 98 (by decide), g19 98 (by decide), g18 98 (by decide), g17 98 (by decide), g16 98 (by decide), g15 98 (by decide), g14 98 (by decide), g13 98 (by decide), g12 98 (by decide), g11 98 (by decide), f10 j hj, g9 5 (by decide), g8 5 (by decide), g7 5 (by decide), g6 5 (by decide), g5 5 (by decide), g4 5 (by decide), g3 5 (by decide), g2 5 (by decide), g1 5 (by decide)]
    · show K24 99 j = I 6 j
      rw [g24 99 (by decide), g23 99 (by decide), g22 99 (by decide), g21 99 (by decide), g20 99 (by decide), g19 99 (by decide), g18 99 (by decide), g17 99 (by decide), g16 99 (by decide), g15 99 (by decide), g14 99 (by decide), g13 99 (by decide), g12 99 (by decide), f11 j hj, g10 6 (by decide), g9 6 (by decide), g8 6 (by decide), g7 6 (by decide), g6 6 (by decide), g5 6 (by decide), g4 6 (by decide), g3 6 (by decide), g2 6 (by decide), g1 6 (by decide)]
    · show K24 100 j = I 7 j
      rw [g24 100 (by decide), g23 100 (by decide), g22 100 (by decide), g21 100 (by decide), g20 100 (by decide), g19 100 (by decide), g18 100 (by decide), g17 100 (by decide), g16 100 (by decide), g15 100 (by decide), g14 100 (by decide), g13 100 (by decide), f12 j hj, g11 7 (by decide), g10 7 (by decide), g9 7 (by decide), g8 7 (by decide), g7 7 (by decide), g6 7 (by decide), g5 7 (by decide), g4 7 (by decide), g3 7 (by decide), g2 7 (by decide), g1 7 (by decide)]
    · show K24 101 j = I 8 j
      rw [g24 101 (by decide), g23 101 (by decide), g22 101 (by decide), g21 101 (by decide), g20 101 (by decide), g19 101 (by decide), g18 101 (by decide), g17 101 (by decide), g16 101 (by decide), g15 101 (by decide), g14 101 (by decide), f13 j hj, g12 8 (by decide), g11 8 (by decide), g10 8 (by decide), g9 8 (by decide), g8 8 (by decide), g7 8 (by decide), g6 8 (by decide), g5 8 (by decide), g4 8 (by decide), g3 8 (by decide), g2 8 (by decide), g1 8 (by decide)]
    · show K24 102 j = I 9 j
      rw [g24 102 (by decide), g23 102 (by decide), g22 102 (by decide), g21 102 (by decide), g20 102 (by decide), g19 102 (by decide), g18 102 (by decide), g17 102 (by decide), g16 102 (by decide), g15 102 (by decide), f14 j hj, g13 9 (by decide), g12 9 (by decide), g11 9 (by decide), g10 9 (by decide), g9 9 (by decide), g8 9 (by decide), g7 9 (by decide), g6 9 (by decide), g5 9 (by decide), g4 9 (by decide), g3 9 (by decide), g2 9 (by decide), g1 9 (by decide)]
    · show K24 103 j = I 10 j
      rw [g24 103 (by decide), g23 103 (by decide), g22 103 (by decide), g21 103 (by decide), g20 103 (by decide), g19 103 (by decide), g18 103 (by decide), g17 103 (by decide), g16 103 (by decide), f15 j hj, g14 10 (by decide), g13 10 (by decide), g12 10 (by decide), g11 10 (by decide), g10 10 (by decide), g9 10 (by decide), g8 10 (by decide), g7 10 (by decide), g6 10 (by decide), g5 10 (by decide), g4 10 (by decide), g3 10 (by decide), g2 10 (by decide), g1 10 (by decide)]
    · show K24 104 j = I 11 j
      have hj' : j < 2 := hj
      rcases (show j = 0 ∨ j = 1 by omega) with rfl | rfl
      · rw [g24 104 (by decide), g23 104 (by decide), g22 104 (by decide), g21 104 (by decide), g20 104 (by decide), g19 104 (by decide), g18 104 (by decide), f17 0 (by decide), s16, g15 11 (by decide), g14 11 (by decide), g13 11 (by decide), g12 11 (by decide), g11 11 (by decide), g10 11 (by decide), g9 11 (by decide), g8 11 (by decide), g7 11 (by decide), g6 11 (by decide), g5 11 (by decide), g4 11 (by decide), g3 11 (by decide), g2 11 (by decide), g1 11 (by decide)]
      · rw [g24 104 (by decide), g23 104 (by decide), g22 104 (by decide), g21 104 (by decide), g20 104 (by decide), g19 104 (by decide), g18 104 (by decide), s17, g16 11 (by decide), g15 11 (by decide), g14 11 (by decide), g13 11 (by decide), g12 11 (by decide), g11 11 (by decide), g10 11 (by decide), g9 11 (by decide), g8 11 (by decide), g7 11 (by decide), g6 11 (by decide), g5 11 (by decide), g4 11 (by decide), g3 11 (by decide), g2 11 (by decide), g1 11 (by decide)]
    · show K24 105 j = I 12 j
      rw [g24 105 (by decide), g23 105 (by decide), g22 105 (by decide), g21 105 (by decide), g20 105 (by decide), g19 105 (by decide), f18 j hj, g17 12 (by decide), g16 12 (by decide), g15 12 (by decide), g14 12 (by decide), g13 12 (by decide), g12 12 (by decide), g11 12 (by decide), g10 12 (by decide), g9 12 (by decide), g8 12 (by decide), g7 12 (by decide), g6 12 (by decide), g5 12 (by decide), g4 12 (by decide), g3 12 (by decide), g2 12 (by decide), g1 12 (by decide)]
    · show K24 106 j = I 13 j
      rw [g24 106 (by decide), g23 106 (by decide), g22 106 (by decide), g21 106 (by decide), g20 106 (by decide), f19 j hj, g18 13 (by decide), g17 13 (by decide), g16 13 (by decide), g15 13 (by decide), g14 13 (by decide), g13 13 (by decide), g12 13 (by decide), g11 13 (by decide), g10 13 (by decide), g9 13 (by decide), g8 13 (by decide), g7 13 (by decide), g6 13 (by decide), g5 13 (by decide), g4 13 (by decide), g3 13 (by decide), g2 13 (by decide), g1 13 (by decide)]
    · show K24 107 j = I 14 j
      rw [g24 107 (by decide), g23 107 (by decide), g22 107 (by decide), g21 107 (by decide), f20 j hj, g19 14 (by decide), g18 14 (by decide), g17 14 (by decide), g16 14 (by decide), g15 14 (by decide), g14 14 (by decide), g13 14 (by decide), g12 14 (by decide), g11 14 (by decide), g10 14 (by decide), g9 14 (by decide), g8 14 (by decide), g7 14 (by decide), g6 14 (by decide), g5 14 (by decide), g4 14 (by decide), g3 14 (by decide), g2 14 (by decide), g1 14 (by decide)]
    · show K24 108 j = I 15 j
      have hj' : j < 1 := hj
      rcases (show j = 0 by omega) with rfl
      · rw [g24 108 (by decide), g23 108 (by decide), g22 108 (by decide), s21, g20 15 (by decide), g19 15 (by decide), g18 15 (by decide), g17 15 (by decide), g16 15 (by decide), g15 15 (by decide), g14 15 (by decide), g13 15 (by decide), g12 15 (by decide), g11 15 (by decide), g10 15 (by decide), g9 15 (by decide), g8 15 (by decide), g7 15 (by decide), g6 15 (by decide), g5 15 (by decide), g4 15 (by decide), g3 15 (by decide), g2 15 (by decide), g1 15 (by decide)]
    · show K24 109 j = I 16 j
      rw [g24 109 (by decide), g23 109 (by decide), f22 j hj, g21 16 (by decide), g20 16 (by decide), g19 16 (by decide), g18 16 (by decide), g17 16 (by decide), g16 16 (by decide), g15 16 (by decide), g14 16 (by decide), g13 16 (by decide), g12 16 (by decide), g11 16 (by decide), g10 16 (by decide), g9 16 (by decide), g8 16 (by decide), g7 16 (by decide), g6 16 (by decide), g5 16 (by decide), g4 16 (by decide), g3 16 (by decide), g2 16 (by decide), g1 16 (by decide)]
    · show K24 112 j = I 19 j
      rw [g24 112 (by decide), f23 j hj, g22 19 (by decide), g21 19 (by decide), g20 19 (by decide), g19 19 (by decide), g18 19 (by decide), g17 19 (by decide), g16 19 (by decide), g15 19 (by decide), g14 19 (by decide), g13 19 (by decide), g12 19 (by decide), g11 19 (by decide), g10 19 (by decide), g9 19 (by decide), g8 19 (by decide), g7 19 (by decide), g6 19 (by decide), g5 19 (by decide), g4 19 (by decide), g3 19 (by decide), g2 19 (by decide), g1 19 (by decide)]
    · show K24 113 j = I 20 j
      rw [f24 j hj, g23 20 (by decide), g22 20 (by decide), g21 20 (by decide), g20 20 (by decide), g19 20 (by decide), g18 20 (by decide), g17 20 (by decide), g16 20 (by decide), g15 20 (by decide), g14 20 (by decide), g13 20 (by decide), g12 20 (by decide), g11 20 (by decide), g10 20 (by decide), g9 20 (by decide), g8 20 (by decide), g7 20 (by decide), g6 20 (by decide), g5 20 (by decide), g4 20 (by decide), g3 20 (by decide), g2 20 (by decide), g1 20 (by decide)]
  · intro a ha
    simp only [List.mem_cons, List.not_mem_nil, or_false, not_or] at ha
    obtain ⟨n1, n2, n3, n4, n5, n6, n7, n8, n9, n10, n11, n12, n13, n14, n15, n16, n19, n20⟩ := ha
    rw [g24 a n20, g23 a n19, g22 a n16, g21 a n15, g20 a n14, g19 a n13, g18 a n12, g17 a n11, g16 a n11, g15 a n10, g14 a n9, g13 a n8, g12 a n7, g11 a n6, g10 a n5, g9 a n4, g8 a n3, g7 a n2, g6 a n1, g5 a n1, g4 a n1, g3 a n1, g2 a n1, g1 a n1]
theorem e_cpB (I : am_IT) : ∃ K, F_X9_copyFrom_1_94 I = some K ∧ (∀ q, q ∈ tLs → ∀ j, j < q.2 → K (0 + q.1) j = I (93 + q.1) j) ∧ ∀ a, a ∉ [1, 2, 3, 4, 5, 6, 7, 8, 9, 10, 11, 12, 13, 14, 15, 16, 19, 20] → K a = I a := by
  unfold F_X9_copyFrom_1_94
  obtain ⟨K1, e1, s1, f1, g1⟩ := ups I 1 0 (I 94 0)
  rw [am_let_s, e1]
  obtain ⟨K2, e2, s2, f2, g2⟩ := ups K1 1 1 (K1 94 1)
  rw [am_let_s, e2]
  obtain ⟨K3, e3, s3, f3, g3⟩ := ups K2 1 2 (K2 94 2)
  rw [am_let_s, e3]
  obtain ⟨K4, e4, s4, f4, g4⟩ := ups K3 1 3 (K3 94 3)
  rw [am_let_s, e4]
  obtain ⟨K5, e5, s5, f5, g5⟩ := ups K4 1 4 (K4 94 4)
  rw [am_let_s, e5]
  obtain ⟨K6, e6, s6, f6, g6⟩ := ups K5 1 5 (K5 94 5)
  rw [am_let_s, e6]
  obtain ⟨K7, e7, f7, g7⟩ := cps K6 95 2 4 (m := 4) rfl
  rw [if_pos (by decide), am_let_s, e7]
  obtain ⟨K8, e8, f8, g8⟩ := cps K7 96 3 7 (m := 7) rfl
  rw [if_pos (by decide), am_let_s, e8]
  obtain ⟨K9, e9, f9, g9⟩ := cps K8 97 4 7 (m := 7) rfl
  rw [if_pos (by decide), am_let_s, e9]
  obtain ⟨K10, e10, f10, g10⟩ := cps K9 98 5 56 (m := 56) rfl
  rw [if_pos (by decide), am_let_s, e10]
  obtain ⟨K11, e11, f11, g11⟩ := cps K10 99 6 60 (m := 60) rfl
  rw [if_pos (by decide), am_let_s, e11]
  obtain ⟨K12, e12, f12, g12⟩ := cps K11 100 7 28 (m := 28) rfl
  rw [if_pos (by decide), am_let_s, e12]
  obtain ⟨K13, e13, f13, g13⟩ := cps K12 101 8 28 (m := 28) rfl
  rw [if_pos (by decide), am_let_s, e13]
  obtain ⟨K14, e14, f14, g14⟩ := cps K13 102 9 7 (m := 7) rfl
  rw [if_pos (by decide), am_let_s, e14]
  obtain ⟨K15, e15, f15, g15⟩ := cps K14 103 10 49 (m := 49) rfl
  rw [if_pos (by decide), am_let_s, e15]
  unfold F_X6_copyFrom_11_104
  obtain ⟨K16, e16, s16, f16, g16⟩ := ups K15 11 0 (K15 104 0)
  rw [am_let_s, e16]
  obtain ⟨K17, e17, s17, f17, g17⟩ := ups K16 11 1 (K16 104 1)
  rw [am_let_s, e17]
  obtain ⟨K18, e18, f18, g18⟩ := cps K17 105 12 16 (m := 16) rfl
  rw [if_pos (by decide), am_let_s, e18]
  obtain ⟨K19, e19, f19, g19⟩ := cps K18 106 13 16 (m := 16) rfl
  rw [if_pos (by decide), am_let_s, e19]
  obtain ⟨K20, e20, f20, g20⟩ := cps K19 107 14 400 (m := 400) rfl
  rw [if_pos (by decide), am_let_s, e20]
  rw [am_b1_s]
  unfold F_X1_copyFrom_15_108
  obtain ⟨K21, e21, s21, f21, g21⟩ := ups K20 15 0 (K20 108 0)
  rw [am_let_s, e21]
  obtain ⟨K22, e22, f22, g22⟩ := cps K21 109 16 112 (m := 112) rfl
  rw [if_pos (by decide), am_let_s, e22]
  rw [am_b1_s]
  unfold F_X5_copyFrom_18_111
  obtain ⟨K23, e23, f23, g23⟩ := cps K22 112 19 9 (m := 9) rfl
  rw [if_pos (by decide), am_let_s, e23]
  obtain ⟨K24, e24, f24, g24⟩ := cps K23 113 20 81 (m := 81) rfl
  rw [if_pos (by decide), am_let_s, e24]
  rw [am_b1_s]
  refine ⟨K24, rfl, ?_, ?_⟩
  · intro q hq j hj
    have hc := hq
    unfold tLs at hc
    simp only [List.mem_cons, List.not_mem_nil, or_false] at hc
    rcases hc with rfl | rfl | rfl | rfl | rfl | rfl | rfl | rfl | rfl | rfl | rfl | rfl | rfl | rfl | rfl | rfl | rfl | rfl
    · show K24 1 j = I 94 j
      have hj' : j < 6 := hj
      rcases (show j = 0 ∨ j = 1 ∨ j = 2 ∨ j = 3 ∨ j = 4 ∨ j = 5 by omega) with rfl | rfl | rfl | rfl | rfl | rfl
      · rw [g24 1 (by decide), g23 1 (by decide), g22 1 (by decide), g21 1 (by decide), g20 1 (by decide), g19 1 (by decide), g18 1 (by decide), g17 1 (by decide), g16 1 (by decide), g15 1 (by decide), g14 1 (by decide), g13 1 (by decide), g12 1 (by decide), g11 1 (by decide), g10 1 (by decide), g9 1 (by decide), g8 1 (by decide), g7 1 (by decide), f6 0 (by decide), f5 0 (by decide), f4 0 (by decide), f3 0 (by decide), f2 0 (by decide), s1]
      · rw [g24 1 (by decide), g23 1 (by decide), g22 1 (by decide), g21 1 (by decide), g20 1 (by decide), g19 1 (by decide), g18 1 (by decide), g17 1 (by decide), g16 1 (by decide), g15 1 (by decide), g14 1 (by decide), g13 1 (by decide), g12 1 (by decide), g11 1 (by decide), g10 1 (by decide), g9 1 (by decide), g8 1 (by decide), g7 1 (by decide), f6 1 (by decide), f5 1 (by decide), f4 1 (by decide), f3 1 (by decide), s2, g1 94 (by decide)]
      · rw [g24 1 (by decide), g23 1 (by decide), g22 1 (by decide), g21 1 (by decide), g20 1 (by decide), g19 1 (by decide), g18 1 (by decide), g17 1 (by decide), g16 1 (by decide), g15 1 (by decide), g14 1 (by decide), g13 1 (by decide), g12 1 (by decide), g11 1 (by decide), g10 1 (by decide), g9 1 (by decide), g8 1 (by decide), g7 1 (by decide), f6 2 (by decide), f5 2 (by decide), f4 2 (by decide), s3, g2 94 (by decide), g1 94 (by decide)]
      · rw [g24 1 (by decide), g23 1 (by decide), g22 1 (by decide), g21 1 (by decide), g20 1 (by decide), g19 1 (by decide), g18 1 (by decide), g17 1 (by decide), g16 1 (by decide), g15 1 (by decide), g14 1 (by decide), g13 1 (by decide), g12 1 (by decide), g11 1 (by decide), g10 1 (by decide), g9 1 (by decide), g8 1 (by decide), g7 1 (by decide), f6 3 (by decide), f5 3 (by decide), s4, g3 94 (by decide), g2 94 (by decide), g1 94 (by decide)]
      · rw [g24 1 (by decide), g23 1 (by decide), g22 1 (by decide), g21 1 (by decide), g20 1 (by decide), g19 1 (by decide), g18 1 (by decide), g17 1 (by decide), g16 1 (by decide), g15 1 (by decide), g14 1 (by decide), g13 1 (by decide), g12 1 (by decide), g11 1 (by decide), g10 1 (by decide), g9 1 (by decide), g8 1 (by decide), g7 1 (by decide), f6 4 (by decide), s5, g4 94 (by decide), g3 94 (by decide), g2 94 (by decide), g1 94 (by decide)]
      · rw [g24 1 (by decide), g23 1 (by decide), g22 1 (by decide), g21 1 (by decide), g20 1 (by decide), g19 1 (by decide), g18 1 (by decide), g17 1 (by decide), g16 1 (by decide), g15 1 (by decide), g14 1 (by decide), g13 1 (by decide), g12 1 (by decide), g11 1 (by decide), g10 1 (by decide), g9 1 (by decide), g8 1 (by decide), g7 1 (by decide), s6, g5 94 (by decide), g4 94 (by decide), g3 94 (by decide), g2 94 (by decide), g1 94 (by decide)]
    · show K24 2 j = I 95 j
      rw [g24 2 (by decide), g23 2 (by decide), g22 2 (by decide), g21 2 (by decide), g20 2 (by decide), g19 2 (by decide), g18 2 (by decide), g17 2 (by decide), g16 2 (by decide), g15 2 (by decide), g14 2 (by decide), g13 2 (by decide), g12 2 (by decide), g11 2 (by decide), g10 2 (by decide), g9 2 (by decide), g8 2 (by decide), f7 j hj, g6 95 (by decide), g5 95 (by decide), g4 95 (by decide), g3 95 (by decide), g2 95 (by decide), g1 95 (by decide)]
    · show K24 3 j = I 96 j
      rw [g24 3 (by decide), g23 3 (by decide), g22 3 (by decide), g21 3 (by decide), g20 3 (by decide), g19 3 (by decide), g18 3 (by decide), g17 3 (by decide), g16 3 (by decide), g15 3 (by decide), g14 3 (by decide), g13 3 (by decide), g12 3 (by decide), g11 3 (by decide), g10 3 (by decide), g9 3 (by decide), f8 j hj, g7 96 (by decide), g6 96 (by decide), g5 96 (by decide), g4 96 (by decide), g3 96 (by decide), g2 96 (by decide), g1 96 (by decide)]
    · show K24 4 j = I 97 j
      rw [g24 4 (by decide), g23 4 (by decide), g22 4 (by decide), g21 4 (by decide), g20 4 (by decide), g19 4 (by decide), g18 4 (by decide), g17 4 (by decide), g16 4 (by decide), g15 4 (by decide), g14 4 (by decide), g13 4 (by decide), g12 4 (by decide), g11 4 (by decide), g10 4 (by decide), f9 j hj, g8 97 (by decide), g7 97 (by decide), g6 97 (by decide), g5 97 (by decide), g4 97 (by decide), g3 97 (by decide), g2 97 (by decide), g1 97 (by decide)]
    · show K24 5 j = I 98 j
      rw [g24 5 (by decide), g23 5 (by decide), g22 5 (by decide), g21 5 (by decide), g20 5 (by decide), g19 5 (by decide), g18 5 (by decide), g17 5 (by decide), g16 5 (by decide), g15 5 (by decide), g14 5 (by decide), g13 5 (by decide), g12 5 (by decide), g11 5 (by decide), f10 j hj, g9 98 (by decide), g8 98 (by decide), g7 98 (by decide), g6 98 (by decide), g5 98 (by decide), g4 98 (by decide), g3 98 (by decide), g2 98 (by decide), g1 98 (by decide)]
    · show K24 6 j = I 99 j
      rw [g24 6 (by decide), g23 6 (by decide), g22 6 (by decide), g21 6 (by decide), g20 6 (by decide), g19 6 (by decide), g18 6 (by decide), g17 6 (by decide), g16 6 (by decide), g15 6 (by decide), g14 6 (by decide), g13 6 (by decide), g12 6 (by decide), f11 j hj, g10 99 (by decide), g9 99 (by decide), g8 99 (by decide), g7 99 (by decide), g6 99 (by decide), g5 99 (by decide), g4 99 (by decide), g3 99 (by decide), g2 99 (by decide), g1 99 (by decide)]
    · show K24 7 j = I 100 j
      rw [g24 7 (by decide), g23 7 (by decide), g22 7 (by decide), g21 7 (by decide), g20 7 (by decide), g19 7 (by decide), g18 7 (by decide), g17 7 (by decide), g16 7 (by decide), g15 7 (by decide), g14 7 (by decide), g13 7 (by decide), f12 j hj, g11 100 (by decide), g10 100 (by decide), g9 100 (by decide), g8 100 (by decide), g7 100 (by decide), g6 100 (by decide), g5 100 (by decide), g4 100 (by decide), g3 100 (by decide), g2 100 (by decide), g1 100 (by decide)]
    · show K24 8 j = I 101 j
      rw [g24 8 (by decide), g23 8 (by decide), g22 8 (by decide), g21 8 (by decide), g20 8 (by decide), g19 8 (by decide), g18 8 (by decide), g17 8 (by decide), g16 8 (by decide), g15 8 (by decide), g14 8 (by decide), f13 j hj, g12 101 (by decide), g11 101 (by decide), g10 101 (by decide), g9 101 (by decide), g8 101 (by decide), g7 101 (by decide), g6 101 (by decide), g5 101 (by decide), g4 101 (by decide), g3 101 (by decide), g2 101 (by decide), g1 101 (by decide)]
    · show K24 9 j = I 102 j
      rw [g24 9 (by decide), g23 9 (by decide), g22 9 (by decide), g21 9 (by decide), g20 9 (by decide), g19 9 (by decide), g18 9 (by decide), g17 9 (by decide), g16 9 (by decide), g15 9 (by decide), f14 j hj, g13 102 (by decide), g12 102 (by decide), g11 102 (by decide), g10 102 (by decide), g9 102 (by decide), g8 102 (by decide), g7 102 (by decide), g6 102 (by decide), g5 102 (by decide), g4 102 (by decide), g3 102 (by decide), g2 102 (by decide), g1 102 (by decide)]
    · show K24 10 j = I 103 j
      rw [g24 10 (by decide), g23 10 (by decide), g22 10 (by decide), g21 10 (by decide), g20 10 (by decide), g19 10 (by decide), g18 10 (by decide), g17 10 (by decide), g16 10 (by decide), f15 j hj, g14 103 (by decide), g13 103 (by decide), g12 103 (by decide), g11 103 (by decide), g10 103 (by decide), g9 103 (by decide), g8 103 (by decide), g7 103 (by decide), g6 103 (by decide), g5 103 (by decide), g4 103 (by decide), g3 103 (by decide), g2 103 (by decide), g1 103 (by decide)]
    · show K24 11 j = I 104 j
      have hj' : j < 2 := hj
      rcases (show j = 0 ∨ j = 1 by omega) with rfl | rfl
      · rw [g24 11 (by decide), g23 11 (by decide), g22 11 (by decide), g21 11 (by decide), g20 11 (by decide), g19 11 (by decide), g18 11 (by decide), f17 0 (by decide), s16, g15 104 (by decide), g14 104 (by decide), g13 104 (by decide), g12 104 (by decide), g11 104 (by decide), g10 104 (by decide), g9 104 (by decide), g8 104 (by decide), g7 104 (by decide), g6 104 (by decide), g5 104 (by decide), g4 104 (by decide), g3 104 (by decide), g2 104 (by decide), g1 104 (by decide)]
      · rw [g24 11 (by decide), g23 11 (by decide), g22 11 (by decide), g21 11 (by decide), g20 11 (by decide), g19 11 (by decide), g18 11 (by decide), s17, g16 104 (by decide), g15 104 (by decide), g14 104 (by decide), g13 104 (by decide), g12 104 (by decide), g11 104 (by decide), g10 104 (by decide), g9 104 (by decide), g8 104 (by decide), g7 104 (by decide), g6 104 (by decide), g5 104 (by decide), g4 104 (by decide), g3 104 (by decide), g2 104 (by decide), g1 104 (by decide)]
    · show K24 12 j = I 105 j
      rw [g24 12 (by decide), g23 12 (by decide), g22 12 (by decide), g21 12 (by decide), g20 12 (by decide), g19 12 (by decide), f18 j hj, g17 105 (by decide), g16 105 (by decide), g15 105 (by decide), g14 105 (by decide), g13 105 (by decide), g12 105 (by decide), g11 105 (by decide), g10 105 (by decide), g9 105 (by decide), g8 105 (by decide), g7 105 (by decide), g6 105 (by decide), g5 105 (by decide), g4 105 (by decide), g3 105 (by decide), g2 105 (by decide), g1 105 (by decide)]
    · show K24 13 j = I 106 j
      rw [g24 13 (by decide), g23 13 (by decide), g22 13 (by decide), g21 13 (by decide), g20 13 (by decide), f19 j hj, g18 106 (by decide), g17 106 (by decide), g16 106 (by decide), g15 106 (by decide), g14 106 (by decide), g13 106 (by decide), g12 106 (by decide), g11 106 (by decide), g10 106 (by decide), g9 106 (by decide), g8 106 (by decide), g7 106 (by decide), g6 106 (by decide), g5 106 (by decide), g4 106 (by decide), g3 106 (by decide), g2 106 (by decide), g1 106 (by decide)]
    · show K24 14 j = I 107 j
      rw [g24 14 (by decide), g23 14 (by decide), g22 14 (by decide), g21 14 (by decide), f20 j hj, g19 107 (by decide), g18 107 (by decide), g17 107 (by decide), g16 107 (by decide), g15 107 (by decide), g14 107 (by decide), g13 107 (by decide), g12 107 (by decide), g11 107 (by decide), g10 107 (by decide), g9 107 (by decide), g8 107 (by decide), g7 107 (by decide), g6 107 (by decide), g5 107 (by decide), g4 107 (by decide), g3 107 (by decide), g2 107 (by decide), g1 107 (by decide)]
    · show K24 15 j = I 108 j
      have hj' : j < 1 := hj
      rcases (show j = 0 by omega) with rfl
      · rw [g24 15 (by decide), g23 15 (by decide), g22 15 (by decide), s21, g20 108 (by decide), g19 108 (by decide), g18 108 (by decide), g17 108 (by decide), g16 108 (by decide), g15 108 (by decide), g14 108 (by decide), g13 108 (by decide), g12 108 (by decide), g11 108 (by decide), g10 108 (by decide), g9 108 (by decide), g8 108 (by decide), g7 108 (by decide), g6 108 (by decide), g5 108 (by decide), g4 108 (by decide), g3 108 (by decide), g2 108 (by decide), g1 108 (by decide)]
    · show K24 16 j = I 109 j
      rw [g24 16 (by decide), g23 16 (by decide), f22 j hj, g21 109 (by decide), g20 109 (by decide), g19 109 (by decide), g18 109 (by decide), g17 109 (by decide), g16 109 (by decide), g15 109 (by decide), g14 109 (by decide), g13 109 (by decide), g12 109 (by decide), g11 109 (by decide), g10 109 (by decide), g9 109 (by decide), g8 109 (by decide), g7 109 (by decide), g6 109 (by decide), g5 109 (by decide), g4 109 (by decide), g3 109 (by decide), g2 109 (by decide), g1 109 (by decide)]
    · show K24 19 j = I 112 j
      rw [g24 19 (by decide), f23 j hj, g22 112 (by decide), g21 112 (by decide), g20 112 (by decide), g19 112 (by decide), g18 112 (by decide), g17 112 (by decide), g16 112 (by decide), g15 112 (by decide), g14 112 (by decide), g13 112 (by decide), g12 112 (by decide), g11 112 (by decide), g10 112 (by decide), g9 112 (by decide), g8 112 (by decide), g7 112 (by decide), g6 112 (by decide), g5 112 (by decide), g4 112 (by decide), g3 112 (by decide), g2 112 (by decide), g1 112 (by decide)]
    · show K24 20 j = I 113 j
      rw [f24 j hj, g23 113 (by decide), g22 113 (by decide), g21 113 (by decide), g20 113 (by decide), g19 113 (by decide), g18 113 (by decide), g17 113 (by decide), g16 113 (by decide), g15 113 (by decide), g14 113 (by decide), g13 113 (by decide), g12 113 (by decide), g11 113 (by decide), g10 113 (by decide), g9 113 (by decide), g8 113 (by decide), g7 113 (by decide), g6 113 (by decide), g5 113 (by decide), g4 113 (by decide), g3 113 (by decide), g2 113 (by decide), g1 113 (by decide)]
  · intro a ha
    simp only [List.mem_cons, List.not_mem_nil, or_false, not_or] at ha
    obtain ⟨n1, n2, n3, n4, n5, n6, n7, n8, n9, n10, n11, n12, n13, n14, n15, n16, n19, n20⟩ := ha
    rw [g24 a n20, g23 a n19, g22 a n16, g21 a n15, g20 a n14, g19 a n13, g18 a n12, g17 a n11, g16 a n11, g15 a n10, g14 a n9, g13 a n8, g12 a n7, g11 a n6, g10 a n5, g9 a n4, g8 a n3, g7 a n2, g6 a n1, g5 a n1, g4 a n1, g3 a n1, g2 a n1, g1 a n1]
