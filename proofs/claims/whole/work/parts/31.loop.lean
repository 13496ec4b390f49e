def am_QL : Option Value → Nat → am_PT → am_IT → Prop := fun v _ _ _ => v = some (.int 1)
theorem nI_m6 {L : Nat} (hL : L ≤ 3072) {i : Nat} (hi : i ≤ 3072) : (nI L - 6 < nI i) ↔ L < i + 6 := by
  rw [Int32.lt_iff_toInt_lt, show (6 : Int32) = nI 6 from rfl, pk_sub_toInt (by omega) (by omega), nI_toInt (by omega)]
  omega
set_option maxRecDepth 100000 in
set_option maxHeartbeats 4000000 in
theorem law_body {RI : Bool → am_IT → Prop} (o0 : am_op0 RI) (o1 : am_op1 RI) (o2 : am_op2 RI) (o3 : am_op3 RI) (o4 : am_op4 RI) (o5 : am_op5 RI) (o6 : am_op6 RI) (o7 : am_op7 RI) (o8 : am_op8 RI) (o9 : am_op9 RI) (o10 : am_op10 RI) (o11 : am_op11 RI) (o12 : am_op12 RI) (o13 : am_op13 RI) (o14 : am_op14 RI) (o15 : am_op15 RI) (o16 : am_op16 RI) (o17 : am_op17 RI) (o18 : am_op18 RI) (o19 : am_op19 RI) (o20 : am_op20 RI) (o21 : am_op21 RI) (o22 : am_op22 RI) (o23 : am_op23 RI) (o24 : am_op24 RI) (o25 : am_op25 RI) (o26 : am_op26 RI) (o27 : am_op27 RI) (o28 : am_op28 RI) (o29 : am_op29 RI) (o30 : am_op30 RI) (o31 : am_op31 RI) (o32 : am_op32 RI) (o33 : am_op33 RI) {sc : am_ST} {l : Launch} {b : Bool} {i N : Nat} {P : am_PT} {I : am_IT} {nc ns : Nat} (hi : i + 6 ≤ sc.1) (hL : sc.1 ≤ 3072) (hPP : am_PP b N P) (hR : RI b I) (hn : am_nn i nc ns)
    (next : ∀ (b1 : Bool) (N1 : Nat) (P1 : am_PT) (I2 : am_IT) (nc1 ns1 : Nat), am_PP b1 N1 P1 → RI b1 I2 → am_nn (i + 6) nc1 ns1 → G sc l 2048 600000 7302250 mL_law am_QL 1304 [.ref 1000030, .ref 0, .ref 55, .int (nI i)] [] N1 P1 I2 nc1 ns1) : G sc l 2048 600000 7302250 mL_law am_QL 27 [.ref 1000030, .ref 0, .ref 55, .int (nI i)] [] N P I nc ns := by
  refine g_aload_n (pc := 27) dL_law_27 rfl rfl ?_
  refine g_iload_n (pc := 28) dL_law_28 rfl rfl ?_
  refine g_sld (pc := 29) (j := i) rfl rfl (by omega) (Nat.lt_of_le_of_lt hL (by decide)) dL_law_29 ?_
  refine g_bipush (pc := 30) (v := 63) dL_law_30 rfl ?_
  refine g_iand (pc := 32) dL_law_32 ?_
  obtain ⟨j, hj, ej⟩ := pk_andE (sc.2 i) (m := 63) 6 (by decide)
  rw [ej]
  have hP := hPP.1
  have hc : nc ≤ 600000 := by have := hn.1; omega
  have hs : ns ≤ 7302250 := by have := hn.2; omega
  have nx : ∀ I2 : am_IT, RI b I2 → G sc l 2048 600000 7302250 mL_law am_QL 1304 [.ref 1000030, .ref 0, .ref 55, .int (nI i)] [] N P I2 nc ns := fun I2 h => next b N P I2 nc ns hPP h ⟨by have := hn.1; omega, by have := hn.2; omega⟩
  by_cases hlt : j < 34
  · rcases (show j = 0 ∨ j = 1 ∨ j = 2 ∨ j = 3 ∨ j = 4 ∨ j = 5 ∨ j = 6 ∨ j = 7 ∨ j = 8 ∨ j = 9 ∨ j = 10 ∨ j = 11 ∨ j = 12 ∨ j = 13 ∨ j = 14 ∨ j = 15 ∨ j = 16 ∨ j = 17 ∨ j = 18 ∨ j = 19 ∨ j = 20 ∨ j = 21 ∨ j = 22 ∨ j = 23 ∨ j = 24 ∨ j = 25 ∨ j = 26 ∨ j = 27 ∨ j = 28 ∨ j = 29 ∨ j = 30 ∨ j = 31 ∨ j = 32 ∨ j = 33 by omega) with rfl | rfl | rfl | rfl | rfl | rfl | rfl | rfl | rfl | rfl | rfl | rfl | rfl | rfl | rfl | rfl | rfl | rfl | rfl | rfl | rfl | rfl | rfl | rfl | rfl | rfl | rfl | rfl | rfl | rfl | rfl | rfl | rfl | rfl
    · refine g_tableIn (pc := 33) (tgt := 184) dL_law_33 (by decide) (by decide) (by rfl) rfl ?_
      exact law_c0 o0 hi hL hP hR hc hs nx
    · refine g_tableIn (pc := 33) (tgt := 207) dL_law_33 (by decide) (by decide) (by rfl) rfl ?_
      exact law_c1 o1 hi hL hP hR hc hs nx
    · refine g_tableIn (pc := 33) (tgt := 230) dL_law_33 (by decide) (by decide) (by rfl) rfl ?_
      exact law_c2 o2 hi hL hP hR hc hs nx
    · refine g_tableIn (pc := 33) (tgt := 263) dL_law_33 (by decide) (by decide) (by rfl) rfl ?_
      exact law_c3 o3 hi hL hP hR hc hs nx
    · refine g_tableIn (pc := 33) (tgt := 286) dL_law_33 (by decide) (by decide) (by rfl) rfl ?_
      exact law_c4 o4 hi hL hP hR hc hs nx
    · refine g_tableIn (pc := 33) (tgt := 309) dL_law_33 (by decide) (by decide) (by rfl) rfl ?_
      exact law_c5 o5 hi hL hP hR hc hs nx
    · refine g_tableIn (pc := 33) (tgt := 342) dL_law_33 (by decide) (by decide) (by rfl) rfl ?_
      exact law_c6 o6 hi hL hP hR hc hs nx
    · refine g_tableIn (pc := 33) (tgt := 385) dL_law_33 (by decide) (by decide) (by rfl) rfl ?_
      exact law_c7 o7 hi hL hP hR hc hs nx
    · refine g_tableIn (pc := 33) (tgt := 428) dL_law_33 (by decide) (by decide) (by rfl) rfl ?_
      exact law_c8 o8 hi hL hP hR hc hs nx
    · refine g_tableIn (pc := 33) (tgt := 481) dL_law_33 (by decide) (by decide) (by rfl) rfl ?_
      exact law_c9 o9 hi hL hP hR hc hs nx
    · refine g_tableIn (pc := 33) (tgt := 540) dL_law_33 (by decide) (by decide) (by rfl) rfl ?_
      exact law_c10 o10 hi hL hP hR hc hs nx
    · refine g_tableIn (pc := 33) (tgt := 573) dL_law_33 (by decide) (by decide) (by rfl) rfl ?_
      exact law_c11 o11 hi hL hP hR hc hs nx
    · refine g_tableIn (pc := 33) (tgt := 636) dL_law_33 (by decide) (by decide) (by rfl) rfl ?_
      exact law_c12 o12 hi hL hP hR hc hs nx
    · refine g_tableIn (pc := 33) (tgt := 659) dL_law_33 (by decide) (by decide) (by rfl) rfl ?_
      exact law_c13 o13 hi hL hP hR hc hs nx
    · refine g_tableIn (pc := 33) (tgt := 672) dL_law_33 (by decide) (by decide) (by rfl) rfl ?_
      exact law_c14 o14 hi hL hP hR hc hs nx
    · refine g_tableIn (pc := 33) (tgt := 695) dL_law_33 (by decide) (by decide) (by rfl) rfl ?_
      exact law_c15 o15 hi hL hP hR hc hs nx
    · refine g_tableIn (pc := 33) (tgt := 728) dL_law_33 (by decide) (by decide) (by rfl) rfl ?_
      exact law_c16 o16 hi hL hP hR hc hs nx
    · refine g_tableIn (pc := 33) (tgt := 751) dL_law_33 (by decide) (by decide) (by rfl) rfl ?_
      exact law_c17 o17 hi hL hP hR hc hs nx
    · refine g_tableIn (pc := 33) (tgt := 784) dL_law_33 (by decide) (by decide) (by rfl) rfl ?_
      exact law_c18 o18 hi hL hP hR hc hs nx
    · refine g_tableIn (pc := 33) (tgt := 807) dL_law_33 (by decide) (by decide) (by rfl) rfl ?_
      exact law_c19 o19 hi hL hP hR hc hs nx
    · refine g_tableIn (pc := 33) (tgt := 840) dL_law_33 (by decide) (by decide) (by rfl) rfl ?_
      exact law_c20 o20 hi hL hP hR hc hs nx
    · refine g_tableIn (pc := 33) (tgt := 863) dL_law_33 (by decide) (by decide) (by rfl) rfl ?_
      exact law_c21 o21 hi hL hP hR hc hs nx
    · refine g_tableIn (pc := 33) (tgt := 876) dL_law_33 (by decide) (by decide) (by rfl) rfl ?_
      exact law_c22 o22 hi hL hP hR hc hs nx
    · refine g_tableIn (pc := 33) (tgt := 889) dL_law_33 (by decide) (by decide) (by rfl) rfl ?_
      exact law_c23 o23 hi hL hP hR hc hs nx
    · refine g_tableIn (pc := 33) (tgt := 952) dL_law_33 (by decide) (by decide) (by rfl) rfl ?_
      exact law_c24 o24 hi hL hP hR hc hs nx
    · refine g_tableIn (pc := 33) (tgt := 975) dL_law_33 (by decide) (by decide) (by rfl) rfl ?_
      exact law_c25 o25 hi hL hP hR hc hs nx
    · refine g_tableIn (pc := 33) (tgt := 988) dL_law_33 (by decide) (by decide) (by rfl) rfl ?_
      exact law_c26 o26 hi hL hP hR hc hs nx
    · refine g_tableIn (pc := 33) (tgt := 1031) dL_law_33 (by decide) (by decide) (by rfl) rfl ?_
      exact law_c27 o27 hi hL hP hR hc hs nx
    · refine g_tableIn (pc := 33) (tgt := 1074) dL_law_33 (by decide) (by decide) (by rfl) rfl ?_
      exact law_c28 o28 hi hL hP hR hc hs nx
    · refine g_tableIn (pc := 33) (tgt := 1107) dL_law_33 (by decide) (by decide) (by rfl) rfl ?_
      exact law_c29 o29 hi hL hP hR hc hs nx
    · refine g_tableIn (pc := 33) (tgt := 1166) dL_law_33 (by decide) (by decide) (by rfl) rfl ?_
      exact law_c30 o30 hi hL hP hR hc hs nx
    · refine g_tableIn (pc := 33) (tgt := 1219) dL_law_33 (by decide) (by decide) (by rfl) rfl ?_
      exact law_c31 o31 hi hL hP hR hc hs nx
    · refine g_tableIn (pc := 33) (tgt := 1242) dL_law_33 (by decide) (by decide) (by rfl) rfl ?_
      exact law_c32 o32 hi hL hPP hR hn next
    · refine g_tableIn (pc := 33) (tgt := 1281) dL_law_33 (by decide) (by decide) (by rfl) rfl ?_
      exact law_c33 o33 hi hL hP hR hc hs nx
  · have h2 : (nI j).toInt = (j : Int) := nI_toInt (by omega)
    refine g_tableOut (pc := 33) (tgt := 1304) dL_law_33 (Or.inr (by rw [h2]; omega)) rfl ?_
    exact nx I hR
set_option maxRecDepth 100000 in
set_option maxHeartbeats 4000000 in
theorem law_loop {RI : Bool → am_IT → Prop} (o0 : am_op0 RI) (o1 : am_op1 RI) (o2 : am_op2 RI) (o3 : am_op3 RI) (o4 : am_op4 RI) (o5 : am_op5 RI) (o6 : am_op6 RI) (o7 : am_op7 RI) (o8 : am_op8 RI) (o9 : am_op9 RI) (o10 : am_op10 RI) (o11 : am_op11 RI) (o12 : am_op12 RI) (o13 : am_op13 RI) (o14 : am_op14 RI) (o15 : am_op15 RI) (o16 : am_op16 RI) (o17 : am_op17 RI) (o18 : am_op18 RI) (o19 : am_op19 RI) (o20 : am_op20 RI) (o21 : am_op21 RI) (o22 : am_op22 RI) (o23 : am_op23 RI) (o24 : am_op24 RI) (o25 : am_op25 RI) (o26 : am_op26 RI) (o27 : am_op27 RI) (o28 : am_op28 RI) (o29 : am_op29 RI) (o30 : am_op30 RI) (o31 : am_op31 RI) (o32 : am_op32 RI) (o33 : am_op33 RI) {sc : am_ST} {l : Launch} (hL : sc.1 ≤ 3072) : ∀ (n i : Nat), i ≤ 3072 → sc.1 < i + n → ∀ (b : Bool) (N : Nat) (P : am_PT) (I : am_IT) (nc ns : Nat), am_PP b N P → RI b I → am_nn i nc ns → G sc l 2048 600000 7302250 mL_law am_QL 18 [.ref 1000030, .ref 0, .ref 55, .int (nI i)] [] N P I nc ns := by
  intro n
  induction n with
  | zero =>
    intro i hi h b N P I nc ns hPP hR hn
    refine g_iload_n (pc := 18) dL_law_18 rfl rfl ?_
    refine g_aload_n (pc := 19) dL_law_19 rfl rfl ?_
    refine g_slen (pc := 20) rfl dL_law_20 ?_
    refine g_bipush (pc := 21) (v := 6) dL_law_21 rfl ?_
    refine g_isub (pc := 23) dL_law_23 ?_
    refine g_icmp_gt (pc := 24) (tgt := 1310) dL_law_24 rfl (fun c => ?_) (fun c => absurd ((nI_m6 hL hi).mpr (by omega)) c)
    refine g_iconst (pc := 1310) (v := 1) dL_law_1310 rfl ?_
    exact g_zret (pc := 1311) rfl (Or.inr rfl) (by have := hn.1; omega) (by have := hn.2; omega) dL_law_1311 rfl
  | succ n ih =>
    intro i hi h b N P I nc ns hPP hR hn
    refine g_iload_n (pc := 18) dL_law_18 rfl rfl ?_
    refine g_aload_n (pc := 19) dL_law_19 rfl rfl ?_
    refine g_slen (pc := 20) rfl dL_law_20 ?_
    refine g_bipush (pc := 21) (v := 6) dL_law_21 rfl ?_
    refine g_isub (pc := 23) dL_law_23 ?_
    refine g_icmp_gt (pc := 24) (tgt := 1310) dL_law_24 rfl (fun c => ?_) (fun c => ?_)
    · refine g_iconst (pc := 1310) (v := 1) dL_law_1310 rfl ?_
      exact g_zret (pc := 1311) rfl (Or.inr rfl) (by have := hn.1; omega) (by have := hn.2; omega) dL_law_1311 rfl
    · have hi6 : i + 6 ≤ sc.1 := by
        by_cases q : sc.1 < i + 6
        · exact absurd ((nI_m6 hL hi).mpr q) c
        · omega
      refine law_body o0 o1 o2 o3 o4 o5 o6 o7 o8 o9 o10 o11 o12 o13 o14 o15 o16 o17 o18 o19 o20 o21 o22 o23 o24 o25 o26 o27 o28 o29 o30 o31 o32 o33 hi6 hL hPP hR hn (fun b1 N1 P1 I2 nc1 ns1 h1 h2 h3 => ?_)
      refine n_iinc (pc := 1304) (ls2 := [.ref 1000030, .ref 0, .ref 55, .int (nI (i + 6))]) (nI_add i 6) rfl rfl rfl dL_law_1304 (Nat.le_of_ble_eq_true rfl) ?_
      refine g_goto (pc := 1307) (tgt := 18) dL_law_1307 rfl ?_
      exact ih (i + 6) (by omega) (by omega) b1 N1 P1 I2 nc1 ns1 h1 h2 h3
def am_P0 : am_PT := fun _ _ => none
def am_I0 : am_IT := fun _ _ => 0
def am_oI (RI : Bool → am_IT → Prop) : Prop := ∃ (P1 : am_PT) (I1 : am_IT) (P2 : am_PT) (I2 : am_IT), F_X11_init_0 (zr am_P0 0 none) (zr am_I0 0 0) = some (P1, I1) ∧ F_X12_init_55 (zr P1 55 none) (zr I1 55 0) = some (P2, I2) ∧ am_PP false 94 P2 ∧ RI false I2
set_option maxRecDepth 100000 in
set_option maxHeartbeats 4000000 in
theorem law_start {RI : Bool → am_IT → Prop} (oI : am_oI RI) (o0 : am_op0 RI) (o1 : am_op1 RI) (o2 : am_op2 RI) (o3 : am_op3 RI) (o4 : am_op4 RI) (o5 : am_op5 RI) (o6 : am_op6 RI) (o7 : am_op7 RI) (o8 : am_op8 RI) (o9 : am_op9 RI) (o10 : am_op10 RI) (o11 : am_op11 RI) (o12 : am_op12 RI) (o13 : am_op13 RI) (o14 : am_op14 RI) (o15 : am_op15 RI) (o16 : am_op16 RI) (o17 : am_op17 RI) (o18 : am_op18 RI) (o19 : am_op19 RI) (o20 : am_op20 RI) (o21 : am_op21 RI) (o22 : am_op22 RI) (o23 : am_op23 RI) (o24 : am_op24 RI) (o25 : am_op25 RI) (o26 : am_op26 RI) (o27 : am_op27 RI) (o28 : am_op28 RI) (o29 : am_op29 RI) (o30 : am_op30 RI) (o31 : am_op31 RI) (o32 : am_op32 RI) (o33 : am_op33 RI) {sc : am_ST} {l : Launch} (hL : sc.1 ≤ 3072) : G sc l 2048 600000 7302250 mL_law am_QL 0 [.ref 1000030, .null, .null, .null] [] 0 am_P0 am_I0 0 0 := by
  obtain ⟨P1, I1, P2, I2, h1, h2, hPP, hR⟩ := oI
  refine n_new (pc := 0) (N := 0) rfl rfl kn_L_7 rfl (by decide) (by decide) (by decide) dL_law_0 ?_
  refine g_dup (pc := 3) dL_law_3 ?_
  refine g_callI (pc := 4) (k := 0) (As := []) (st := [.ref 0]) ky_X11_init kl_L_9 (s_X11_init_0 (d := 3) (Nat.le_refl _) h1) rfl rfl (by decide) (Nat.le_of_ble_eq_true rfl) (by decide) (by decide) dL_law_4 ?_
  rintro _ _ _ _ ⟨rfl, rfl, rfl, rfl⟩
  refine n_astore_n (pc := 7) (ls2 := [.ref 1000030, .ref 0, .null, .null]) rfl rfl dL_law_7 rfl (Nat.le_of_ble_eq_true rfl) ?_
  refine n_new (pc := 8) (N := 55) rfl rfl kn_L_10 rfl (by decide) (by decide) (by decide) dL_law_8 ?_
  refine g_dup (pc := 11) dL_law_11 ?_
  refine g_callI (pc := 12) (k := 55) (As := []) (st := [.ref 55]) ky_X12_init kl_L_12 (s_X12_init_55 (d := 3) (by decide) h2) rfl rfl (by decide) (Nat.le_of_ble_eq_true rfl) (by decide) (by decide) dL_law_12 ?_
  rintro _ _ _ _ ⟨rfl, rfl, rfl, rfl⟩
  refine n_astore_n (pc := 15) (ls2 := [.ref 1000030, .ref 0, .ref 55, .null]) rfl rfl dL_law_15 rfl (Nat.le_of_ble_eq_true rfl) ?_
  refine g_iconst (pc := 16) (v := 0) dL_law_16 rfl ?_
  refine n_istore_n (pc := 17) (ls2 := [.ref 1000030, .ref 0, .ref 55, .int (nI 0)]) rfl rfl dL_law_17 rfl (Nat.le_of_ble_eq_true rfl) ?_
  refine law_loop o0 o1 o2 o3 o4 o5 o6 o7 o8 o9 o10 o11 o12 o13 o14 o15 o16 o17 o18 o19 o20 o21 o22 o23 o24 o25 o26 o27 o28 o29 o30 o31 o32 o33 hL (sc.1 + 1) 0 (by decide) (by omega) false _ _ _ _ _ hPP hR ?_
  exact ⟨by decide, by decide⟩
