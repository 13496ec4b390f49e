def am_QL : Option Value → Nat → am_PT → am_IT → Prop := fun v _ _ _ => v = some (.int 1)
theorem nI_m6 {L : Nat} (hL : L ≤ 3072) {i : Nat} (hi : i ≤ 3072) : (nI L - 6 < nI i) ↔ L < i + 6 := by
  rw [Int32.lt_iff_toInt_lt, show (6 : Int32) = nI 6 from rfl, pk_sub_toInt (by omega) (by omega), nI_toInt (by omega)]
  omega
set_option maxRecDepth 100000 in
set_option maxHeartbeats 4000000 in
theorem law_body {RI : Bool → am_IT → Prop} (o0 : am_op0 RI) (o1 : am_op1 RI) (o2 : am_op2 RI) (o3 : am_op3 RI) (o4 : am_op4 RI) (o5 : am_op5 RI) (o6 : am_op6 RI) (o7 : am_op7 RI) (o8 : am_op8 RI) (o9 : am_op9 RI) (o10 : am_op10 RI) (o11 : am_op11 RI) (o12 : am_op12 RI) (o13 : am_op13 RI) (o14 : am_op14 RI) (o15 : am_op15 RI) (o16 : am_op16 RI) (o17 : am_op17 RI) (o18 : am_op18 RI) (o19 : am_op19 RI) (o20 : am_op20 RI) (o21 : am_op21 RI) (o22 : am_op22 RI) (o23 : am_op23 RI) (o24 : am_op24 RI) (o25 : am_op25 RI) (o26 : am_op26 RI) (o27 : am_op27 RI) (o28 : am_op28 RI) (o29 : am_op29 RI) (o30 : am_op30 RI) (o31 : am_op31 RI) (o32 : am_op32 RI) (o33 : am_op33 RI) {sc : am_ST} {l : Launch} {b : Bool} {i N : Nat} {P : am_PT} {I : am_IT} {nc ns : Nat} (hi : i + 6 ≤ sc.1) (hL : sc.1 ≤ 3072) (hPP : am_PP b N P) (hR : RI b I) (hn : am_nn i nc ns)
    (next : ∀ (b1 : Bool) (N1 : Nat) (P1 : am_PT) (I2 : am_IT) (nc1 ns1 : Nat), am_PP b1 N1 P1 → RI b1 I2 → am_nn (i + 6) nc1 ns1 → G sc l 2048 600000 7302250 mL_law am_QL 1304 [.ref 1000030, .ref 0, .ref 55, .int (nI i)] [] N1 P1 I2 nc1 ns1) : G sc l 2048 600000 7302250 mL_law am_QL 27 [.ref 1000030, .ref 0, .ref 55, .int (nI i)] [] N P I nc ns := by
  refine g_aload_n (pc := 27) dL_law_27 rfl rfl ?_
  refine g_iload_n (pc := 28) dL_law_28 rfl rfl ?_
  refine g_sld (pc := 29) (j := i) rfl rfl (by omega) (Nat.lt_of_le_of_lt hL (by decide)) dL_law_29 ?_
  refine g_bipush (pc := 30) (v := 63) dL_law_30 rfl ?_
  refine g_iand (pc := 32) dL_law_32 ?_
  obtain ⟨j, hj, ej⟩ := pk_andE (sc.2 i) (m := 63) 6 (by decide)
  rw [ej]
  have hP := hPP.1
  have hc : nc ≤ 600000 := by have := hn.1; omega
  have hs : ns ≤ 7302250 := by have := hn.2; omega
  have nx : ∀ I2 : am_IT, RI b I2 → G sc l 2048 600000 7302250 mL_law am_QL 1304 [.ref 1000030, .ref 0, .ref 55, .int (nI i)] [] N P I2 nc ns := fun I2 h => next b N P I2 nc ns hPP h ⟨by have := hn.1; omega, by have := hn.2; omega⟩
  by_cases hlt : j < 34
  · rcases (show j = 0 ∨ j = 1 ∨ j = 2 ∨ j = 3 ∨ j = 4 ∨ j = 5 ∨ j = 6 ∨ j = 7 ∨ j = 8 ∨ j = 9 ∨ j = 10 ∨ j = 11 ∨ j = 12 ∨ j = 13 ∨ j = 14 ∨ j = 15 ∨ j = 16 ∨ j = 17 ∨ j = 18 ∨ j = 19 ∨ j = 20 ∨ j = 21 ∨ j = 22 ∨ j = 23 ∨ j = 24 ∨ j = 25 ∨ j = 26 ∨ j = 27 ∨ j = 28 ∨ j = 29 ∨ j = 30 ∨ j = 31 ∨ j = 32 ∨ j = 33 by omega) with rfl | rfl | rfl | rfl | rfl | rfl | rfl | rfl | rfl | rfl | rfl | rfl | rfl | rfl | rfl | rfl | rfl | rfl | rfl | rfl | rfl | rfl | rfl | rfl | rfl | rfl | rfl | rfl | rfl | rfl | rfl | rfl | rfl | rfl
    · refine g_tableIn (pc := 33) (tgt := 184) dL_law_33 (by decide) (by decide) (by rfl) rfl ?_
      exact law_c0 o0 hi hL hP hR hc hs nx
    · refine g_tableIn (pc := 33) (tgt := 207) dL_law_33 (by decide) (by decide) (by rfl) rfl ?_
      exact law_c1 o1 hi hL hP hR hc hs nx
    · refine g_tableIn (pc := 33) (tgt := 230) dL_law_33 (by decide) (by decide) (by rfl) rfl ?_
      exact law_c2 o2 hi hL hP hR hc hs nx
    · refine g_tableIn (pc := 33) (tgt := 263) dL_law_33 (by decide) (by decide) (by rfl) rfl ?_
      exact law_c3 o3 hi hL hP hR hc hs nx
    · refine g_tableIn (pc := 33) (tgt := 286) dL_law_33 (by decide) (by decide) (by rfl) rfl ?_
      exact law_c4 o4 hi hL hP hR hc hs nx
    · refine g_tableIn (pc := 33) (tgt := 309) dL_law_33 (by decide) (by decide) (by rfl) rfl ?_
      exact law_c5 o5 hi hL hP hR hc hs nx
    · refine g_tableIn (pc := 33) (tgt := 342) dL_law_33 (by decide) (by decide) (by rfl) rfl ?_
      exact law_c6 o6 hi hL hP hR hc hs nx
    · refine g_tableIn (pc := 33) (tgt := 385) dL_law_33 (by decide) (by decide) (by rfl) rfl ?_
      exact law_c7 o7 hi hL hP hR hc hs nx
    · refine g_tableIn (pc := 33) (tgt := 428) dL_law_33 (by decide) (by decide) (by rfl) rfl ?_
      exact law_c8 o8 hi hL hP hR hc hs nx
    · refine g_tableIn (pc := 33) (tgt := 481) dL_law_33 (by decide) (by decide) (by rfl) rfl ?_
      exact law_c9 o9 hi hL hP hR hc hs nx
    · refine g_tableIn (pc := 33) (tgt := 540) dL_law_33 (by decide) (by decide) (by rfl) rfl ?_
      exact law_c10 o10 hi hL hP hR hc hs nx
    · refine g_tableIn (pc := 33) (tgt := 573) dL_law_33 (by decide) (by decide) (by rfl) rfl ?_
      exact law_c11 o11 hi hL hP hR hc hs nx
    · refine g_tableIn (pc := 33) (tgt := 636) dL_law_33 (by decide) (by decide) (by rfl) rfl ?_
      exact law_c12 o12 hi hL hP hR hc hs nx
    · refine g_tableIn (pc := 33) (tgt := 659) dL_law_33 (by decide) (by decide) (by rfl) rfl ?_
      exact law_c13 o13 hi hL hP hR hc hs nx
    · refine g_tableIn (pc := 33) (tgt := 672) dL_law_33 (by decide) (by decide) (by rfl) rfl ?_
      exact law_c14 o14 hi hL hP hR hc hs nx
    · refine g_tableIn (pc := 33) (tgt := 695) dL_law_33 (by decide) (by decide) (by rfl) rfl ?_
      exact law_c15 o15 hi hL hP hR hc hs nx
    · refine g_tableIn (pc := 33) (tgt := 728) dL_law_33 (by decide) (by decide) (by rfl) rfl ?_
      exact law_c16 o16 hi hL hP hR hc hs nx
    · refine g_tableIn (pc := 33) (tgt := 751) dL_law_33 (by decide) (by decide) (by rfl) rfl ?_
      exact law_c17 o17 hi hL hP hR hc hs nx
    · refine g_tableIn (pc := 33) (tgt := 784) dL_law_33 (by decide) (by decide) (by rfl) rfl ?_
      exact law_c18 o18 hi hL hP hR hc hs nx
    · refine g_tableIn (pc := 33) (tgt := 807) dL_law_33 (by decide) (by decide) (by rfl) rfl ?_
      exact law_c19 o19 hi hL hP hR hc hs nx
    · refine g_tableIn (pc := 33) (tgt := 840) dL_law_33 (by decide) (by decide) (by rfl) rfl ?_
      exact law_c20 o20 hi hL hP hR hc hs nx
    · refine g_tableIn (pc := 33) (tgt := 863) dL_law_33 (by decide) (by decide) (by rfl) rfl ?_
      exact law_c21 o21 hi hL hP hR hc hs nx
    · refine g_tableIn (pc := 33) (tgt := 876) dL_law_33 (by decide) (by decide) (by rfl) rfl ?_
      exact law_c22 o22 hi hL hP hR hc hs nx
    · refine g_tableIn (pc := 33) (tgt := 889) dL_law_33 (by decide) (by decide) (by rfl) rfl ?_
      exact law_c23 o23 hi hL hP hR hc hs nx
    · refine g_tableIn (pc := 33) (tgt := 952) dL_law_33 (by decide) (by decide) (by rfl) rfl ?_
      exact law_c24 o24 hi hL hP hR hc hs nx
    · refine g_tableIn (pc := 33) (tgt := 975) dL_law_33 (by decide) (by decide) (by rfl) rfl ?_
      exact law_c25 o25 hi hL hP hR hc hs nx
    · refine g_tableIn (pc := 33) (tgt := 988) dL_law_33 (by decide) (by decide) (by rfl) rfl ?_
      exact law_c26 o26 hi hL hP hR hc hs nx
    · refine g_tableIn (pc := 33) (tgt := 1031) dL_law_33 (by decide) (by decide) (by rfl) rfl ?_
      exact law_c27 o27 hi hL hP hR hc hs nx
    · refine g_tableIn (pc := 33) (tgt := 1074) dL_law_33 (by decide) (by decide) (by rfl) rfl ?_
      exact law_c28 o28 hi hL hP hR hc hs nx
    · refine g_tableIn (pc := 33) (tgt := 1107) dL_law_33 (by decide) (by decide) (by rfl) rfl ?_
      exact law_c29 o29 hi hL hP hR hc hs nx
    · refine g_tableIn (pc := 33) (tgt := 1166) dL_law_33 (by decide) (by decide) (by rfl) rfl ?_
      exact law_c30 o30 hi hL hP hR hc hs nx
    · refine g_tableIn (pc := 33) (tgt := 1219) dL_law_33 (by decide) (by decide) (by rfl) rfl ?_
      exact law_c31 o31 hi hL hP hR hc hs nx
    · refine g_tableIn (pc := 33) (tgt := 1242) dL_law_33 (by decide) (by decide) (by rfl) rfl ?_
      exact law_c32 o32 hi hL hPP hR hn next
    · refine g_tableIn (pc := 33) (tgt := 1281) dL_law_33 (by decide) (by decide) (by rfl) rfl ?_
      exact law_c33 o33 hi hL hP hR hc hs nx
  · have h2 : (nI j).toInt = (j : Int) := nI_toInt (by omega)
    refine g_tableOut (pc := 33) (tgt := 1304) dL_law_33 (Or.inr (by rw [h2]; omega)) rfl ?_
    exact nx I hR
set_option maxRecDepth 100000 in
set_option maxHeartbeats 4000000 in
theorem law_loop {RI : Bool → am_IT → Prop} (o0 : am_op0 RI) (o1 : am_op1 RI) (o2 : am_op2 RI) (o3 : am_op3 RI) (o4 : am_op4 RI) (o5 : am_op5 RI) (o6 : am_op6 RI) (o7 : am_op7 RI) (o8 : am_op8 RI) (o9 : am_op9 RI) (o10 : am_op10 RI) (o11 : am_op11 RI) (o12 : am_op12 RI) (o13 : am_op13 RI) (o14 : am_op14 RI) (o15 : am_op15 RI) (o16 : am_op16 RI) (o17 : am_op17 RI) (o18 : am_op18 RI) (o19 : am_op19 RI) (o20 : am_op20 RI) (o21 : am_op21 RI) (o22 : am_op22 RI) (o23 : am_op23 RI) (o24 : am_op24 RI) (o25 : am_op25 RI) (o26 : am_op26 RI) (o27 : am_op27 RI) (o28 : am_op28 RI) (o29 : am_op29 RI) (o30 : am_op30 RI) (o31 : am_op31 RI) (o32 : am_op32 RI) (o33 : am_op33 RI) {sc : am_ST} {l : Launch} (hL : sc.1 ≤ 3072) : ∀ (n i : Nat), i ≤ 3072 → sc.1 < i + n → ∀ (b : Bool) (N : Nat) (P : am_PT) (I : am_IT) (nc ns : Nat), am_PP b N P → RI b I → am_nn i nc ns → G sc l 2048 600000 7302250 mL_law am_QL 18 [.ref 1000030, .ref 0, .ref 55, .int (nI i)] [] N P I nc ns := by
  intro n
  induction n with
  | zero =>
    intro i hi h b N P I nc ns hPP hR hn
    refine g_iload_n (pc := 18) dL_law_18 rfl rfl ?_
    refine g_aload_n (pc := 19) dL_law_19 rfl rfl ?_
    refine g_slen (pc := 20) rfl dL_law_20 ?_
    refine g_bipush (pc := 21) (v := 6) dL_law_21 rfl ?_
    refine g_isub (pc := 23) dL_law_23 ?_
    refine g_icmp_gt (pc := 24) (tgt := 1310) dL_law_24 rfl (fun c => ?_) (fun c => absurd ((nI_m6 hL hi).mpr (by omega)) c)
    refine g_iconst (pc := 1310) (v := 1) dL_law_1310 rfl ?_
    exact g_zret (pc := 1311) rfl (Or.inr rfl) (by have := hn.1; omega) (by have := hn.2; omega) dL_law_1311 rfl
  | succ n ih =>
    intro i hi h b N P I nc ns hPP hR hn
    refine g_iload_n (pc := 18) dL_law_18 rfl rfl ?_
    refine g_aload_n (pc := 19) dL_law_19 rfl rfl ?_
    refine g_slen (pc := 20) rfl dL_law_20 ?_
    refine g_bipush (pc := 21) (v := 6) dL_law_21 rfl ?_
    refine g_isub (pc := 23) dL_law_23 ?_
    refine g_icmp_gt (pc := 24) (tgt := 1310) dL_law_24 rfl (fun c => ?_) (fun c => ?_)
    · refine g_iconst (pc := 1310) (v := 1) dL_law_1310 rfl ?_
      exact g_zret (pc := 1311) rfl (Or.inr rfl) (by have := hn.1; omega) (by have := hn.2; omega) dL_law_1311 rfl
    · have hi6 : i + 6 ≤ sc.1 := by
        by_cases q : sc.1 < i + 6
        · exact absurd ((nI_m6 hL hi).mpr q) c
        · omega
      refine law_body o0 o1 o2 o3 o4 o5 o6 o7 o8 o9 o10 o11 o12 o13 o14 o15 o16 o17 o18 o19 o20 o21 o22 o23 o24 o25 o26 o27 o28 o29 o30 o31 o32 o33 hi6 hL hPP hR hn (fun b1 N1 P1 I2 nc1 ns1 h1 h2 h3 => ?_)
      refine n_iinc (pc := 1304) (ls2 := [.ref 1000030, .ref 0, .ref 55, .int (nI (i + 6))]) (nI_add i 6) rfl rfl rfl dL_law_1304 (Nat.le_of_ble_eq_true rfl) ?_
      refine g_goto (pc := 1307) (tgt := 18) dL_law_1307 rfl ?_
      exact ih (i + 6) (by omega) (by omega) b1 N1 P1 I2 nc1 ns1 h1 h2 h3
def am_P0 : am_PT := fun _ _ => none
def am_I0 : am_IT := fun _ _ => 0
def am_oI (RI : Bool → am_IT → Prop) : Prop := ∃ (P1 : am_PT) (I1 : am_IT) (P2 : am_PT) (I2 : am_IT), F_X11_init_0 (zr am_P0 0 none) (zr am_I0 0 0) = some (P1, I1) ∧ F_X12_init_55 (zr P1 55 none) (zr I1 55 0) = some (P2, I2) ∧ am_PP false 94 P2 ∧ RI false I2
set_option maxRecDepth 100000 in
set_option maxHeartbeats 4000000 in
theorem law_start {RI : Bool → am_IT → Prop} (oI : am_oI RI) (o0 : am_op0 RI) (o1 : am_op1 RI) (o2 : am_op2 RI) (o3 : am_op3 RI) (o4 : am_op4 RI) (o5 : am_op5 RI) (o6 : am_op6 RI) (o7 : am_op7 RI) (o8 : am_op8 RI) (o9 : am_op9 RI) (o10 : am_op10 RI) (o11 : am_op11 RI) (o12 : am_op12 RI) (o13 : am_op13 RI) (o14 : am_op14 RI) (o15 : am_op15 RI) (o16 : am_op16 RI) (o17 : am_op17 RI) (o18 : am_op18 RI) (o19 : am_op19 RI) (o20 : am_op20 RI) (o21 : am_op21 RI) (o22 : am_op22 RI) (o23 : am_op23 RI) (o24 : am_op24 RI) (o25 : am_op25 RI) (o26 : am_op26 RI) (o27 : am_op27 RI) (o28 : am_op28 RI) (o29 : am_op29 RI) (o30 : am_op30 RI) (o31 : am_op31 RI) (o32 : am_op32 RI) (o33 : am_op33 RI) {sc : am_ST} {l : Launch} (hL : sc.1 ≤ 3072) : G sc l 2048 600000 7302250 mL_law am_QL 0 [.ref 1000030, .null, .null, .null] [] 0 am_P0 am_I0 0 0 := by
  obtain ⟨P1, I1, P2, I2, h1, h2, hPP, hR⟩ := oI
  refine n_new (pc := 0) (N := 0) rfl rfl kn_L_7 rfl (by decide) (by decide) (by decide) dL_law_0 ?_
  refine g_dup (pc := 3) dL_law_3 ?_
  refine g_callI (pc := 4) (k := 0) (As := []) (st := [.ref 0]) ky_X11_init kl_L_9 (s_X11_init_0 (d := 3) (Nat.le_refl _) h1) rfl rfl (by decide) (Nat.le_of_ble_eq_true rfl) (by decide) (by decide) dL_law_4 ?_
  rintro _ _ _ _ ⟨rfl, rfl, rfl, rfl⟩
  refine n_astore_n (pc := 7) (ls2 := [.ref 1000030, .ref 0, .null, .null]) rfl rfl dL_law_7 rfl (Nat.le_of_ble_eq_true rfl) ?_
  refine n_new (pc := 8) (N := 55) rfl rfl kn_L_10 rfl (by decide) (by decide) (by decide) dL_law_8 ?_
  refine g_dup (pc := 11) dL_law_11 ?_
  refine g_callI (pc := 12) (k := 55) (As := []) (st := [.ref 55]) ky_X12_init kl_L_12 (s_X12_init_55 (d := 3) (by decide) h2) rfl rfl (by decide) (Nat.le_of_ble_eq_true rfl) (by decide) (by decide) dL_law_12 ?_
  rintro _ _ _ _ ⟨rfl, rfl, rfl, rfl⟩
  refine n_astore_n (pc := 15) (ls2 := [.ref 1000030, .ref 0, .ref 55, .null]) rfl rfl dL_law_15 rfl (Nat.le_of_ble_eq_true rfl) ?_
  refine g_iconst (pc := 16) (v := 0) dL_law_16 rfl ?_
  refine n_istore_n (pc := 17) (ls2 := [.ref 1000030, .ref 0, .ref 55, .int (nI 0)]) rfl rfl dL_law_17 rfl (Nat.le_of_ble_eq_true rfl) ?_
  exact law_loop o0 o1 o2 o3 o4 o5 o6 o7 o8 o9 o10 o11 o12 o13 o14 o15 o16 o17 o18 o19 o20 o21 o22 o23 o24 o25 o26 o27 o28 o29 o30 o31 o32 o33 hL (sc.1 + 1) 0 (by decide) (by omega) false 94 P2 I2 _ _ hPP hR ⟨by decide, by decide⟩
def am_tm (i : Nat) : Term := Term.string "PaintedByOthers$RuleReader" (if i = 0 then 128 else 121)
theorem am_two {P : Nat → Prop} (h0 : P 0) (h1 : P 1) : ∀ i, i < 2 → P i := fun i hi => by
  rcases (show i = 0 ∨ i = 1 by omega) with rfl | rfl
  · exact h0
  · exact h1
def am_ads (adK adV : Nat → Nat) (tF b : Nat) : Nat → Nat := fun k => if k = 1000000 then adK 0 else if k = 1000001 then adK 1 else if k = 1000010 then adV 0 else if k = 1000011 then adV 1 else if k = 1000020 then tF else b
theorem W.mono2 {p : Program} {l : Launch} {e : Env} {R : Room} {s : State} {m : MethodId} {args : Array Value} {below : List Frame} {meth : Method} {c : Code} {H : Heap} {locs : List Loc} {cells slots : Nat} {Q Q' : State → Prop} {g : JFrame} (h : W p l e R s m args below meth c H locs cells slots Q g) (hq : ∀ t, Q t → Q' t) : W p l e R s m args below meth c H locs cells slots Q' g := fun T hT X => by
  obtain ⟨t, a, b⟩ := h T hT X
  exact ⟨t, a, hq t b⟩
set_option maxRecDepth 100000 in
set_option maxHeartbeats 4000000 in
theorem am_SX_start {s : State} {b : Addr} {A : Nat → Prop} (hts : ∀ w ∈ lw_tbl, w.before #[Value.ref b] s = true) (hg : (Jvm.Cond.and given_1 narrow_1).before #[Value.ref b] s = true) (hA : ∀ a : Nat, a < s.heap.size → ¬ A a) : ∃ (ad : Nat → Nat), am_SX A ad s s.heap ∧ ad 1000030 = b := by
  have hf := flat_of_before _ hg
  have hd := fun (w : Cond) (h : (flatC (Jvm.Cond.and given_1 narrow_1)).contains w = true) => hf w (List.contains_iff_mem.mp h)
  obtain ⟨adK, adV, hK, hE⟩ := vk_Sof (args := #[Value.ref b]) (s := s) (N := 2) (tm := am_tm) (len := am_sl) (byt := am_sb) (A := A) (am_two (by decide) (by decide))
    (am_two (hf _ (by decide +kernel)) (hf _ (by decide +kernel))) (am_two (hf _ (by decide +kernel)) (hf _ (by decide +kernel))) (am_two (hf _ (by decide +kernel)) (hf _ (by decide +kernel))) (am_two (hf _ (by decide +kernel)) (hf _ (by decide +kernel)))
    (am_two (fun j hj => hf _ ((show ∀ j, j < 84 → Cond.eq (.elem (.field (am_tm 0) "java/lang/String" "value" "[B") (.int (Int32.ofNat j))) (.int ((am_sb.getD 0 []).getD j 0)) ∈ flatC (Jvm.Cond.and given_1 narrow_1) by decide +kernel) j hj)) (fun j hj => hf _ ((show ∀ j, j < 10 → Cond.eq (.elem (.field (am_tm 1) "java/lang/String" "value" "[B") (.int (Int32.ofNat j))) (.int ((am_sb.getD 1 []).getD j 0)) ∈ flatC (Jvm.Cond.and given_1 narrow_1) by decide +kernel) j hj)))
    (fun i j hi hj hij => ?_) hA
  · have hC : va_Z "java/lang/String" "COMPACT_STRINGS" "Z" (.int 1) A s s.heap := va_Zof (args := #[Value.ref b]) (hts _ (mem_t3 (List.mem_of_getElem? (i := 104) (by decide +kernel)))) (hts _ (mem_t1 (List.mem_of_getElem? (i := 16) (by decide +kernel)))) (va_eqi (hf _ (by decide +kernel))) hA
    have hF : va_Zq "jdk/internal/util/Preconditions" "SIOOBE_FORMATTER" "Ljava/util/function/BiFunction;" A s s.heap := va_Zqof (args := #[Value.ref b]) (hts _ (mem_t3 (List.mem_of_getElem? (i := 120) (by decide +kernel)))) (hts _ (mem_t1 (List.mem_of_getElem? (i := 18) (by decide +kernel)))) (hf _ (by decide +kernel)) hA
    have hr0 : vk_R "PaintedByOthers$RuleReader" 128 "by when or and not most window yards sum turn keep wall seers all great colour year " (adK 0) s := vk_R.of (hts _ (mem_t3 (List.mem_of_getElem? (i := 94) (by decide +kernel)))) (hE 0 (by decide))
    have hr1 : vk_R "PaintedByOthers$RuleReader" 121 ";+-*/()<=>" (adK 1) s := vk_R.of (hts _ (mem_t3 (List.mem_of_getElem? (i := 149) (by decide +kernel)))) (hE 1 (by decide))
    have mk : ∀ tF : Nat, vk_S 2 am_sl am_sb (fun i => am_ads adK adV tF b (1000000 + i)) (fun i => am_ads adK adV tF b (1000010 + i)) A s s.heap := fun tF =>
      ⟨am_two (hK.1 0 (by decide)) (hK.1 1 (by decide)), fun i j hi hj => by
        have key := hK.2 i j hi hj
        intro h
        apply key
        rcases (show i = 0 ∨ i = 1 by omega) with rfl | rfl <;> rcases (show j = 0 ∨ j = 1 by omega) with rfl | rfl <;> exact h⟩
    rcases hF with hF | ⟨t, hF⟩
    · exact ⟨am_ads adK adV 0 b, ⟨mk 0, hC, Or.inl hF, hr0, hr1⟩, rfl⟩
    · exact ⟨am_ads adK adV t b, ⟨mk t, hC, Or.inr hF, hr0, hr1⟩, rfl⟩
  · rcases (show (i = 0 ∧ j = 1) ∨ (i = 1 ∧ j = 0) by omega) with ⟨rfl, rfl⟩ | ⟨rfl, rfl⟩
    · first | exact Or.inl (hf _ (by decide +kernel)) | exact Or.inr (hf _ (by decide +kernel))
    · first | exact Or.inl (hf _ (by decide +kernel)) | exact Or.inr (hf _ (by decide +kernel))
set_option maxRecDepth 100000 in
set_option maxHeartbeats 4000000 in
theorem whole_start' {RI : Bool → am_IT → Prop} (oI : am_oI RI) (o0 : am_op0 RI) (o1 : am_op1 RI) (o2 : am_op2 RI) (o3 : am_op3 RI) (o4 : am_op4 RI) (o5 : am_op5 RI) (o6 : am_op6 RI) (o7 : am_op7 RI) (o8 : am_op8 RI) (o9 : am_op9 RI) (o10 : am_op10 RI) (o11 : am_op11 RI) (o12 : am_op12 RI) (o13 : am_op13 RI) (o14 : am_op14 RI) (o15 : am_op15 RI) (o16 : am_op16 RI) (o17 : am_op17 RI) (o18 : am_op18 RI) (o19 : am_op19 RI) (o20 : am_op20 RI) (o21 : am_op21 RI) (o22 : am_op22 RI) (o23 : am_op23 RI) (o24 : am_op24 RI) (o25 : am_op25 RI) (o26 : am_op26 RI) (o27 : am_op27 RI) (o28 : am_op28 RI) (o29 : am_op29 RI) (o30 : am_op30 RI) (o31 : am_op31 RI) (o32 : am_op32 RI) (o33 : am_op33 RI) {p : Program} {e : Env} {s : State} {m : MethodId} {below : List Frame} {meth : Method} {c : Code} (l : Launch) {b L : Nat} {xs : Nat → Int32} (hL : L ≤ 3072) (hb0 : c.code = code) (hx : p.tables.exec = Jvm.exec) (hr : meth.sig.returnType = ret) (hml : c.maxLocals = 4) (hown : s.vm.findClass "PaintedByOthersLaw" = some m.cls) (hts : ∀ w ∈ lw_tbl, w.before #[Value.ref b] s = true) (hX : va_X b L xs s s.heap) (hbl : b < s.heap.size) (hlocks : meth.locks = false) (hname : meth.name = "law") (hgv : (Jvm.Cond.and given_1 narrow_1).before #[Value.ref b] s = true) : W p l e room_1 s m #[Value.ref b] below meth c s.heap [] 0 0 (fun t => ∃ o, t.status = .running ∧ Ended t below o ∧ o = .returned (some (.int 1)) ∧ Framed s o t [] 600000 7302250) (entryFrame m ([Value.ref b] : List Value).toArray 4) := by
  have htg : ∀ w ∈ lwg, w.before #[Value.ref b] s = true := fun w hw => hts w (List.mem_filter.mp hw).1
  obtain ⟨c0, iS0, hKn0⟩ := u_known (C := RX0) (T := TX0) (N := 8) (n := 8) htg (kw_X0).2.2.1 (htg _ (mem_lwg (mem_t2 (List.mem_of_getElem? (i := 31) (by decide +kernel))) rfl))
  obtain ⟨c1, iS1, hKn1⟩ := u_known (C := RX1) (T := TX1) (N := 3) (n := 3) htg (kw_X1).2.2.1 (htg _ (mem_lwg (mem_t1 (List.mem_of_getElem? (i := 66) (by decide +kernel))) rfl))
  obtain ⟨c2, iS2, hKn2⟩ := u_known (C := RX2) (T := TX2) (N := 8) (n := 8) htg (kw_X2).2.2.1 (htg _ (mem_lwg (mem_t1 (List.mem_of_getElem? (i := 237) (by decide +kernel))) rfl))
  obtain ⟨c3, iS3, hKn3⟩ := u_known (C := RX3) (T := TX3) (N := 5) (n := 5) htg (kw_X3).2.2.1 (htg _ (mem_lwg (mem_t2 (List.mem_of_getElem? (i := 112) (by decide +kernel))) rfl))
  obtain ⟨c4, iS4, hKn4⟩ := u_known (C := RX4) (T := TX4) (N := 6) (n := 6) htg (kw_X4).2.2.1 (htg _ (mem_lwg (mem_t2 (List.mem_of_getElem? (i := 85) (by decide +kernel))) rfl))
  obtain ⟨c5, iS5, hKn5⟩ := u_known (C := RX5) (T := TX5) (N := 8) (n := 8) htg (kw_X5).2.2.1 (htg _ (mem_lwg (mem_t1 (List.mem_of_getElem? (i := 83) (by decide +kernel))) rfl))
  obtain ⟨c6, iS6, hKn6⟩ := u_known (C := RX6) (T := TX6) (N := 5) (n := 5) htg (kw_X6).2.2.1 (htg _ (mem_lwg (mem_t1 (List.mem_of_getElem? (i := 38) (by decide +kernel))) rfl))
  obtain ⟨c7, iS7, hKn7⟩ := u_known (C := RX7) (T := TX7) (N := 8) (n := 8) htg (kw_X7).2.2.1 (htg _ (mem_lwg (mem_t2 (List.mem_of_getElem? (i := 135) (by decide +kernel))) rfl))
  obtain ⟨c8, iS8, hKn8⟩ := u_known (C := RX8) (T := TX8) (N := 2) (n := 2) htg (kw_X8).2.2.1 (htg _ (mem_lwg (mem_t1 (List.mem_of_getElem? (i := 224) (by decide +kernel))) rfl))
  obtain ⟨c9, iS9, hKn9⟩ := u_known (C := RX9) (T := TX9) (N := 18) (n := 18) htg (kw_X9).2.2.1 (htg _ (mem_lwg (mem_t1 (List.mem_of_getElem? (i := 32) (by decide +kernel))) rfl))
  obtain ⟨c10, iS10, hKn10⟩ := u_known (C := RX10) (T := TX10) (N := 5) (n := 5) htg (kw_X10).2.2.1 (htg _ (mem_lwg (mem_t2 (List.mem_of_getElem? (i := 63) (by decide +kernel))) rfl))
  obtain ⟨c11, iS11, hKn11⟩ := u_known (C := RX11) (T := TX11) (N := 13) (n := 13) htg (kw_X11).2.2.1 (htg _ (mem_lwg (mem_t1 (List.mem_of_getElem? (i := 24) (by decide +kernel))) rfl))
  obtain ⟨c12, iS12, hKn12⟩ := u_known (C := RX12) (T := TX12) (N := 68) (n := 68) htg (kw_X12).2.2.1 (htg _ (mem_lwg (mem_t5 (List.mem_of_getElem? (i := 186) (by decide +kernel))) rfl))
  obtain ⟨dC, dI, hKc⟩ : ∃ (dC : Nat → ClassId) (dI : Nat → Nat → Nat), ∀ (k : Nat) (q : vw_C), vwCl[k]? = some q → u_Kn s q.1 q.2.1 q.2.2 (dC k) (dI k) := by
    refine ⟨fun k => if k = 0 then c0 else if k = 1 then c1 else if k = 2 then c2 else if k = 3 then c3 else if k = 4 then c4 else if k = 5 then c5 else if k = 6 then c6 else if k = 7 then c7 else if k = 8 then c8 else if k = 9 then c9 else if k = 10 then c10 else if k = 11 then c11 else c12, fun k => if k = 0 then iS0 else if k = 1 then iS1 else if k = 2 then iS2 else if k = 3 then iS3 else if k = 4 then iS4 else if k = 5 then iS5 else if k = 6 then iS6 else if k = 7 then iS7 else if k = 8 then iS8 else if k = 9 then iS9 else if k = 10 then iS10 else if k = 11 then iS11 else iS12, ?_⟩
    intro k q hq
    match k, hq with
    | 0, hq => cases hq; exact hKn0
    | 1, hq => cases hq; exact hKn1
    | 2, hq => cases hq; exact hKn2
    | 3, hq => cases hq; exact hKn3
    | 4, hq => cases hq; exact hKn4
    | 5, hq => cases hq; exact hKn5
    | 6, hq => cases hq; exact hKn6
    | 7, hq => cases hq; exact hKn7
    | 8, hq => cases hq; exact hKn8
    | 9, hq => cases hq; exact hKn9
    | 10, hq => cases hq; exact hKn10
    | 11, hq => cases hq; exact hKn11
    | 12, hq => cases hq; exact hKn12
    | k + 13, hq => simp [vwCl] at hq
  have hnw : am_nw s := by
    intro w hw
    simp only [am_nest, List.mem_cons, List.not_mem_nil, or_false] at hw
    rcases hw with rfl | rfl | rfl | rfl | rfl | rfl
    · exact va_Nw.of rfl (hts _ (mem_t1 (List.mem_of_getElem? (i := 33) (by decide +kernel))))
    · exact va_Nw.of rfl (hts _ (mem_t1 (List.mem_of_getElem? (i := 39) (by decide +kernel))))
    · exact va_Nw.of rfl (hts _ (mem_t1 (List.mem_of_getElem? (i := 67) (by decide +kernel))))
    · exact va_Nw.of rfl (hts _ (mem_t1 (List.mem_of_getElem? (i := 84) (by decide +kernel))))
    · exact va_Nw.of rfl (hts _ (mem_t2 (List.mem_of_getElem? (i := 136) (by decide +kernel))))
    · exact va_Nw.of rfl (hts _ (mem_t2 (List.mem_of_getElem? (i := 141) (by decide +kernel))))
  obtain ⟨ad, hSX, hadb⟩ := am_SX_start (A := fun q => s.heap.size ≤ q) hts hgv (fun a h1 h2 => by omega)
  obtain ⟨cA, kA, comp, hcA1, hcA2, hcA3⟩ : ∃ (cA : ClassId) (kA : Class) (comp : ClassId), s.vm.findClass ("[" ++ (FieldType.int).toString) = some cA ∧ s.vm.classes[cA]? = some kA ∧ kA.kind = .array comp .int := Cond.arrayClass_spec (htg _ kz_arr)
  have hK : va_K (dC, dI) vwCl [(cA, .int)] s := ⟨hKc, fun k q h => by
    have hk : k = 0 := by
      have := (List.getElem?_eq_some_iff.mp h).1
      simp at this
      omega
    subst hk
    cases h
    exact ⟨fun n z => ⟨fun k h => (by cases h), kA, hcA2, comp, hcA3⟩, hcA1⟩⟩
  have hl := lv_entry ([.ref b]) (n := 4) (Nat.le_of_ble_eq_true rfl)
  rw [lg_entry_eq]
  generalize (lg_sl ([.ref b]) ++ List.replicate (4 - (lg_sl ([.ref b])).length) Slot.unset).toArray = lsA at hl ⊢
  have key := law_start (sc := (L, xs)) (l := l) oI o0 o1 o2 o3 o4 o5 o6 o7 o8 o9 o10 o11 o12 o13 o14 o15 o16 o17 o18 o19 o20 o21 o22 o23 o24 o25 o26 o27 o28 o29 o30 o31 o32 o33 hL p e s m #[Value.ref b] below meth c dC dI cA ad (fun q => s.heap.size ≤ q) s.heap [] lsA ad 0 ⟨⟨hx, hb0, hml, hr, hlocks, hname, hown, htg, hnw⟩, ⟨⟨fun k q h => by simp [am_w] at h, ⟨fun i j p q h => by simp [am_w] at h, fun k q h => by simp [am_w] at h⟩, ⟨by decide, fun k j r h => absurd h (Nat.not_lt_zero _)⟩⟩, hK, va_S.rf, fun q h => h, hSX, fun _ => ⟨by rw [hadb]; exact hX, by rw [hadb]; exact hbl, by rw [hadb]; exact Nat.not_le.mpr hbl⟩⟩, ?_, ?_, ?_⟩ (Nat.le_refl _) (fun _ _ => rfl)
  · refine W.mono2 key ?_
    rintro t ⟨o, g1, g2, ⟨⟨v, N', P', I', ad', hv, hq, -⟩, -⟩, Ls, ⟨f1, f2, f3⟩, hLs⟩
    have ho : o = .returned (some (.int 1)) := by
      rw [hv, show v = some (.int 1) from hq]
      rfl
    refine ⟨o, g1, g2, ho, f1, f2, ?_⟩
    obtain ⟨k1, k2, k3, k4, k5, k6⟩ := f3
    refine ⟨k1, k2, k3, k4, k5, fun a c hc => ?_⟩
    obtain ⟨c', q1, q2, q3, q4⟩ := k6 a c hc
    refine ⟨c', q1, q2, q3, fun i _ => q4 i (fun hm => ?_)⟩
    have h1 := hLs _ hm
    have h2 : a < s.heap.size := (Array.getElem?_eq_some_iff.mp hc).1
    exact absurd h1 (Nat.not_le.mpr h2)
  · intro v hv
    rcases List.mem_cons.mp hv with h | h
    · rw [h]; exact Or.inr (by decide)
    · rw [show v = .null by simpa using h]; exact trivial
  · intro v hv
    exact absurd hv List.not_mem_nil
  · refine ⟨⟨hl.1, hl.2.1, fun q hq => ?_⟩, rfl⟩
    obtain ⟨v, h1, h2, h3⟩ := am_ll_mem.mp hq
    have hq0 : q.1 = 0 := by
      by_cases h : q.1 = 0
      · exact h
      · have h9 : q.1 < 4 := (List.getElem?_eq_some_iff.mp h1).1
        rcases (show q.1 = 1 ∨ q.1 = 2 ∨ q.1 = 3 by omega) with h8 | h8 | h8 <;> rw [h8] at h1 <;> cases h1 <;> exact absurd rfl h2
    rw [hq0] at h1
    cases h1
    have := hl.2.2 (0, .ref b) (by simp [lv_args])
    rw [hq0, h3]
    rw [show cv ad (.ref 1000030) = .ref b from congrArg Value.ref hadb]
    exact this
