def B_X0_tryFrom_30 (rec : am_IT → Int32 → Int32 → Int32 → Option (am_IT)) (I : am_IT) (a1 : Int32) (a2 : Int32) (a3 : Int32) : Option (am_IT) := if (I 1 3) ≤ a1 then (if a2 ≤ (I 30 7) then (some I) else (am_let (up2 I 30 7 a2) (fun (I_3 : am_IT) => if am_cpok (0 : Int32) (0 : Int32) (7 : Int32) 7 7 = true then (am_let (cpy2 I_3 34 35 (0 : Int32).toNatClampNeg (0 : Int32).toNatClampNeg (7 : Int32).toNatClampNeg) (fun (I_5 : am_IT) => some I_5)) else none))) else (if a1 < (7 : Int32) then (am_b1 (am_it am_fu (am_u2 (fun (l4_7 : Int32) (I_8 : am_IT) => if (I_8 1 0) ≤ l4_7 then (some (.inr (I_8))) else (am_b1 (if ((a3 >>> (l4_7 &&& 31)) &&& (1 : Int32)) = 0 then (if am_ix l4_7 4 = true then (some (I_8 2 l4_7.toNatClampNeg)) else none) else (some ((0 : Int32)))) (fun (v_17 : Int32) => if am_ix a1 7 = true then (am_let (up2 I_8 34 a1.toNatClampNeg l4_7) (fun (I_22 : am_IT) => am_b1 (F_X0_worthOfNext_30 I_22 a1 l4_7) (fun (r_24 : Int32) => am_b1 (rec I_22 (a1 + (1 : Int32)) ((a2 + r_24) - v_17) (a3 ||| ((1 : Int32) <<< (l4_7 &&& 31)))) (fun (I_26 : am_IT) => am_let (l4_7 + (1 : Int32)) (fun (l4_27 : Int32) => some (.inl (l4_27, I_26))))))) else none)))) ((0 : Int32), I)) (fun (I_9 : am_IT) => some I_9)) else (if a2 ≤ (I 30 7) then (some I) else (am_let (up2 I 30 7 a2) (fun (I_29 : am_IT) => if am_cpok (0 : Int32) (0 : Int32) (7 : Int32) 7 7 = true then (am_let (cpy2 I_29 34 35 (0 : Int32).toNatClampNeg (0 : Int32).toNatClampNeg (7 : Int32).toNatClampNeg) (fun (I_31 : am_IT) => some I_31)) else none))))
set_option maxRecDepth 100000 in
set_option maxHeartbeats 4000000 in
theorem sB_X0_tryFrom_30 {l : Launch} {d D N : Nat} {P : am_PT} (hPl : am_Pl 94 N P) (hd : 2 ≤ d) (hD : D + 1 ≤ d) {rec : am_IT → Int32 → Int32 → Int32 → Option (am_IT)} (hrec0 : ∀ {I : am_IT} {a1 : Int32} {a2 : Int32} {a3 : Int32} {I2 : am_IT}, rec I a1 a2 a3 = some (I2) → am_C l D 0 0 mX0_tryFrom [.ref 30, .int a1, .int a2, .int a3] N P I (am_qv N P I2)) {I : am_IT} {a1 : Int32} {a2 : Int32} {a3 : Int32} {I2 : am_IT} (hF : B_X0_tryFrom_30 rec I a1 a2 a3 = some (I2)) : am_C l d 0 0 mX0_tryFrom [.ref 30, .int a1, .int a2, .int a3] N P I (am_qv N P I2) := by
  refine am_body (sc := am_sc0) (n := 2) (by decide +kernel) (by decide) rfl ?_
  change G am_sc0 l d 0 0 mX0_tryFrom (am_qv N P I2) 0 [.ref 30, .int a1, .int a2, .int a3, .null, .null] [] N P I 0 0
  unfold B_X0_tryFrom_30 at hF
  refine g_iload_n (pc := 0) dX0_tryFrom_0 rfl rfl ?_
  refine g_aload_n (pc := 1) dX0_tryFrom_1 rfl rfl ?_
  refine g_getR (pc := 2) (k := 30) (r := 1) kf_X0_31.r rfl rfl (hPl.get (by decide) rfl) (hPl.lt (by decide)) dX0_tryFrom_2 ?_
  refine g_getI (pc := 5) (k := 1) kf_X0_54.r rfl rfl (hPl.lt (by decide)) dX0_tryFrom_5 ?_
  refine g_icmp_ge (pc := 8) (tgt := 20) dX0_tryFrom_8 rfl (fun c_1 => ?_) (fun c_1 => ?_)
  · replace hF := am_yes c_1 hF
    refine g_iload_n (pc := 20) dX0_tryFrom_20 rfl rfl ?_
    refine g_aload_n (pc := 21) dX0_tryFrom_21 rfl rfl ?_
    refine g_getI (pc := 22) (k := 30) kf_X0_27.r rfl rfl (hPl.lt (by decide)) dX0_tryFrom_22 ?_
    refine g_icmp_le (pc := 25) (tgt := 51) dX0_tryFrom_25 rfl (fun c_2 => ?_) (fun c_2 => ?_)
    · replace hF := am_yes c_2 hF
      cases hF
      exact g_vret (pc := 51) rfl (Nat.le_refl _) (Nat.le_refl _) dX0_tryFrom_51 ⟨rfl, rfl, rfl, rfl⟩
    · replace hF := am_no c_2 hF
      refine g_aload_n (pc := 28) dX0_tryFrom_28 rfl rfl ?_
      refine g_iload_n (pc := 29) dX0_tryFrom_29 rfl rfl ?_
      obtain ⟨I_3, e_I_3, hF⟩ := am_let_el hF
      refine n_putI (pc := 30) (k := 30) e_I_3 kf_X0_27 rfl rfl (hPl.lt (by decide)) dX0_tryFrom_30 ?_
      refine g_aload_n (pc := 33) dX0_tryFrom_33 rfl rfl ?_
      refine g_getR (pc := 34) (k := 30) (r := 34) kf_X0_21.r rfl rfl (hPl.get (by decide) rfl) (hPl.lt (by decide)) dX0_tryFrom_34 ?_
      refine g_iconst (pc := 37) (v := (0 : Int32)) dX0_tryFrom_37 rfl ?_
      refine g_aload_n (pc := 38) dX0_tryFrom_38 rfl rfl ?_
      refine g_getR (pc := 39) (k := 30) (r := 35) kf_X0_24.r rfl rfl (hPl.get (by decide) rfl) (hPl.lt (by decide)) dX0_tryFrom_39 ?_
      refine g_iconst (pc := 42) (v := (0 : Int32)) dX0_tryFrom_42 rfl ?_
      refine g_aload_n (pc := 43) dX0_tryFrom_43 rfl rfl ?_
      refine g_getR (pc := 44) (k := 30) (r := 35) kf_X0_24.r rfl rfl (hPl.get (by decide) rfl) (hPl.lt (by decide)) dX0_tryFrom_44 ?_
      refine g_alen (pc := 47) (k := 35) (v := 7) rfl (hPl.lt (by decide)) rfl dX0_tryFrom_47 ?_
      obtain ⟨c_4, hF⟩ := am_gd hF
      obtain ⟨I_5, e_I_5, hF⟩ := am_let_el hF
      refine n_acopy (pc := 48) (a := 34) (b := 35) e_I_5 c_4 kl_X0_48 rfl rfl (hPl.lt (by decide)) (hPl.lt (by decide)) (Nat.le_trans (by decide) hd) (Nat.le_of_ble_eq_true rfl) dX0_tryFrom_48 ?_
      cases hF
      exact g_vret (pc := 51) rfl (Nat.le_refl _) (Nat.le_refl _) dX0_tryFrom_51 ⟨rfl, rfl, rfl, rfl⟩
  · replace hF := am_no c_1 hF
    refine g_iload_n (pc := 11) dX0_tryFrom_11 rfl rfl ?_
    refine g_aload_n (pc := 12) dX0_tryFrom_12 rfl rfl ?_
    refine g_getR (pc := 13) (k := 30) (r := 34) kf_X0_21.r rfl rfl (hPl.get (by decide) rfl) (hPl.lt (by decide)) dX0_tryFrom_13 ?_
    refine g_alen (pc := 16) (k := 34) (v := 7) rfl (hPl.lt (by decide)) rfl dX0_tryFrom_16 ?_
    refine g_icmp_lt (pc := 17) (tgt := 52) dX0_tryFrom_17 rfl (fun c_6 => ?_) (fun c_6 => ?_)
    · replace hF := am_yes c_6 hF
      refine g_iconst (pc := 52) (v := (0 : Int32)) dX0_tryFrom_52 rfl ?_
      refine n_istore (pc := 53) (ls2 := [.ref 30, .int a1, .int a2, .int a3, .int (0 : Int32), .null]) rfl rfl dX0_tryFrom_53 (Nat.le_of_ble_eq_true rfl) ?_
      obtain ⟨I_9, hL_13, hF⟩ := am_b1_el hF
      have hX_10 : G am_sc0 l d 0 0 mX0_tryFrom (am_qv N P I2) 131 [.ref 30, .int a1, .int a2, .int a3, .null, .null] [] N P I_9 0 0 := by
        cases hF
        exact g_vret (pc := 131) rfl (Nat.le_refl _) (Nat.le_refl _) dX0_tryFrom_131 ⟨rfl, rfl, rfl, rfl⟩
      clear hF
      have hC := am_loop (C := fun x => G am_sc0 l d 0 0 mX0_tryFrom (am_qv N P I2) 55 [.ref 30, .int a1, .int a2, .int a3, .int x.1, .null] [] N P x.2 0 0) (by
        rintro ⟨l4_7, I_8⟩ rr hF ih_11 hE_12
        replace hF := am_u2_ap hF
        change G am_sc0 l d 0 0 mX0_tryFrom (am_qv N P I2) 55 [.ref 30, .int a1, .int a2, .int a3, .int l4_7, .null] [] N P I_8 0 0
        refine g_iload (pc := 55) dX0_tryFrom_55 rfl ?_
        refine g_aload_n (pc := 57) dX0_tryFrom_57 rfl rfl ?_
        refine g_getR (pc := 58) (k := 30) (r := 1) kf_X0_31.r rfl rfl (hPl.get (by decide) rfl) (hPl.lt (by decide)) dX0_tryFrom_58 ?_
        refine g_getI (pc := 61) (k := 1) kf_X0_97.r rfl rfl (hPl.lt (by decide)) dX0_tryFrom_61 ?_
        refine g_icmp_ge (pc := 64) (tgt := 131) dX0_tryFrom_64 rfl (fun c_15 => ?_) (fun c_15 => ?_)
        · replace hF := am_yes c_15 hF
          cases hF
          cases hE_12 _ rfl
          exact g_weak hX_10 ⟨Or.inr rfl, Or.inr rfl, Or.inr rfl, Or.inr rfl, Or.inl rfl, Or.inl rfl, trivial⟩
        · replace hF := am_no c_15 hF
          refine g_iload_n (pc := 67) dX0_tryFrom_67 rfl rfl ?_
          refine g_iload (pc := 68) dX0_tryFrom_68 rfl ?_
          refine g_ishr (pc := 70) dX0_tryFrom_70 ?_
          refine g_iconst (pc := 71) (v := (1 : Int32)) dX0_tryFrom_71 rfl ?_
          refine g_iand (pc := 72) dX0_tryFrom_72 ?_
          obtain ⟨v_17, hR_18, hF⟩ := am_b1_el hF
          have hJ_19 : G am_sc0 l d 0 0 mX0_tryFrom (am_qv N P I2) 90 [.ref 30, .int a1, .int a2, .int a3, .int l4_7, .null] [.int v_17] N P I_8 0 0 := by
            refine n_istore (pc := 90) (ls2 := [.ref 30, .int a1, .int a2, .int a3, .int l4_7, .int v_17]) rfl rfl dX0_tryFrom_90 (Nat.le_of_ble_eq_true rfl) ?_
            refine g_aload_n (pc := 92) dX0_tryFrom_92 rfl rfl ?_
            refine g_getR (pc := 93) (k := 30) (r := 34) kf_X0_21.r rfl rfl (hPl.get (by decide) rfl) (hPl.lt (by decide)) dX0_tryFrom_93 ?_
            refine g_iload_n (pc := 96) dX0_tryFrom_96 rfl rfl ?_
            refine g_iload (pc := 97) dX0_tryFrom_97 rfl ?_
            obtain ⟨c_21, hF⟩ := am_gd hF
            obtain ⟨I_22, e_I_22, hF⟩ := am_let_el hF
            refine n_iast (pc := 99) (k := 34) e_I_22 rfl (hPl.lt (by decide)) (am_ix_use c_21) dX0_tryFrom_99 ?_
            refine g_aload_n (pc := 100) dX0_tryFrom_100 rfl rfl ?_
            refine g_iload_n (pc := 101) dX0_tryFrom_101 rfl rfl ?_
            refine g_iconst (pc := 102) (v := (1 : Int32)) dX0_tryFrom_102 rfl ?_
            refine g_iadd (pc := 103) dX0_tryFrom_103 ?_
            refine g_iload_n (pc := 104) dX0_tryFrom_104 rfl rfl ?_
            refine g_aload_n (pc := 105) dX0_tryFrom_105 rfl rfl ?_
            refine g_iload_n (pc := 106) dX0_tryFrom_106 rfl rfl ?_
            refine g_iload (pc := 107) dX0_tryFrom_107 rfl ?_
            obtain ⟨r_24, h_23, hF⟩ := am_b1_el hF
            refine g_cVi (pc := 109) (k := 30) (As := [.int a1, .int l4_7]) (st := [.int a2, .int (a1 + (1 : Int32)), .ref 30]) ky_X0_worthOfNext kl_X0_114 (s_X0_worthOfNext_30 (d := 1) (hPl) (Nat.le_refl _) h_23) rfl rfl rfl (hPl.lt (by decide)) (Nat.le_trans (by decide) hd) (Nat.le_of_ble_eq_true rfl) (Nat.le_refl _) (Nat.le_refl _) dX0_tryFrom_109 ?_
            refine g_iadd (pc := 112) dX0_tryFrom_112 ?_
            refine g_iload (pc := 113) dX0_tryFrom_113 rfl ?_
            refine g_isub (pc := 115) dX0_tryFrom_115 ?_
            refine g_iload_n (pc := 116) dX0_tryFrom_116 rfl rfl ?_
            refine g_iconst (pc := 117) (v := (1 : Int32)) dX0_tryFrom_117 rfl ?_
            refine g_iload (pc := 118) dX0_tryFrom_118 rfl ?_
            refine g_ishl (pc := 120) dX0_tryFrom_120 ?_
            refine g_ior (pc := 121) dX0_tryFrom_121 ?_
            obtain ⟨I_26, h_25, hF⟩ := am_b1_el hF
            refine g_cVv (pc := 122) (k := 30) (As := [.int (a1 + (1 : Int32)), .int ((a2 + r_24) - v_17), .int (a3 ||| ((1 : Int32) <<< (l4_7 &&& 31)))]) (st := []) ky_X0_tryFrom kl_X0_84 (hrec0 h_25) rfl rfl rfl (hPl.lt (by decide)) hD (Nat.le_of_ble_eq_true rfl) (Nat.le_refl _) (Nat.le_refl _) dX0_tryFrom_122 ?_
            obtain ⟨l4_27, e_l4_27, hF⟩ := am_let_el hF
            refine n_iinc (pc := 125) (ls2 := [.ref 30, .int a1, .int a2, .int a3, .int l4_27, .int v_17]) e_l4_27 rfl rfl rfl dX0_tryFrom_125 (Nat.le_of_ble_eq_true rfl) ?_
            refine g_goto (pc := 128) (tgt := 55) dX0_tryFrom_128 rfl ?_
            cases hF
            exact g_weak (ih_11 (l4_27, I_26) rfl) ⟨Or.inr rfl, Or.inr rfl, Or.inr rfl, Or.inr rfl, Or.inr rfl, Or.inl rfl, trivial⟩
          clear hF
          have hF := hR_18
          clear hR_18
          refine g_if_ne (pc := 73) (tgt := 89) dX0_tryFrom_73 rfl (fun c_16 => ?_) (fun c_16 => ?_)
          · replace hF := am_no c_16 hF
            refine g_iconst (pc := 89) (v := (0 : Int32)) dX0_tryFrom_89 rfl ?_
            cases hF
            exact hJ_19
          · replace hF := am_yes c_16 hF
            refine g_aload_n (pc := 76) dX0_tryFrom_76 rfl rfl ?_
            refine g_getR (pc := 77) (k := 30) (r := 1) kf_X0_31.r rfl rfl (hPl.get (by decide) rfl) (hPl.lt (by decide)) dX0_tryFrom_77 ?_
            refine g_getR (pc := 80) (k := 1) (r := 2) kf_X0_59 rfl rfl (hPl.get (by decide) rfl) (hPl.lt (by decide)) dX0_tryFrom_80 ?_
            refine g_iload (pc := 83) dX0_tryFrom_83 rfl ?_
            obtain ⟨c_20, hF⟩ := am_gd hF
            refine g_iald (pc := 85) (k := 2) rfl (hPl.lt (by decide)) (am_ix_use c_20) dX0_tryFrom_85 ?_
            refine g_goto (pc := 86) (tgt := 90) dX0_tryFrom_86 rfl ?_
            cases hF
            exact hJ_19
        ) _ _ hL_13
      exact hC
    · replace hF := am_no c_6 hF
      refine g_iload_n (pc := 20) dX0_tryFrom_20 rfl rfl ?_
      refine g_aload_n (pc := 21) dX0_tryFrom_21 rfl rfl ?_
      refine g_getI (pc := 22) (k := 30) kf_X0_27.r rfl rfl (hPl.lt (by decide)) dX0_tryFrom_22 ?_
      refine g_icmp_le (pc := 25) (tgt := 51) dX0_tryFrom_25 rfl (fun c_28 => ?_) (fun c_28 => ?_)
      · replace hF := am_yes c_28 hF
        cases hF
        exact g_vret (pc := 51) rfl (Nat.le_refl _) (Nat.le_refl _) dX0_tryFrom_51 ⟨rfl, rfl, rfl, rfl⟩
      · replace hF := am_no c_28 hF
        refine g_aload_n (pc := 28) dX0_tryFrom_28 rfl rfl ?_
        refine g_iload_n (pc := 29) dX0_tryFrom_29 rfl rfl ?_
        obtain ⟨I_29, e_I_29, hF⟩ := am_let_el hF
        refine n_putI (pc := 30) (k := 30) e_I_29 kf_X0_27 rfl rfl (hPl.lt (by decide)) dX0_tryFrom_30 ?_
        refine g_aload_n (pc := 33) dX0_tryFrom_33 rfl rfl ?_
        refine g_getR (pc := 34) (k := 30) (r := 34) kf_X0_21.r rfl rfl (hPl.get (by decide) rfl) (hPl.lt (by decide)) dX0_tryFrom_34 ?_
        refine g_iconst (pc := 37) (v := (0 : Int32)) dX0_tryFrom_37 rfl ?_
        refine g_aload_n (pc := 38) dX0_tryFrom_38 rfl rfl ?_
        refine g_getR (pc := 39) (k := 30) (r := 35) kf_X0_24.r rfl rfl (hPl.get (by decide) rfl) (hPl.lt (by decide)) dX0_tryFrom_39 ?_
        refine g_iconst (pc := 42) (v := (0 : Int32)) dX0_tryFrom_42 rfl ?_
        refine g_aload_n (pc := 43) dX0_tryFrom_43 rfl rfl ?_
        refine g_getR (pc := 44) (k := 30) (r := 35) kf_X0_24.r rfl rfl (hPl.get (by decide) rfl) (hPl.lt (by decide)) dX0_tryFrom_44 ?_
        refine g_alen (pc := 47) (k := 35) (v := 7) rfl (hPl.lt (by decide)) rfl dX0_tryFrom_47 ?_
        obtain ⟨c_30, hF⟩ := am_gd hF
        obtain ⟨I_31, e_I_31, hF⟩ := am_let_el hF
        refine n_acopy (pc := 48) (a := 34) (b := 35) e_I_31 c_30 kl_X0_48 rfl rfl (hPl.lt (by decide)) (hPl.lt (by decide)) (Nat.le_trans (by decide) hd) (Nat.le_of_ble_eq_true rfl) dX0_tryFrom_48 ?_
        cases hF
        exact g_vret (pc := 51) rfl (Nat.le_refl _) (Nat.le_refl _) dX0_tryFrom_51 ⟨rfl, rfl, rfl, rfl⟩
def G_X0_tryFrom_30 : Nat → am_IT → Int32 → Int32 → Int32 → Option (am_IT)
  | 0, _, _, _, _ => none
  | n + 1, I, a1, a2, a3 => B_X0_tryFrom_30 (G_X0_tryFrom_30 n) I a1 a2 a3
theorem sG_X0_tryFrom_30 {l : Launch} {N : Nat} {P : am_PT} (hPl : am_Pl 94 N P) : ∀ (n : Nat) {d : Nat}, 2 + n ≤ d → ∀ {I : am_IT} {a1 : Int32} {a2 : Int32} {a3 : Int32} {I2 : am_IT}, G_X0_tryFrom_30 n I a1 a2 a3 = some (I2) → am_C l d 0 0 mX0_tryFrom [.ref 30, .int a1, .int a2, .int a3] N P I (am_qv N P I2)
  | 0, _, _, _, _, _, _, _, h => by cases h
  | n + 1, d, hd, I, a1, a2, a3, _, h => sB_X0_tryFrom_30 hPl (by omega) (D := 2 + n) (by omega) (sG_X0_tryFrom_30 hPl n (Nat.le_refl _)) h
def F_X0_tryFrom_30 (I : am_IT) (a1 : Int32) (a2 : Int32) (a3 : Int32) : Option (am_IT) := G_X0_tryFrom_30 64 I a1 a2 a3
theorem s_X0_tryFrom_30 {l : Launch} {d N : Nat} {P : am_PT} (hPl : am_Pl 94 N P) (hd : 66 ≤ d) {I : am_IT} {a1 : Int32} {a2 : Int32} {a3 : Int32} {I2 : am_IT} (hF : F_X0_tryFrom_30 I a1 a2 a3 = some (I2)) : am_C l d 0 0 mX0_tryFrom [.ref 30, .int a1, .int a2, .int a3] N P I (am_qv N P I2) := (sG_X0_tryFrom_30 (l := l) hPl 64 (d := d) hd) hF
def F_X0_greatestWithout_30 (I : am_IT) (a1 : Int32) : Option (Int32 × am_IT) := am_b1 (F_X0_addUp_30 I a1) (fun (I_2 : am_IT) => am_let (up2 I_2 30 7 (-2147483648 : Int32)) (fun (I_3 : am_IT) => am_b1 (F_X0_tryFrom_30 I_3 (0 : Int32) (0 : Int32) (0 : Int32)) (fun (I_5 : am_IT) => some (I_5 30 7, I_5))))
set_option maxRecDepth 100000 in
set_option maxHeartbeats 4000000 in
theorem s_X0_greatestWithout_30 {l : Launch} {d N : Nat} {P : am_PT} (hPl : am_Pl 94 N P) (hd : 67 ≤ d) {I : am_IT} {a1 : Int32} {r : Int32} {I2 : am_IT} (hF : F_X0_greatestWithout_30 I a1 = some (r, I2)) : am_C l d 0 0 mX0_greatestWithout [.ref 30, .int a1] N P I (am_qi r N P I2) := by
  refine am_body (sc := am_sc0) (n := 0) (by decide +kernel) (by decide) rfl ?_
  change G am_sc0 l d 0 0 mX0_greatestWithout (am_qi r N P I2) 0 [.ref 30, .int a1] [] N P I 0 0
  unfold F_X0_greatestWithout_30 at hF
  refine g_aload_n (pc := 0) dX0_greatestWithout_0 rfl rfl ?_
  refine g_iload_n (pc := 1) dX0_greatestWithout_1 rfl rfl ?_
  obtain ⟨I_2, h_1, hF⟩ := am_b1_el hF
  refine g_cVv (pc := 2) (k := 30) (As := [.int a1]) (st := []) ky_X0_addUp kl_X0_79 (s_X0_addUp_30 (d := 4) (hPl) (Nat.le_refl _) h_1) rfl rfl rfl (hPl.lt (by decide)) (Nat.le_trans (by decide) hd) (Nat.le_of_ble_eq_true rfl) (Nat.le_refl _) (Nat.le_refl _) dX0_greatestWithout_2 ?_
  refine g_aload_n (pc := 5) dX0_greatestWithout_5 rfl rfl ?_
  refine g_ldc (pc := 6) dX0_greatestWithout_6 kc_X0_83 ?_
  obtain ⟨I_3, e_I_3, hF⟩ := am_let_el hF
  refine n_putI (pc := 8) (k := 30) e_I_3 kf_X0_27 rfl rfl (hPl.lt (by decide)) dX0_greatestWithout_8 ?_
  refine g_aload_n (pc := 11) dX0_greatestWithout_11 rfl rfl ?_
  refine g_iconst (pc := 12) (v := (0 : Int32)) dX0_greatestWithout_12 rfl ?_
  refine g_iconst (pc := 13) (v := (0 : Int32)) dX0_greatestWithout_13 rfl ?_
  refine g_iconst (pc := 14) (v := (0 : Int32)) dX0_greatestWithout_14 rfl ?_
  obtain ⟨I_5, h_4, hF⟩ := am_b1_el hF
  refine g_cVv (pc := 15) (k := 30) (As := [.int (0 : Int32), .int (0 : Int32), .int (0 : Int32)]) (st := []) ky_X0_tryFrom kl_X0_84 (s_X0_tryFrom_30 (d := 66) (hPl) (Nat.le_refl _) h_4) rfl rfl rfl (hPl.lt (by decide)) (Nat.le_trans (by decide) hd) (Nat.le_of_ble_eq_true rfl) (Nat.le_refl _) (Nat.le_refl _) dX0_greatestWithout_15 ?_
  refine g_aload_n (pc := 18) dX0_greatestWithout_18 rfl rfl ?_
  refine g_getI (pc := 19) (k := 30) kf_X0_27.r rfl rfl (hPl.lt (by decide)) dX0_greatestWithout_19 ?_
  cases hF
  exact g_iret (pc := 22) rfl (Nat.le_refl _) (Nat.le_refl _) dX0_greatestWithout_22 ⟨rfl, rfl, rfl, rfl⟩
def F_X0_choose_30 (I : am_IT) : Option (Int32 × am_IT) := am_b1 (F_X8_measure_23 I) (fun (I_2 : am_IT) => am_b2 (F_X0_greatestWithout_30 I_2 (-1 : Int32)) (fun (r_4 : Int32) (I_5 : am_IT) => if am_cpok (0 : Int32) (0 : Int32) (7 : Int32) 7 7 = true then (am_let (cpy2 I_5 35 31 (0 : Int32).toNatClampNeg (0 : Int32).toNatClampNeg (7 : Int32).toNatClampNeg) (fun (I_7 : am_IT) => some (r_4, I_7))) else none))
set_option maxRecDepth 100000 in
set_option maxHeartbeats 4000000 in
theorem s_X0_choose_30 {l : Launch} {d N : Nat} {P : am_PT} (hPl : am_Pl 94 N P) (hd : 68 ≤ d) {I : am_IT} {r : Int32} {I2 : am_IT} (hF : F_X0_choose_30 I = some (r, I2)) : am_C l d 0 0 mX0_choose [.ref 30] N P I (am_qi r N P I2) := by
  refine am_body (sc := am_sc0) (n := 1) (by decide +kernel) (by decide) rfl ?_
  change G am_sc0 l d 0 0 mX0_choose (am_qi r N P I2) 0 [.ref 30, .null] [] N P I 0 0
  unfold F_X0_choose_30 at hF
  refine g_aload_n (pc := 0) dX0_choose_0 rfl rfl ?_
  refine g_getR (pc := 1) (k := 30) (r := 23) kf_X0_35.r rfl rfl (hPl.get (by decide) rfl) (hPl.lt (by decide)) dX0_choose_1 ?_
  obtain ⟨I_2, h_1, hF⟩ := am_b1_el hF
  refine g_cVv (pc := 4) (k := 23) (As := []) (st := []) ky_X8_measure kl_X0_39 (s_X8_measure_23 (d := 2) (hPl) (Nat.le_refl _) h_1) rfl rfl rfl (hPl.lt (by decide)) (Nat.le_trans (by decide) hd) (Nat.le_of_ble_eq_true rfl) (Nat.le_refl _) (Nat.le_refl _) dX0_choose_4 ?_
  refine g_aload_n (pc := 7) dX0_choose_7 rfl rfl ?_
  refine g_iconst (pc := 8) (v := (-1 : Int32)) dX0_choose_8 (by decide) ?_
  obtain ⟨r_4, I_5, h_3, hF⟩ := am_b2_el hF
  refine g_cVi (pc := 9) (k := 30) (As := [.int (-1 : Int32)]) (st := []) ky_X0_greatestWithout kl_X0_44 (s_X0_greatestWithout_30 (d := 67) (hPl) (Nat.le_refl _) h_3) rfl rfl rfl (hPl.lt (by decide)) (Nat.le_trans (by decide) hd) (Nat.le_of_ble_eq_true rfl) (Nat.le_refl _) (Nat.le_refl _) dX0_choose_9 ?_
  refine n_istore_n (pc := 12) (ls2 := [.ref 30, .int r_4]) rfl rfl dX0_choose_12 rfl (Nat.le_of_ble_eq_true rfl) ?_
  refine g_aload_n (pc := 13) dX0_choose_13 rfl rfl ?_
  refine g_getR (pc := 14) (k := 30) (r := 35) kf_X0_24.r rfl rfl (hPl.get (by decide) rfl) (hPl.lt (by decide)) dX0_choose_14 ?_
  refine g_iconst (pc := 17) (v := (0 : Int32)) dX0_choose_17 rfl ?_
  refine g_aload_n (pc := 18) dX0_choose_18 rfl rfl ?_
  refine g_getR (pc := 19) (k := 30) (r := 31) kf_X0_9.r rfl rfl (hPl.get (by decide) rfl) (hPl.lt (by decide)) dX0_choose_19 ?_
  refine g_iconst (pc := 22) (v := (0 : Int32)) dX0_choose_22 rfl ?_
  refine g_aload_n (pc := 23) dX0_choose_23 rfl rfl ?_
  refine g_getR (pc := 24) (k := 30) (r := 31) kf_X0_9.r rfl rfl (hPl.get (by decide) rfl) (hPl.lt (by decide)) dX0_choose_24 ?_
  refine g_alen (pc := 27) (k := 31) (v := 7) rfl (hPl.lt (by decide)) rfl dX0_choose_27 ?_
  obtain ⟨c_6, hF⟩ := am_gd hF
  obtain ⟨I_7, e_I_7, hF⟩ := am_let_el hF
  refine n_acopy (pc := 28) (a := 35) (b := 31) e_I_7 c_6 kl_X0_48 rfl rfl (hPl.lt (by decide)) (hPl.lt (by decide)) (Nat.le_trans (by decide) hd) (Nat.le_of_ble_eq_true rfl) dX0_choose_28 ?_
  refine g_iload_n (pc := 31) dX0_choose_31 rfl rfl ?_
  cases hF
  exact g_iret (pc := 32) rfl (Nat.le_refl _) (Nat.le_refl _) dX0_choose_32 ⟨rfl, rfl, rfl, rfl⟩
def F_X2_gatherFacts_25 (I : am_IT) (a1 : Int32) : Option (am_IT) := am_b3 (am_it am_fu (am_u4 (fun (l2_1 : Int32) (l3_2 : Int32) (l4_3 : Int32) (l5_4 : Int32) => if (I 1 4) ≤ l5_4 then (some (.inr (l2_1, l3_2, l4_3))) else (am_b1 (F_X8_yardsOf_23 I l5_4 a1) (fun (r_15 : Int32) => if r_15 ≤ 0 then (am_let (l5_4 + (1 : Int32)) (fun (l5_17 : Int32) => some (.inl (l2_1, l3_2, l4_3, l5_17)))) else (am_let (l2_1 + (1 : Int32)) (fun (l2_18 : Int32) => am_let (l3_2 + r_15) (fun (l3_19 : Int32) => am_let (if l4_3 < r_15 then r_15 else l4_3) (fun (l4_20 : Int32) => am_let (l5_4 + (1 : Int32)) (fun (l5_21 : Int32) => some (.inl (l2_18, l3_19, l4_20, l5_21))))))))))) ((0 : Int32), (0 : Int32), (0 : Int32), (0 : Int32))) (fun (l2_5 : Int32) (l3_6 : Int32) (l4_7 : Int32) => if am_ix (0 : Int32) 6 = true then (am_let (up2 I 28 (0 : Int32).toNatClampNeg a1) (fun (I_23 : am_IT) => if am_ix (1 : Int32) 6 = true then (am_let (up2 I_23 28 (1 : Int32).toNatClampNeg l2_5) (fun (I_25 : am_IT) => if am_ix (2 : Int32) 6 = true then (am_let (up2 I_25 28 (2 : Int32).toNatClampNeg l3_6) (fun (I_27 : am_IT) => if am_ix (3 : Int32) 6 = true then (am_let (up2 I_27 28 (3 : Int32).toNatClampNeg l4_7) (fun (I_29 : am_IT) => if am_ix a1 7 = true then (if am_ix (4 : Int32) 6 = true then (am_let (up2 I_29 28 (4 : Int32).toNatClampNeg (I_29 3 a1.toNatClampNeg)) (fun (I_32 : am_IT) => if am_ix (5 : Int32) 6 = true then (am_let (up2 I_32 28 (5 : Int32).toNatClampNeg (I_32 1 2)) (fun (I_34 : am_IT) => some I_34)) else none)) else none) else none)) else none)) else none)) else none)) else none)
set_option maxRecDepth 100000 in
set_option maxHeartbeats 4000000 in
theorem s_X2_gatherFacts_25 {l : Launch} {d N : Nat} {P : am_PT} (hPl : am_Pl 94 N P) (hd : 2 ≤ d) {I : am_IT} {a1 : Int32} {I2 : am_IT} (hF : F_X2_gatherFacts_25 I a1 = some (I2)) : am_C l d 0 0 mX2_gatherFacts [.ref 25, .int a1] N P I (am_qv N P I2) := by
  refine am_body (sc := am_sc0) (n := 5) (by decide +kernel) (by decide) rfl ?_
  change G am_sc0 l d 0 0 mX2_gatherFacts (am_qv N P I2) 0 [.ref 25, .int a1, .null, .null, .null, .null, .null] [] N P I 0 0
  unfold F_X2_gatherFacts_25 at hF
  refine g_iconst (pc := 0) (v := (0 : Int32)) dX2_gatherFacts_0 rfl ?_
  refine n_istore_n (pc := 1) (ls2 := [.ref 25, .int a1, .int (0 : Int32), .null, .null, .null, .null]) rfl rfl dX2_gatherFacts_1 rfl (Nat.le_of_ble_eq_true rfl) ?_
  refine g_iconst (pc := 2) (v := (0 : Int32)) dX2_gatherFacts_2 rfl ?_
  refine n_istore_n (pc := 3) (ls2 := [.ref 25, .int a1, .int (0 : Int32), .int (0 : Int32), .null, .null, .null]) rfl rfl dX2_gatherFacts_3 rfl (Nat.le_of_ble_eq_true rfl) ?_
  refine g_iconst (pc := 4) (v := (0 : Int32)) dX2_gatherFacts_4 rfl ?_
  refine n_istore (pc := 5) (ls2 := [.ref 25, .int a1, .int (0 : Int32), .int (0 : Int32), .int (0 : Int32), .null, .null]) rfl rfl dX2_gatherFacts_5 (Nat.le_of_ble_eq_true rfl) ?_
  refine g_iconst (pc := 7) (v := (0 : Int32)) dX2_gatherFacts_7 rfl ?_
  refine n_istore (pc := 8) (ls2 := [.ref 25, .int a1, .int (0 : Int32), .int (0 : Int32), .int (0 : Int32), .int (0 : Int32), .null]) rfl rfl dX2_gatherFacts_8 (Nat.le_of_ble_eq_true rfl) ?_
  obtain ⟨l2_5, l3_6, l4_7, hL_11, hF⟩ := am_b3_el hF
  have hX_8 : G am_sc0 l d 0 0 mX2_gatherFacts (am_qv N P I2) 62 [.ref 25, .int a1, .int l2_5, .int l3_6, .int l4_7, .null, .null] [] N P I 0 0 := by
    refine g_aload_n (pc := 62) dX2_gatherFacts_62 rfl rfl ?_
    refine g_getR (pc := 63) (k := 25) (r := 28) kf_X2_25.r rfl rfl (hPl.get (by decide) rfl) (hPl.lt (by decide)) dX2_gatherFacts_63 ?_
    refine g_iconst (pc := 66) (v := (0 : Int32)) dX2_gatherFacts_66 rfl ?_
    refine g_iload_n (pc := 67) dX2_gatherFacts_67 rfl rfl ?_
    obtain ⟨c_22, hF⟩ := am_gd hF
    obtain ⟨I_23, e_I_23, hF⟩ := am_let_el hF
    refine n_iast (pc := 68) (k := 28) e_I_23 rfl (hPl.lt (by decide)) (am_ix_use c_22) dX2_gatherFacts_68 ?_
    refine g_aload_n (pc := 69) dX2_gatherFacts_69 rfl rfl ?_
    refine g_getR (pc := 70) (k := 25) (r := 28) kf_X2_25.r rfl rfl (hPl.get (by decide) rfl) (hPl.lt (by decide)) dX2_gatherFacts_70 ?_
    refine g_iconst (pc := 73) (v := (1 : Int32)) dX2_gatherFacts_73 rfl ?_
    refine g_iload_n (pc := 74) dX2_gatherFacts_74 rfl rfl ?_
    obtain ⟨c_24, hF⟩ := am_gd hF
    obtain ⟨I_25, e_I_25, hF⟩ := am_let_el hF
    refine n_iast (pc := 75) (k := 28) e_I_25 rfl (hPl.lt (by decide)) (am_ix_use c_24) dX2_gatherFacts_75 ?_
    refine g_aload_n (pc := 76) dX2_gatherFacts_76 rfl rfl ?_
    refine g_getR (pc := 77) (k := 25) (r := 28) kf_X2_25.r rfl rfl (hPl.get (by decide) rfl) (hPl.lt (by decide)) dX2_gatherFacts_77 ?_
    refine g_iconst (pc := 80) (v := (2 : Int32)) dX2_gatherFacts_80 rfl ?_
    refine g_iload_n (pc := 81) dX2_gatherFacts_81 rfl rfl ?_
    obtain ⟨c_26, hF⟩ := am_gd hF
    obtain ⟨I_27, e_I_27, hF⟩ := am_let_el hF
    refine n_iast (pc := 82) (k := 28) e_I_27 rfl (hPl.lt (by decide)) (am_ix_use c_26) dX2_gatherFacts_82 ?_
    refine g_aload_n (pc := 83) dX2_gatherFacts_83 rfl rfl ?_
    refine g_getR (pc := 84) (k := 25) (r := 28) kf_X2_25.r rfl rfl (hPl.get (by decide) rfl) (hPl.lt (by decide)) dX2_gatherFacts_84 ?_
    refine g_iconst (pc := 87) (v := (3 : Int32)) dX2_gatherFacts_87 rfl ?_
    refine g_iload (pc := 88) dX2_gatherFacts_88 rfl ?_
    obtain ⟨c_28, hF⟩ := am_gd hF
    obtain ⟨I_29, e_I_29, hF⟩ := am_let_el hF
    refine n_iast (pc := 90) (k := 28) e_I_29 rfl (hPl.lt (by decide)) (am_ix_use c_28) dX2_gatherFacts_90 ?_
    refine g_aload_n (pc := 91) dX2_gatherFacts_91 rfl rfl ?_
    refine g_getR (pc := 92) (k := 25) (r := 28) kf_X2_25.r rfl rfl (hPl.get (by decide) rfl) (hPl.lt (by decide)) dX2_gatherFacts_92 ?_
    refine g_iconst (pc := 95) (v := (4 : Int32)) dX2_gatherFacts_95 rfl ?_
    refine g_aload_n (pc := 96) dX2_gatherFacts_96 rfl rfl ?_
    refine g_getR (pc := 97) (k := 25) (r := 1) kf_X2_31.r rfl rfl (hPl.get (by decide) rfl) (hPl.lt (by decide)) dX2_gatherFacts_97 ?_
    refine g_getR (pc := 100) (k := 1) (r := 3) kf_X2_81 rfl rfl (hPl.get (by decide) rfl) (hPl.lt (by decide)) dX2_gatherFacts_100 ?_
    refine g_iload_n (pc := 103) dX2_gatherFacts_103 rfl rfl ?_
    obtain ⟨c_30, hF⟩ := am_gd hF
    refine g_iald (pc := 104) (k := 3) rfl (hPl.lt (by decide)) (am_ix_use c_30) dX2_gatherFacts_104 ?_
    obtain ⟨c_31, hF⟩ := am_gd hF
    obtain ⟨I_32, e_I_32, hF⟩ := am_let_el hF
    refine n_iast (pc := 105) (k := 28) e_I_32 rfl (hPl.lt (by decide)) (am_ix_use c_31) dX2_gatherFacts_105 ?_
    refine g_aload_n (pc := 106) dX2_gatherFacts_106 rfl rfl ?_
    refine g_getR (pc := 107) (k := 25) (r := 28) kf_X2_25.r rfl rfl (hPl.get (by decide) rfl) (hPl.lt (by decide)) dX2_gatherFacts_107 ?_
    refine g_iconst (pc := 110) (v := (5 : Int32)) dX2_gatherFacts_110 rfl ?_
    refine g_aload_n (pc := 111) dX2_gatherFacts_111 rfl rfl ?_
    refine g_getR (pc := 112) (k := 25) (r := 1) kf_X2_31.r rfl rfl (hPl.get (by decide) rfl) (hPl.lt (by decide)) dX2_gatherFacts_112 ?_
    refine g_getI (pc := 115) (k := 1) kf_X2_114.r rfl rfl (hPl.lt (by decide)) dX2_gatherFacts_115 ?_
    obtain ⟨c_33, hF⟩ := am_gd hF
    obtain ⟨I_34, e_I_34, hF⟩ := am_let_el hF
    refine n_iast (pc := 118) (k := 28) e_I_34 rfl (hPl.lt (by decide)) (am_ix_use c_33) dX2_gatherFacts_118 ?_
    cases hF
    exact g_vret (pc := 119) rfl (Nat.le_refl _) (Nat.le_refl _) dX2_gatherFacts_119 ⟨rfl, rfl, rfl, rfl⟩
  clear hF
  have hC := am_loop (C := fun x => G am_sc0 l d 0 0 mX2_gatherFacts (am_qv N P I2) 10 [.ref 25, .int a1, .int x.1, .int x.2.1, .int x.2.2.1, .int x.2.2.2, .null] [] N P I 0 0) (by
    rintro ⟨l2_1, l3_2, l4_3, l5_4⟩ rr hF ih_9 hE_10
    replace hF := am_u4_ap hF
    change G am_sc0 l d 0 0 mX2_gatherFacts (am_qv N P I2) 10 [.ref 25, .int a1, .int l2_1, .int l3_2, .int l4_3, .int l5_4, .null] [] N P I 0 0
    refine g_iload (pc := 10) dX2_gatherFacts_10 rfl ?_
    refine g_aload_n (pc := 12) dX2_gatherFacts_12 rfl rfl ?_
    refine g_getR (pc := 13) (k := 25) (r := 1) kf_X2_31.r rfl rfl (hPl.get (by decide) rfl) (hPl.lt (by decide)) dX2_gatherFacts_13 ?_
    refine g_getI (pc := 16) (k := 1) kf_X2_102.r rfl rfl (hPl.lt (by decide)) dX2_gatherFacts_16 ?_
    refine g_icmp_ge (pc := 19) (tgt := 62) dX2_gatherFacts_19 rfl (fun c_13 => ?_) (fun c_13 => ?_)
    · replace hF := am_yes c_13 hF
      cases hF
      cases hE_10 _ rfl
      exact g_weak hX_8 ⟨Or.inr rfl, Or.inr rfl, Or.inr rfl, Or.inr rfl, Or.inr rfl, Or.inl rfl, Or.inl rfl, trivial⟩
    · replace hF := am_no c_13 hF
      refine g_aload_n (pc := 22) dX2_gatherFacts_22 rfl rfl ?_
      refine g_getR (pc := 23) (k := 25) (r := 23) kf_X2_35.r rfl rfl (hPl.get (by decide) rfl) (hPl.lt (by decide)) dX2_gatherFacts_23 ?_
      refine g_iload (pc := 26) dX2_gatherFacts_26 rfl ?_
      refine g_iload_n (pc := 28) dX2_gatherFacts_28 rfl rfl ?_
      obtain ⟨r_15, h_14, hF⟩ := am_b1_el hF
      refine g_cVi (pc := 29) (k := 23) (As := [.int l5_4, .int a1]) (st := []) ky_X8_yardsOf kl_X2_105 (s_X8_yardsOf_23 (d := 1) (hPl) (Nat.le_refl _) h_14) rfl rfl rfl (hPl.lt (by decide)) (Nat.le_trans (by decide) hd) (Nat.le_of_ble_eq_true rfl) (Nat.le_refl _) (Nat.le_refl _) dX2_gatherFacts_29 ?_
      refine n_istore (pc := 32) (ls2 := [.ref 25, .int a1, .int l2_1, .int l3_2, .int l4_3, .int l5_4, .int r_15]) rfl rfl dX2_gatherFacts_32 (Nat.le_of_ble_eq_true rfl) ?_
      refine g_iload (pc := 34) dX2_gatherFacts_34 rfl ?_
      refine g_if_le (pc := 36) (tgt := 56) dX2_gatherFacts_36 rfl (fun c_16 => ?_) (fun c_16 => ?_)
      · replace hF := am_yes c_16 hF
        obtain ⟨l5_17, e_l5_17, hF⟩ := am_let_el hF
        refine n_iinc (pc := 56) (ls2 := [.ref 25, .int a1, .int l2_1, .int l3_2, .int l4_3, .int l5_17, .int r_15]) e_l5_17 rfl rfl rfl dX2_gatherFacts_56 (Nat.le_of_ble_eq_true rfl) ?_
        refine g_goto (pc := 59) (tgt := 10) dX2_gatherFacts_59 rfl ?_
        cases hF
        exact g_weak (ih_9 (l2_1, l3_2, l4_3, l5_17) rfl) ⟨Or.inr rfl, Or.inr rfl, Or.inr rfl, Or.inr rfl, Or.inr rfl, Or.inr rfl, Or.inl rfl, trivial⟩
      · replace hF := am_no c_16 hF
        obtain ⟨l2_18, e_l2_18, hF⟩ := am_let_el hF
        refine n_iinc (pc := 39) (ls2 := [.ref 25, .int a1, .int l2_18, .int l3_2, .int l4_3, .int l5_4, .int r_15]) e_l2_18 rfl rfl rfl dX2_gatherFacts_39 (Nat.le_of_ble_eq_true rfl) ?_
        refine g_iload_n (pc := 42) dX2_gatherFacts_42 rfl rfl ?_
        refine g_iload (pc := 43) dX2_gatherFacts_43 rfl ?_
        refine g_iadd (pc := 45) dX2_gatherFacts_45 ?_
        obtain ⟨l3_19, e_l3_19, hF⟩ := am_let_el hF
        refine n_istore_n (pc := 46) (ls2 := [.ref 25, .int a1, .int l2_18, .int l3_19, .int l4_3, .int l5_4, .int r_15]) e_l3_19 rfl dX2_gatherFacts_46 rfl (Nat.le_of_ble_eq_true rfl) ?_
        refine g_iload (pc := 47) dX2_gatherFacts_47 rfl ?_
        refine g_iload (pc := 49) dX2_gatherFacts_49 rfl ?_
        refine g_mmax (pc := 51) kl_X2_109 kz_maxs kz_mi kz_maxc (Nat.le_trans (by decide) hd) (Nat.le_of_ble_eq_true rfl) (Nat.le_refl _) (Nat.le_refl _) dX2_gatherFacts_51 ?_
        obtain ⟨l4_20, e_l4_20, hF⟩ := am_let_el hF
        refine n_istore (pc := 54) (ls2 := [.ref 25, .int a1, .int l2_18, .int l3_19, .int l4_20, .int l5_4, .int r_15]) e_l4_20 rfl dX2_gatherFacts_54 (Nat.le_of_ble_eq_true rfl) ?_
        obtain ⟨l5_21, e_l5_21, hF⟩ := am_let_el hF
        refine n_iinc (pc := 56) (ls2 := [.ref 25, .int a1, .int l2_18, .int l3_19, .int l4_20, .int l5_21, .int r_15]) e_l5_21 rfl rfl rfl dX2_gatherFacts_56 (Nat.le_of_ble_eq_true rfl) ?_
        refine g_goto (pc := 59) (tgt := 10) dX2_gatherFacts_59 rfl ?_
        cases hF
        exact g_weak (ih_9 (l2_18, l3_19, l4_20, l5_21) rfl) ⟨Or.inr rfl, Or.inr rfl, Or.inr rfl, Or.inr rfl, Or.inr rfl, Or.inr rfl, Or.inl rfl, trivial⟩
    ) _ _ hL_11
  exact hC
def F_X6_stepsFrom_11 (I : am_IT) (a1 : Int32) : Option (Int32) := if a1 ≤ 0 then (some (0 : Int32)) else (if (16 : Int32) < a1 then (some (0 : Int32)) else (if am_ix (a1 - (1 : Int32)) 16 = true then (some (I 13 (a1 - (1 : Int32)).toNatClampNeg)) else none))
set_option maxRecDepth 100000 in
set_option maxHeartbeats 4000000 in
theorem s_X6_stepsFrom_11 {l : Launch} {d N : Nat} {P : am_PT} (hPl : am_Pl 94 N P) (hd : 1 ≤ d) {I : am_IT} {a1 : Int32} {r : Int32} (hF : F_X6_stepsFrom_11 I a1 = some (r)) : am_C l d 0 0 mX6_stepsFrom [.ref 11, .int a1] N P I (am_qi r N P I) := by
  refine am_body (sc := am_sc0) (n := 0) (by decide +kernel) (by decide) rfl ?_
  change G am_sc0 l d 0 0 mX6_stepsFrom (am_qi r N P I) 0 [.ref 11, .int a1] [] N P I 0 0
  unfold F_X6_stepsFrom_11 at hF
  refine g_iload_n (pc := 0) dX6_stepsFrom_0 rfl rfl ?_
  refine g_if_le (pc := 1) (tgt := 21) dX6_stepsFrom_1 rfl (fun c_1 => ?_) (fun c_1 => ?_)
  · replace hF := am_yes c_1 hF
    refine g_iconst (pc := 21) (v := (0 : Int32)) dX6_stepsFrom_21 rfl ?_
    cases hF
    exact g_iret (pc := 22) rfl (Nat.le_refl _) (Nat.le_refl _) dX6_stepsFrom_22 ⟨rfl, rfl, rfl, rfl⟩
  · replace hF := am_no c_1 hF
    refine g_iload_n (pc := 4) dX6_stepsFrom_4 rfl rfl ?_
    refine g_bipush (pc := 5) (v := (16 : Int32)) dX6_stepsFrom_5 rfl ?_
    refine g_icmp_gt (pc := 7) (tgt := 21) dX6_stepsFrom_7 rfl (fun c_2 => ?_) (fun c_2 => ?_)
    · replace hF := am_yes c_2 hF
      refine g_iconst (pc := 21) (v := (0 : Int32)) dX6_stepsFrom_21 rfl ?_
      cases hF
      exact g_iret (pc := 22) rfl (Nat.le_refl _) (Nat.le_refl _) dX6_stepsFrom_22 ⟨rfl, rfl, rfl, rfl⟩
    · replace hF := am_no c_2 hF
      refine g_aload_n (pc := 10) dX6_stepsFrom_10 rfl rfl ?_
      refine g_getR (pc := 11) (k := 11) (r := 13) kf_X6_22.r rfl rfl (hPl.get (by decide) rfl) (hPl.lt (by decide)) dX6_stepsFrom_11 ?_
      refine g_iload_n (pc := 14) dX6_stepsFrom_14 rfl rfl ?_
      refine g_iconst (pc := 15) (v := (1 : Int32)) dX6_stepsFrom_15 rfl ?_
      refine g_isub (pc := 16) dX6_stepsFrom_16 ?_
      obtain ⟨c_3, hF⟩ := am_gd hF
      refine g_iald (pc := 17) (k := 13) rfl (hPl.lt (by decide)) (am_ix_use c_3) dX6_stepsFrom_17 ?_
      refine g_goto (pc := 18) (tgt := 22) dX6_stepsFrom_18 rfl ?_
      cases hF
      exact g_iret (pc := 22) rfl (Nat.le_refl _) (Nat.le_refl _) dX6_stepsFrom_22 ⟨rfl, rfl, rfl, rfl⟩
def F_X2_factAt_25 (I : am_IT) (a1 : Int32) : Option (Int32) := if a1 < 0 then (some (0 : Int32)) else (if (6 : Int32) ≤ a1 then (some (0 : Int32)) else (if am_ix a1 6 = true then (some (I 28 a1.toNatClampNeg)) else none))
set_option maxRecDepth 100000 in
set_option maxHeartbeats 4000000 in
theorem s_X2_factAt_25 {l : Launch} {d N : Nat} {P : am_PT} (hPl : am_Pl 94 N P) (hd : 1 ≤ d) {I : am_IT} {a1 : Int32} {r : Int32} (hF : F_X2_factAt_25 I a1 = some (r)) : am_C l d 0 0 mX2_factAt [.ref 25, .int a1] N P I (am_qi r N P I) := by
  refine am_body (sc := am_sc0) (n := 0) (by decide +kernel) (by decide) rfl ?_
  change G am_sc0 l d 0 0 mX2_factAt (am_qi r N P I) 0 [.ref 25, .int a1] [] N P I 0 0
  unfold F_X2_factAt_25 at hF
  refine g_iload_n (pc := 0) dX2_factAt_0 rfl rfl ?_
  refine g_if_lt (pc := 1) (tgt := 22) dX2_factAt_1 rfl (fun c_1 => ?_) (fun c_1 => ?_)
  · replace hF := am_yes c_1 hF
    refine g_iconst (pc := 22) (v := (0 : Int32)) dX2_factAt_22 rfl ?_
    cases hF
    exact g_iret (pc := 23) rfl (Nat.le_refl _) (Nat.le_refl _) dX2_factAt_23 ⟨rfl, rfl, rfl, rfl⟩
  · replace hF := am_no c_1 hF
    refine g_iload_n (pc := 4) dX2_factAt_4 rfl rfl ?_
    refine g_aload_n (pc := 5) dX2_factAt_5 rfl rfl ?_
    refine g_getR (pc := 6) (k := 25) (r := 28) kf_X2_25.r rfl rfl (hPl.get (by decide) rfl) (hPl.lt (by decide)) dX2_factAt_6 ?_
    refine g_alen (pc := 9) (k := 28) (v := 6) rfl (hPl.lt (by decide)) rfl dX2_factAt_9 ?_
    refine g_icmp_ge (pc := 10) (tgt := 22) dX2_factAt_10 rfl (fun c_2 => ?_) (fun c_2 => ?_)
    · replace hF := am_yes c_2 hF
      refine g_iconst (pc := 22) (v := (0 : Int32)) dX2_factAt_22 rfl ?_
      cases hF
      exact g_iret (pc := 23) rfl (Nat.le_refl _) (Nat.le_refl _) dX2_factAt_23 ⟨rfl, rfl, rfl, rfl⟩
    · replace hF := am_no c_2 hF
      refine g_aload_n (pc := 13) dX2_factAt_13 rfl rfl ?_
      refine g_getR (pc := 14) (k := 25) (r := 28) kf_X2_25.r rfl rfl (hPl.get (by decide) rfl) (hPl.lt (by decide)) dX2_factAt_14 ?_
      refine g_iload_n (pc := 17) dX2_factAt_17 rfl rfl ?_
      obtain ⟨c_3, hF⟩ := am_gd hF
      refine g_iald (pc := 18) (k := 28) rfl (hPl.lt (by decide)) (am_ix_use c_3) dX2_factAt_18 ?_
      refine g_goto (pc := 19) (tgt := 23) dX2_factAt_19 rfl ?_
      cases hF
      exact g_iret (pc := 23) rfl (Nat.le_refl _) (Nat.le_refl _) dX2_factAt_23 ⟨rfl, rfl, rfl, rfl⟩
def F_X2_part (I : am_IT) (a1 : Int32) (a2 : Int32) : Option (Int32) := if a2 = 0 then (some (0 : Int32)) else (if ¬ a2 = (0 : Int32) then (some (a1 / a2)) else none)
set_option maxRecDepth 100000 in
set_option maxHeartbeats 4000000 in
theorem s_X2_part {l : Launch} {d N : Nat} {P : am_PT} (hPl : am_Pl 94 N P) (hd : 1 ≤ d) {I : am_IT} {a1 : Int32} {a2 : Int32} {r : Int32} (hF : F_X2_part I a1 a2 = some (r)) : am_C l d 0 0 mX2_part [.int a1, .int a2] N P I (am_qi r N P I) := by
  refine am_body (sc := am_sc0) (n := 0) (by decide +kernel) (by decide) rfl ?_
  change G am_sc0 l d 0 0 mX2_part (am_qi r N P I) 0 [.int a1, .int a2] [] N P I 0 0
  unfold F_X2_part at hF
  refine g_iload_n (pc := 0) dX2_part_0 rfl rfl ?_
  refine g_if_eq (pc := 1) (tgt := 10) dX2_part_1 rfl (fun c_1 => ?_) (fun c_1 => ?_)
  · replace hF := am_yes c_1 hF
    refine g_iconst (pc := 10) (v := (0 : Int32)) dX2_part_10 rfl ?_
    cases hF
    exact g_iret (pc := 11) rfl (Nat.le_refl _) (Nat.le_refl _) dX2_part_11 ⟨rfl, rfl, rfl, rfl⟩
  · replace hF := am_no c_1 hF
    refine g_iload_n (pc := 4) dX2_part_4 rfl rfl ?_
    refine g_iload_n (pc := 5) dX2_part_5 rfl rfl ?_
    obtain ⟨c_2, hF⟩ := am_gd hF
    refine g_idiv (pc := 6) dX2_part_6 c_2 ?_
    refine g_goto (pc := 7) (tgt := 11) dX2_part_7 rfl ?_
    cases hF
    exact g_iret (pc := 11) rfl (Nat.le_refl _) (Nat.le_refl _) dX2_part_11 ⟨rfl, rfl, rfl, rfl⟩
def F_X2_joined (I : am_IT) (a1 : Int32) (a2 : Int32) (a3 : Int32) : Option (Int32) := if a1 = (4 : Int32) then (some (a2 + a3)) else (if a1 = (5 : Int32) then (some (a2 - a3)) else (if a1 = (6 : Int32) then (some (a2 * a3)) else (if a1 = (7 : Int32) then (if a3 ≤ a2 then (some (0 : Int32)) else (some (1 : Int32))) else (if a1 = (8 : Int32) then (if a2 = a3 then (some (1 : Int32)) else (some (0 : Int32))) else (if a1 = (9 : Int32) then (if a2 ≤ a3 then (some (0 : Int32)) else (some (1 : Int32))) else (if a1 = (10 : Int32) then (some (a2 &&& a3)) else (if am_out a1 (4) (10) = true then (some (a2 ||| a3)) else none)))))))
set_option maxRecDepth 100000 in
set_option maxHeartbeats 4000000 in
theorem s_X2_joined {l : Launch} {d N : Nat} {P : am_PT} (hPl : am_Pl 94 N P) (hd : 1 ≤ d) {I : am_IT} {a1 : Int32} {a2 : Int32} {a3 : Int32} {r : Int32} (hF : F_X2_joined I a1 a2 a3 = some (r)) : am_C l d 0 0 mX2_joined [.int a1, .int a2, .int a3] N P I (am_qi r N P I) := by
  refine am_body (sc := am_sc0) (n := 0) (by decide +kernel) (by decide) rfl ?_
  change G am_sc0 l d 0 0 mX2_joined (am_qi r N P I) 0 [.int a1, .int a2, .int a3] [] N P I 0 0
  unfold F_X2_joined at hF
  refine g_iload_n (pc := 0) dX2_joined_0 rfl rfl ?_
  by_cases c_1 : a1 = (4 : Int32)
  · replace hF := am_yes c_1 hF
    refine g_tableIn (pc := 1) (tgt := 44) dX2_joined_1 (by rw [c_1]; decide) (by rw [c_1]; decide) (by rw [c_1]; rfl) rfl ?_
    refine g_iload_n (pc := 44) dX2_joined_44 rfl rfl ?_
    refine g_iload_n (pc := 45) dX2_joined_45 rfl rfl ?_
    refine g_iadd (pc := 46) dX2_joined_46 ?_
    cases hF
    exact g_iret (pc := 47) rfl (Nat.le_refl _) (Nat.le_refl _) dX2_joined_47 ⟨rfl, rfl, rfl, rfl⟩
  · replace hF := am_no c_1 hF
    by_cases c_2 : a1 = (5 : Int32)
    · replace hF := am_yes c_2 hF
      refine g_tableIn (pc := 1) (tgt := 48) dX2_joined_1 (by rw [c_2]; decide) (by rw [c_2]; decide) (by rw [c_2]; rfl) rfl ?_
      refine g_iload_n (pc := 48) dX2_joined_48 rfl rfl ?_
      refine g_iload_n (pc := 49) dX2_joined_49 rfl rfl ?_
      refine g_isub (pc := 50) dX2_joined_50 ?_
      cases hF
      exact g_iret (pc := 51) rfl (Nat.le_refl _) (Nat.le_refl _) dX2_joined_51 ⟨rfl, rfl, rfl, rfl⟩
    · replace hF := am_no c_2 hF
      by_cases c_3 : a1 = (6 : Int32)
      · replace hF := am_yes c_3 hF
        refine g_tableIn (pc := 1) (tgt := 52) dX2_joined_1 (by rw [c_3]; decide) (by rw [c_3]; decide) (by rw [c_3]; rfl) rfl ?_
        refine g_iload_n (pc := 52) dX2_joined_52 rfl rfl ?_
        refine g_iload_n (pc := 53) dX2_joined_53 rfl rfl ?_
        refine g_imul (pc := 54) dX2_joined_54 ?_
        cases hF
        exact g_iret (pc := 55) rfl (Nat.le_refl _) (Nat.le_refl _) dX2_joined_55 ⟨rfl, rfl, rfl, rfl⟩
      · replace hF := am_no c_3 hF
        by_cases c_4 : a1 = (7 : Int32)
        · replace hF := am_yes c_4 hF
          refine g_tableIn (pc := 1) (tgt := 56) dX2_joined_1 (by rw [c_4]; decide) (by rw [c_4]; decide) (by rw [c_4]; rfl) rfl ?_
          refine g_iload_n (pc := 56) dX2_joined_56 rfl rfl ?_
          refine g_iload_n (pc := 57) dX2_joined_57 rfl rfl ?_
          refine g_icmp_ge (pc := 58) (tgt := 65) dX2_joined_58 rfl (fun c_5 => ?_) (fun c_5 => ?_)
          · replace hF := am_yes c_5 hF
            refine g_iconst (pc := 65) (v := (0 : Int32)) dX2_joined_65 rfl ?_
            cases hF
            exact g_iret (pc := 66) rfl (Nat.le_refl _) (Nat.le_refl _) dX2_joined_66 ⟨rfl, rfl, rfl, rfl⟩
          · replace hF := am_no c_5 hF
            refine g_iconst (pc := 61) (v := (1 : Int32)) dX2_joined_61 rfl ?_
            refine g_goto (pc := 62) (tgt := 66) dX2_joined_62 rfl ?_
            cases hF
            exact g_iret (pc := 66) rfl (Nat.le_refl _) (Nat.le_refl _) dX2_joined_66 ⟨rfl, rfl, rfl, rfl⟩
        · replace hF := am_no c_4 hF
          by_cases c_6 : a1 = (8 : Int32)
          · replace hF := am_yes c_6 hF
            refine g_tableIn (pc := 1) (tgt := 67) dX2_joined_1 (by rw [c_6]; decide) (by rw [c_6]; decide) (by rw [c_6]; rfl) rfl ?_
            refine g_iload_n (pc := 67) dX2_joined_67 rfl rfl ?_
            refine g_iload_n (pc := 68) dX2_joined_68 rfl rfl ?_
            refine g_icmp_ne (pc := 69) (tgt := 76) dX2_joined_69 rfl (fun c_7 => ?_) (fun c_7 => ?_)
            · replace hF := am_no c_7 hF
              refine g_iconst (pc := 76) (v := (0 : Int32)) dX2_joined_76 rfl ?_
              cases hF
              exact g_iret (pc := 77) rfl (Nat.le_refl _) (Nat.le_refl _) dX2_joined_77 ⟨rfl, rfl, rfl, rfl⟩
            · replace hF := am_yes c_7 hF
              refine g_iconst (pc := 72) (v := (1 : Int32)) dX2_joined_72 rfl ?_
              refine g_goto (pc := 73) (tgt := 77) dX2_joined_73 rfl ?_
              cases hF
              exact g_iret (pc := 77) rfl (Nat.le_refl _) (Nat.le_refl _) dX2_joined_77 ⟨rfl, rfl, rfl, rfl⟩
          · replace hF := am_no c_6 hF
            by_cases c_8 : a1 = (9 : Int32)
            · replace hF := am_yes c_8 hF
              refine g_tableIn (pc := 1) (tgt := 78) dX2_joined_1 (by rw [c_8]; decide) (by rw [c_8]; decide) (by rw [c_8]; rfl) rfl ?_
              refine g_iload_n (pc := 78) dX2_joined_78 rfl rfl ?_
              refine g_iload_n (pc := 79) dX2_joined_79 rfl rfl ?_
              refine g_icmp_le (pc := 80) (tgt := 87) dX2_joined_80 rfl (fun c_9 => ?_) (fun c_9 => ?_)
              · replace hF := am_yes c_9 hF
                refine g_iconst (pc := 87) (v := (0 : Int32)) dX2_joined_87 rfl ?_
                cases hF
                exact g_iret (pc := 88) rfl (Nat.le_refl _) (Nat.le_refl _) dX2_joined_88 ⟨rfl, rfl, rfl, rfl⟩
              · replace hF := am_no c_9 hF
                refine g_iconst (pc := 83) (v := (1 : Int32)) dX2_joined_83 rfl ?_
                refine g_goto (pc := 84) (tgt := 88) dX2_joined_84 rfl ?_
                cases hF
                exact g_iret (pc := 88) rfl (Nat.le_refl _) (Nat.le_refl _) dX2_joined_88 ⟨rfl, rfl, rfl, rfl⟩
            · replace hF := am_no c_8 hF
              by_cases c_10 : a1 = (10 : Int32)
              · replace hF := am_yes c_10 hF
                refine g_tableIn (pc := 1) (tgt := 89) dX2_joined_1 (by rw [c_10]; decide) (by rw [c_10]; decide) (by rw [c_10]; rfl) rfl ?_
                refine g_iload_n (pc := 89) dX2_joined_89 rfl rfl ?_
                refine g_iload_n (pc := 90) dX2_joined_90 rfl rfl ?_
                refine g_iand (pc := 91) dX2_joined_91 ?_
                cases hF
                exact g_iret (pc := 92) rfl (Nat.le_refl _) (Nat.le_refl _) dX2_joined_92 ⟨rfl, rfl, rfl, rfl⟩
              · replace hF := am_no c_10 hF
                obtain ⟨c_11, hF⟩ := am_gd hF
                refine g_tableOut (pc := 1) (tgt := 93) dX2_joined_1 (am_out_use c_11) rfl ?_
                refine g_iload_n (pc := 93) dX2_joined_93 rfl rfl ?_
                refine g_iload_n (pc := 94) dX2_joined_94 rfl rfl ?_
                refine g_ior (pc := 95) dX2_joined_95 ?_
                cases hF
                exact g_iret (pc := 96) rfl (Nat.le_refl _) (Nat.le_refl _) dX2_joined_96 ⟨rfl, rfl, rfl, rfl⟩
def F_X2_holds_25 (I : am_IT) (a1 : Int32) (a2 : Int32) : Option (Int32 × am_IT) := am_lr (am_it am_fu (am_u3 (fun (l4_1 : Int32) (l5_2 : Int32) (I_3 : am_IT) => if a2 ≤ l5_2 then (some (.inr (.inl (l4_1, I_3)))) else (if (400 : Int32) ≤ l5_2 then (some (.inr (.inl (l4_1, I_3)))) else (if am_ix l5_2 400 = true then (am_let ((I_3 14 l5_2.toNatClampNeg) &&& (15 : Int32)) (fun (l6_14 : Int32) => if am_ix l5_2 400 = true then (am_let ((I_3 14 l5_2.toNatClampNeg) >>> ((4 : Int32) &&& 31)) (fun (l7_16 : Int32) => if l6_14 = 0 then (if l4_1 < (32 : Int32) then (if l6_14 = 0 then (if am_ix l4_1 32 = true then (am_let (up2 I_3 29 l4_1.toNatClampNeg l7_16) (fun (I_27 : am_IT) => am_let (l4_1 + (1 : Int32)) (fun (l4_28 : Int32) => am_let (l5_2 + (1 : Int32)) (fun (l5_29 : Int32) => some (.inl (l4_28, l5_29, I_27)))))) else none) else (am_b1 (F_X2_factAt_25 I_3 l7_16) (fun (r_21 : Int32) => if am_ix l4_1 32 = true then (am_let (up2 I_3 29 l4_1.toNatClampNeg r_21) (fun (I_23 : am_IT) => am_let (l4_1 + (1 : Int32)) (fun (l4_24 : Int32) => am_let (l5_2 + (1 : Int32)) (fun (l5_25 : Int32) => some (.inl (l4_24, l5_25, I_23)))))) else none))) else (some (.inr (.inr ((0 : Int32), I_3))))) else (if l6_14 = (1 : Int32) then (if l4_1 < (32 : Int32) then (if l6_14 = 0 then (if am_ix l4_1 32 = true then (am_let (up2 I_3 29 l4_1.toNatClampNeg l7_16) (fun (I_79 : am_IT) => am_let (l4_1 + (1 : Int32)) (fun (l4_80 : Int32) => am_let (l5_2 + (1 : Int32)) (fun (l5_81 : Int32) => some (.inl (l4_80, l5_81, I_79)))))) else none) else (am_b1 (F_X2_factAt_25 I_3 l7_16) (fun (r_73 : Int32) => if am_ix l4_1 32 = true then (am_let (up2 I_3 29 l4_1.toNatClampNeg r_73) (fun (I_75 : am_IT) => am_let (l4_1 + (1 : Int32)) (fun (l4_76 : Int32) => am_let (l5_2 + (1 : Int32)) (fun (l5_77 : Int32) => some (.inl (l4_76, l5_77, I_75)))))) else none))) else (some (.inr (.inr ((0 : Int32), I_3))))) else (if l6_14 = (3 : Int32) then (if (1 : Int32) ≤ l4_1 then (if l6_14 = (3 : Int32) then (if am_ix (l4_1 - (1 : Int32)) 32 = true then (if am_ix (l4_1 - (1 : Int32)) 32 = true then (am_let (up2 I_3 29 (l4_1 - (1 : Int32)).toNatClampNeg ((1 : Int32) - (I_3 29 (l4_1 - (1 : Int32)).toNatClampNeg))) (fun (I_43 : am_IT) => am_let (l5_2 + (1 : Int32)) (fun (l5_44 : Int32) => some (.inl (l4_1, l5_44, I_43))))) else none) else none) else (if am_ix (l4_1 - (1 : Int32)) 32 = true then (am_b1 (F_X2_part I_3 (I_3 29 (l4_1 - (1 : Int32)).toNatClampNeg) l7_16) (fun (r_37 : Int32) => if am_ix (l4_1 - (1 : Int32)) 32 = true then (am_let (up2 I_3 29 (l4_1 - (1 : Int32)).toNatClampNeg r_37) (fun (I_39 : am_IT) => am_let (l5_2 + (1 : Int32)) (fun (l5_40 : Int32) => some (.inl (l4_1, l5_40, I_39))))) else none)) else none)) else (some (.inr (.inr ((0 : Int32), I_3))))) else (if l6_14 = (2 : Int32) then (if (1 : Int32) ≤ l4_1 then (if l6_14 = (3 : Int32) then (if am_ix (l4_1 - (1 : Int32)) 32 = true then (if am_ix (l4_1 - (1 : Int32)) 32 = true then (am_let (up2 I_3 29 (l4_1 - (1 : Int32)).toNatClampNeg ((1 : Int32) - (I_3 29 (l4_1 - (1 : Int32)).toNatClampNeg))) (fun (I_67 : am_IT) => am_let (l5_2 + (1 : Int32)) (fun (l5_68 : Int32) => some (.inl (l4_1, l5_68, I_67))))) else none) else none) else (if am_ix (l4_1 - (1 : Int32)) 32 = true then (am_b1 (F_X2_part I_3 (I_3 29 (l4_1 - (1 : Int32)).toNatClampNeg) l7_16) (fun (r_61 : Int32) => if am_ix (l4_1 - (1 : Int32)) 32 = true then (am_let (up2 I_3 29 (l4_1 - (1 : Int32)).toNatClampNeg r_61) (fun (I_63 : am_IT) => am_let (l5_2 + (1 : Int32)) (fun (l5_64 : Int32) => some (.inl (l4_1, l5_64, I_63))))) else none)) else none)) else (some (.inr (.inr ((0 : Int32), I_3))))) else (if (2 : Int32) ≤ l4_1 then (am_let (l4_1 + (-1 : Int32)) (fun (l4_48 : Int32) => if am_ix (l4_48 - (1 : Int32)) 32 = true then (if am_ix l4_48 32 = true then (am_b1 (F_X2_joined I_3 l6_14 (I_3 29 (l4_48 - (1 : Int32)).toNatClampNeg) (I_3 29 l4_48.toNatClampNeg)) (fun (r_52 : Int32) => if am_ix (l4_48 - (1 : Int32)) 32 = true then (am_let (up2 I_3 29 (l4_48 - (1 : Int32)).toNatClampNeg r_52) (fun (I_54 : am_IT) => am_let (l5_2 + (1 : Int32)) (fun (l5_55 : Int32) => some (.inl (l4_48, l5_55, I_54))))) else none)) else none) else none)) else (some (.inr (.inr ((0 : Int32), I_3)))))))))) else none)) else none)))) ((0 : Int32), a1, I)) (am_u2 (fun (l4_4 : Int32) (I_5 : am_IT) => if l4_4 ≤ 0 then (some ((0 : Int32), I_5)) else (if am_ix (0 : Int32) 32 = true then (if (I_5 29 (0 : Int32).toNatClampNeg) = 0 then (some ((0 : Int32), I_5)) else (some ((1 : Int32), I_5))) else none)))
set_option maxRecDepth 100000 in
set_option maxHeartbeats 4000000 in
theorem s_X2_holds_25 {l : Launch} {d N : Nat} {P : am_PT} (hPl : am_Pl 94 N P) (hd : 2 ≤ d) {I : am_IT} {a1 : Int32} {a2 : Int32} {r : Int32} {I2 : am_IT} (hF : F_X2_holds_25 I a1 a2 = some (r, I2)) : am_C l d 0 0 mX2_holds [.ref 25, .int a1, .int a2] N P I (am_qz r N P I2) := by
  refine am_body (sc := am_sc0) (n := 5) (by decide +kernel) (by decide) rfl ?_
  change G am_sc0 l d 0 0 mX2_holds (am_qz r N P I2) 0 [.ref 25, .int a1, .int a2, .null, .null, .null, .null, .null] [] N P I 0 0
  unfold F_X2_holds_25 at hF
  refine g_aload_n (pc := 0) dX2_holds_0 rfl rfl ?_
  refine g_getR (pc := 1) (k := 25) (r := 1) kf_X2_31.r rfl rfl (hPl.get (by decide) rfl) (hPl.lt (by decide)) dX2_holds_1 ?_
  refine g_getR (pc := 4) (k := 1) (r := 11) kf_X2_117 rfl rfl (hPl.get (by decide) rfl) (hPl.lt (by decide)) dX2_holds_4 ?_
  refine g_getR (pc := 7) (k := 11) (r := 14) kf_X2_139 rfl rfl (hPl.get (by decide) rfl) (hPl.lt (by decide)) dX2_holds_7 ?_
  refine n_astore_n (pc := 10) (ls2 := [.ref 25, .int a1, .int a2, .ref 14, .null, .null, .null, .null]) rfl rfl dX2_holds_10 rfl (Nat.le_of_ble_eq_true rfl) ?_
  refine g_iconst (pc := 11) (v := (0 : Int32)) dX2_holds_11 rfl ?_
  refine n_istore (pc := 12) (ls2 := [.ref 25, .int a1, .int a2, .ref 14, .int (0 : Int32), .null, .null, .null]) rfl rfl dX2_holds_12 (Nat.le_of_ble_eq_true rfl) ?_
  refine g_iload_n (pc := 14) dX2_holds_14 rfl rfl ?_
  refine n_istore (pc := 15) (ls2 := [.ref 25, .int a1, .int a2, .ref 14, .int (0 : Int32), .int a1, .null, .null]) rfl rfl dX2_holds_15 (Nat.le_of_ble_eq_true rfl) ?_
  obtain ⟨x_86, hL_9, hF⟩ := am_lr_el hF
  have hX_6 : ∀ (l4_4 : Int32) (I_5 : am_IT), x_86 = .inl (l4_4, I_5) → G am_sc0 l d 0 0 mX2_holds (am_qz r N P I2) 212 [.ref 25, .int a1, .int a2, .ref 14, .int l4_4, .null, .null, .null] [] N P I_5 0 0 := by
    intro l4_4 I_5 q
    subst q
    replace hF := am_u2_ap hF
    refine g_iload (pc := 212) dX2_holds_212 rfl ?_
    refine g_if_le (pc := 214) (tgt := 230) dX2_holds_214 rfl (fun c_83 => ?_) (fun c_83 => ?_)
    · replace hF := am_yes c_83 hF
      refine g_iconst (pc := 230) (v := (0 : Int32)) dX2_holds_230 rfl ?_
      cases hF
      exact g_zret (pc := 231) rfl (Or.inl rfl) (Nat.le_refl _) (Nat.le_refl _) dX2_holds_231 ⟨(Or.inl rfl), rfl, rfl, rfl, rfl⟩
    · replace hF := am_no c_83 hF
      refine g_aload_n (pc := 217) dX2_holds_217 rfl rfl ?_
      refine g_getR (pc := 218) (k := 25) (r := 29) kf_X2_28.r rfl rfl (hPl.get (by decide) rfl) (hPl.lt (by decide)) dX2_holds_218 ?_
      refine g_iconst (pc := 221) (v := (0 : Int32)) dX2_holds_221 rfl ?_
      obtain ⟨c_84, hF⟩ := am_gd hF
      refine g_iald (pc := 222) (k := 29) rfl (hPl.lt (by decide)) (am_ix_use c_84) dX2_holds_222 ?_
      refine g_if_eq (pc := 223) (tgt := 230) dX2_holds_223 rfl (fun c_85 => ?_) (fun c_85 => ?_)
      · replace hF := am_yes c_85 hF
        refine g_iconst (pc := 230) (v := (0 : Int32)) dX2_holds_230 rfl ?_
        cases hF
        exact g_zret (pc := 231) rfl (Or.inl rfl) (Nat.le_refl _) (Nat.le_refl _) dX2_holds_231 ⟨(Or.inl rfl), rfl, rfl, rfl, rfl⟩
      · replace hF := am_no c_85 hF
        refine g_iconst (pc := 226) (v := (1 : Int32)) dX2_holds_226 rfl ?_
        refine g_goto (pc := 227) (tgt := 231) dX2_holds_227 rfl ?_
        cases hF
        exact g_zret (pc := 231) rfl (Or.inr rfl) (Nat.le_refl _) (Nat.le_refl _) dX2_holds_231 ⟨(Or.inr rfl), rfl, rfl, rfl, rfl⟩
  have hZ_10 : ∀ y, x_86 = .inr y → y = _ := fun y q => by subst q; exact hF
  clear hF
  have hC := am_loop (C := fun x => G am_sc0 l d 0 0 mX2_holds (am_qz r N P I2) 17 [.ref 25, .int a1, .int a2, .ref 14, .int x.1, .int x.2.1, .null, .null] [] N P x.2.2 0 0) (by
    rintro ⟨l4_1, l5_2, I_3⟩ rr hF ih_7 hE_8
    replace hF := am_u3_ap hF
    change G am_sc0 l d 0 0 mX2_holds (am_qz r N P I2) 17 [.ref 25, .int a1, .int a2, .ref 14, .int l4_1, .int l5_2, .null, .null] [] N P I_3 0 0
    refine g_iload (pc := 17) dX2_holds_17 rfl ?_
    refine g_iload_n (pc := 19) dX2_holds_19 rfl rfl ?_
    refine g_icmp_ge (pc := 20) (tgt := 212) dX2_holds_20 rfl (fun c_11 => ?_) (fun c_11 => ?_)
    · replace hF := am_yes c_11 hF
      cases hF
      exact g_weak (hX_6 _ _ (hE_8 _ rfl).symm) ⟨Or.inr rfl, Or.inr rfl, Or.inr rfl, Or.inr rfl, Or.inr rfl, Or.inl rfl, Or.inl rfl, Or.inl rfl, trivial⟩
    · replace hF := am_no c_11 hF
      refine g_iload (pc := 23) dX2_holds_23 rfl ?_
      refine g_aload_n (pc := 25) dX2_holds_25 rfl rfl ?_
      refine g_alen (pc := 26) (k := 14) (v := 400) rfl (hPl.lt (by decide)) rfl dX2_holds_26 ?_
      refine g_icmp_ge (pc := 27) (tgt := 212) dX2_holds_27 rfl (fun c_12 => ?_) (fun c_12 => ?_)
      · replace hF := am_yes c_12 hF
        cases hF
        exact g_weak (hX_6 _ _ (hE_8 _ rfl).symm) ⟨Or.inr rfl, Or.inr rfl, Or.inr rfl, Or.inr rfl, Or.inr rfl, Or.inl rfl, Or.inl rfl, Or.inl rfl, trivial⟩
      · replace hF := am_no c_12 hF
        refine g_aload_n (pc := 30) dX2_holds_30 rfl rfl ?_
        refine g_iload (pc := 31) dX2_holds_31 rfl ?_
        obtain ⟨c_13, hF⟩ := am_gd hF
        refine g_iald (pc := 33) (k := 14) rfl (hPl.lt (by decide)) (am_ix_use c_13) dX2_holds_33 ?_
        refine g_bipush (pc := 34) (v := (15 : Int32)) dX2_holds_34 rfl ?_
        refine g_iand (pc := 36) dX2_holds_36 ?_
        obtain ⟨l6_14, e_l6_14, hF⟩ := am_let_el hF
        refine n_istore (pc := 37) (ls2 := [.ref 25, .int a1, .int a2, .ref 14, .int l4_1, .int l5_2, .int l6_14, .null]) e_l6_14 rfl dX2_holds_37 (Nat.le_of_ble_eq_true rfl) ?_
        refine g_aload_n (pc := 39) dX2_holds_39 rfl rfl ?_
        refine g_iload (pc := 40) dX2_holds_40 rfl ?_
        obtain ⟨c_15, hF⟩ := am_gd hF
        refine g_iald (pc := 42) (k := 14) rfl (hPl.lt (by decide)) (am_ix_use c_15) dX2_holds_42 ?_
        refine g_iconst (pc := 43) (v := (4 : Int32)) dX2_holds_43 rfl ?_
        refine g_ishr (pc := 44) dX2_holds_44 ?_
        obtain ⟨l7_16, e_l7_16, hF⟩ := am_let_el hF
        refine n_istore (pc := 45) (ls2 := [.ref 25, .int a1, .int a2, .ref 14, .int l4_1, .int l5_2, .int l6_14, .int l7_16]) e_l7_16 rfl dX2_holds_45 (Nat.le_of_ble_eq_true rfl) ?_
        refine g_iload (pc := 47) dX2_holds_47 rfl ?_
        refine g_if_eq (pc := 49) (tgt := 58) dX2_holds_49 rfl (fun c_17 => ?_) (fun c_17 => ?_)
        · replace hF := am_yes c_17 hF
          refine g_iload (pc := 58) dX2_holds_58 rfl ?_
          refine g_aload_n (pc := 60) dX2_holds_60 rfl rfl ?_
          refine g_getR (pc := 61) (k := 25) (r := 29) kf_X2_28.r rfl rfl (hPl.get (by decide) rfl) (hPl.lt (by decide)) dX2_holds_61 ?_
          refine g_alen (pc := 64) (k := 29) (v := 32) rfl (hPl.lt (by decide)) rfl dX2_holds_64 ?_
          refine g_icmp_lt (pc := 65) (tgt := 70) dX2_holds_65 rfl (fun c_18 => ?_) (fun c_18 => ?_)
          · replace hF := am_yes c_18 hF
            refine g_aload_n (pc := 70) dX2_holds_70 rfl rfl ?_
            refine g_getR (pc := 71) (k := 25) (r := 29) kf_X2_28.r rfl rfl (hPl.get (by decide) rfl) (hPl.lt (by decide)) dX2_holds_71 ?_
            refine g_iload (pc := 74) dX2_holds_74 rfl ?_
            refine g_iload (pc := 76) dX2_holds_76 rfl ?_
            refine g_if_ne (pc := 78) (tgt := 86) dX2_holds_78 rfl (fun c_19 => ?_) (fun c_19 => ?_)
            · replace hF := am_no c_19 hF
              refine g_aload_n (pc := 86) dX2_holds_86 rfl rfl ?_
              refine g_iload (pc := 87) dX2_holds_87 rfl ?_
              obtain ⟨r_21, h_20, hF⟩ := am_b1_el hF
              refine g_cVi (pc := 89) (k := 25) (As := [.int l7_16]) (st := [.int l4_1, .ref 29]) ky_X2_factAt kl_X2_142 (s_X2_factAt_25 (d := 1) (hPl) (Nat.le_refl _) h_20) rfl rfl rfl (hPl.lt (by decide)) (Nat.le_trans (by decide) hd) (Nat.le_of_ble_eq_true rfl) (Nat.le_refl _) (Nat.le_refl _) dX2_holds_89 ?_
              obtain ⟨c_22, hF⟩ := am_gd hF
              obtain ⟨I_23, e_I_23, hF⟩ := am_let_el hF
              refine n_iast (pc := 92) (k := 29) e_I_23 rfl (hPl.lt (by decide)) (am_ix_use c_22) dX2_holds_92 ?_
              obtain ⟨l4_24, e_l4_24, hF⟩ := am_let_el hF
              refine n_iinc (pc := 93) (ls2 := [.ref 25, .int a1, .int a2, .ref 14, .int l4_24, .int l5_2, .int l6_14, .int l7_16]) e_l4_24 rfl rfl rfl dX2_holds_93 (Nat.le_of_ble_eq_true rfl) ?_
              refine g_goto (pc := 96) (tgt := 206) dX2_holds_96 rfl ?_
              obtain ⟨l5_25, e_l5_25, hF⟩ := am_let_el hF
              refine n_iinc (pc := 206) (ls2 := [.ref 25, .int a1, .int a2, .ref 14, .int l4_24, .int l5_25, .int l6_14, .int l7_16]) e_l5_25 rfl rfl rfl dX2_holds_206 (Nat.le_of_ble_eq_true rfl) ?_
              refine g_goto (pc := 209) (tgt := 17) dX2_holds_209 rfl ?_
              cases hF
              exact g_weak (ih_7 (l4_24, l5_25, I_23) rfl) ⟨Or.inr rfl, Or.inr rfl, Or.inr rfl, Or.inr rfl, Or.inr rfl, Or.inr rfl, Or.inl rfl, Or.inl rfl, trivial⟩
            · replace hF := am_yes c_19 hF
              refine g_iload (pc := 81) dX2_holds_81 rfl ?_
              refine g_goto (pc := 83) (tgt := 92) dX2_holds_83 rfl ?_
              obtain ⟨c_26, hF⟩ := am_gd hF
              obtain ⟨I_27, e_I_27, hF⟩ := am_let_el hF
              refine n_iast (pc := 92) (k := 29) e_I_27 rfl (hPl.lt (by decide)) (am_ix_use c_26) dX2_holds_92 ?_
              obtain ⟨l4_28, e_l4_28, hF⟩ := am_let_el hF
              refine n_iinc (pc := 93) (ls2 := [.ref 25, .int a1, .int a2, .ref 14, .int l4_28, .int l5_2, .int l6_14, .int l7_16]) e_l4_28 rfl rfl rfl dX2_holds_93 (Nat.le_of_ble_eq_true rfl) ?_
              refine g_goto (pc := 96) (tgt := 206) dX2_holds_96 rfl ?_
              obtain ⟨l5_29, e_l5_29, hF⟩ := am_let_el hF
              refine n_iinc (pc := 206) (ls2 := [.ref 25, .int a1, .int a2, .ref 14, .int l4_28, .int l5_29, .int l6_14, .int l7_16]) e_l5_29 rfl rfl rfl dX2_holds_206 (Nat.le_of_ble_eq_true rfl) ?_
              refine g_goto (pc := 209) (tgt := 17) dX2_holds_209 rfl ?_
              cases hF
              exact g_weak (ih_7 (l4_28, l5_29, I_27) rfl) ⟨Or.inr rfl, Or.inr rfl, Or.inr rfl, Or.inr rfl, Or.inr rfl, Or.inr rfl, Or.inl rfl, Or.inl rfl, trivial⟩
          · replace hF := am_no c_18 hF
            refine g_iconst (pc := 68) (v := (0 : Int32)) dX2_holds_68 rfl ?_
            cases hF
            have q_30 := hZ_10 _ (hE_8 _ rfl).symm
            cases q_30
            exact g_zret (pc := 69) rfl (Or.inl rfl) (Nat.le_refl _) (Nat.le_refl _) dX2_holds_69 ⟨(Or.inl rfl), rfl, rfl, rfl, rfl⟩
        · replace hF := am_no c_17 hF
          refine g_iload (pc := 52) dX2_holds_52 rfl ?_
          refine g_iconst (pc := 54) (v := (1 : Int32)) dX2_holds_54 rfl ?_
          refine g_icmp_ne (pc := 55) (tgt := 99) dX2_holds_55 rfl (fun c_31 => ?_) (fun c_31 => ?_)
          · replace hF := am_no c_31 hF
            refine g_iload (pc := 99) dX2_holds_99 rfl ?_
            refine g_iconst (pc := 101) (v := (3 : Int32)) dX2_holds_101 rfl ?_
            refine g_icmp_eq (pc := 102) (tgt := 111) dX2_holds_102 rfl (fun c_32 => ?_) (fun c_32 => ?_)
            · replace hF := am_yes c_32 hF
              refine g_iload (pc := 111) dX2_holds_111 rfl ?_
              refine g_iconst (pc := 113) (v := (1 : Int32)) dX2_holds_113 rfl ?_
              refine g_icmp_ge (pc := 114) (tgt := 119) dX2_holds_114 rfl (fun c_33 => ?_) (fun c_33 => ?_)
              · replace hF := am_yes c_33 hF
                refine g_aload_n (pc := 119) dX2_holds_119 rfl rfl ?_
                refine g_getR (pc := 120) (k := 25) (r := 29) kf_X2_28.r rfl rfl (hPl.get (by decide) rfl) (hPl.lt (by decide)) dX2_holds_120 ?_
                refine g_iload (pc := 123) dX2_holds_123 rfl ?_
                refine g_iconst (pc := 125) (v := (1 : Int32)) dX2_holds_125 rfl ?_
                refine g_isub (pc := 126) dX2_holds_126 ?_
                refine g_iload (pc := 127) dX2_holds_127 rfl ?_
                refine g_iconst (pc := 129) (v := (3 : Int32)) dX2_holds_129 rfl ?_
                refine g_icmp_ne (pc := 130) (tgt := 147) dX2_holds_130 rfl (fun c_34 => ?_) (fun c_34 => ?_)
                · replace hF := am_no c_34 hF
                  refine g_aload_n (pc := 147) dX2_holds_147 rfl rfl ?_
                  refine g_getR (pc := 148) (k := 25) (r := 29) kf_X2_28.r rfl rfl (hPl.get (by decide) rfl) (hPl.lt (by decide)) dX2_holds_148 ?_
                  refine g_iload (pc := 151) dX2_holds_151 rfl ?_
                  refine g_iconst (pc := 153) (v := (1 : Int32)) dX2_holds_153 rfl ?_
                  refine g_isub (pc := 154) dX2_holds_154 ?_
                  obtain ⟨c_35, hF⟩ := am_gd hF
                  refine g_iald (pc := 155) (k := 29) rfl (hPl.lt (by decide)) (am_ix_use c_35) dX2_holds_155 ?_
                  refine g_iload (pc := 156) dX2_holds_156 rfl ?_
                  obtain ⟨r_37, h_36, hF⟩ := am_b1_el hF
                  refine g_cSi (pc := 158) (As := [.int (I_3 29 (l4_1 - (1 : Int32)).toNatClampNeg), .int l7_16]) (st := [.int (l4_1 - (1 : Int32)), .ref 29]) ky_X2_part kl_X2_145 (s_X2_part (d := 1) (hPl) (Nat.le_refl _) h_36) rfl rfl (Nat.le_trans (by decide) hd) (Nat.le_of_ble_eq_true rfl) (Nat.le_refl _) (Nat.le_refl _) dX2_holds_158 ?_
                  obtain ⟨c_38, hF⟩ := am_gd hF
                  obtain ⟨I_39, e_I_39, hF⟩ := am_let_el hF
                  refine n_iast (pc := 161) (k := 29) e_I_39 rfl (hPl.lt (by decide)) (am_ix_use c_38) dX2_holds_161 ?_
                  refine g_goto (pc := 162) (tgt := 206) dX2_holds_162 rfl ?_
                  obtain ⟨l5_40, e_l5_40, hF⟩ := am_let_el hF
                  refine n_iinc (pc := 206) (ls2 := [.ref 25, .int a1, .int a2, .ref 14, .int l4_1, .int l5_40, .int l6_14, .int l7_16]) e_l5_40 rfl rfl rfl dX2_holds_206 (Nat.le_of_ble_eq_true rfl) ?_
                  refine g_goto (pc := 209) (tgt := 17) dX2_holds_209 rfl ?_
                  cases hF
                  exact g_weak (ih_7 (l4_1, l5_40, I_39) rfl) ⟨Or.inr rfl, Or.inr rfl, Or.inr rfl, Or.inr rfl, Or.inr rfl, Or.inr rfl, Or.inl rfl, Or.inl rfl, trivial⟩
                · replace hF := am_yes c_34 hF
                  refine g_iconst (pc := 133) (v := (1 : Int32)) dX2_holds_133 rfl ?_
                  refine g_aload_n (pc := 134) dX2_holds_134 rfl rfl ?_
                  refine g_getR (pc := 135) (k := 25) (r := 29) kf_X2_28.r rfl rfl (hPl.get (by decide) rfl) (hPl.lt (by decide)) dX2_holds_135 ?_
                  refine g_iload (pc := 138) dX2_holds_138 rfl ?_
                  refine g_iconst (pc := 140) (v := (1 : Int32)) dX2_holds_140 rfl ?_
                  refine g_isub (pc := 141) dX2_holds_141 ?_
                  obtain ⟨c_41, hF⟩ := am_gd hF
                  refine g_iald (pc := 142) (k := 29) rfl (hPl.lt (by decide)) (am_ix_use c_41) dX2_holds_142 ?_
                  refine g_isub (pc := 143) dX2_holds_143 ?_
                  refine g_goto (pc := 144) (tgt := 161) dX2_holds_144 rfl ?_
                  obtain ⟨c_42, hF⟩ := am_gd hF
                  obtain ⟨I_43, e_I_43, hF⟩ := am_let_el hF
                  refine n_iast (pc := 161) (k := 29) e_I_43 rfl (hPl.lt (by decide)) (am_ix_use c_42) dX2_holds_161 ?_
                  refine g_goto (pc := 162) (tgt := 206) dX2_holds_162 rfl ?_
                  obtain ⟨l5_44, e_l5_44, hF⟩ := am_let_el hF
                  refine n_iinc (pc := 206) (ls2 := [.ref 25, .int a1, .int a2, .ref 14, .int l4_1, .int l5_44, .int l6_14, .int l7_16]) e_l5_44 rfl rfl rfl dX2_holds_206 (Nat.le_of_ble_eq_true rfl) ?_
                  refine g_goto (pc := 209) (tgt := 17) dX2_holds_209 rfl ?_
                  cases hF
                  exact g_weak (ih_7 (l4_1, l5_44, I_43) rfl) ⟨Or.inr rfl, Or.inr rfl, Or.inr rfl, Or.inr rfl, Or.inr rfl, Or.inr rfl, Or.inl rfl, Or.inl rfl, trivial⟩
              · replace hF := am_no c_33 hF
                refine g_iconst (pc := 117) (v := (0 : Int32)) dX2_holds_117 rfl ?_
                cases hF
                have q_45 := hZ_10 _ (hE_8 _ rfl).symm
                cases q_45
                exact g_zret (pc := 118) rfl (Or.inl rfl) (Nat.le_refl _) (Nat.le_refl _) dX2_holds_118 ⟨(Or.inl rfl), rfl, rfl, rfl, rfl⟩
            · replace hF := am_no c_32 hF
              refine g_iload (pc := 105) dX2_holds_105 rfl ?_
              refine g_iconst (pc := 107) (v := (2 : Int32)) dX2_holds_107 rfl ?_
              refine g_icmp_ne (pc := 108) (tgt := 165) dX2_holds_108 rfl (fun c_46 => ?_) (fun c_46 => ?_)
              · replace hF := am_no c_46 hF
                refine g_iload (pc := 165) dX2_holds_165 rfl ?_
                refine g_iconst (pc := 167) (v := (2 : Int32)) dX2_holds_167 rfl ?_
                refine g_icmp_ge (pc := 168) (tgt := 173) dX2_holds_168 rfl (fun c_47 => ?_) (fun c_47 => ?_)
                · replace hF := am_yes c_47 hF
                  obtain ⟨l4_48, e_l4_48, hF⟩ := am_let_el hF
                  refine n_iinc (pc := 173) (ls2 := [.ref 25, .int a1, .int a2, .ref 14, .int l4_48, .int l5_2, .int l6_14, .int l7_16]) e_l4_48 (by rw [show Int32.ofInt (-1) = (-1 : Int32) from by decide]) rfl rfl dX2_holds_173 (Nat.le_of_ble_eq_true rfl) ?_
                  refine g_aload_n (pc := 176) dX2_holds_176 rfl rfl ?_
                  refine g_getR (pc := 177) (k := 25) (r := 29) kf_X2_28.r rfl rfl (hPl.get (by decide) rfl) (hPl.lt (by decide)) dX2_holds_177 ?_
                  refine g_iload (pc := 180) dX2_holds_180 rfl ?_
                  refine g_iconst (pc := 182) (v := (1 : Int32)) dX2_holds_182 rfl ?_
                  refine g_isub (pc := 183) dX2_holds_183 ?_
                  refine g_iload (pc := 184) dX2_holds_184 rfl ?_
                  refine g_aload_n (pc := 186) dX2_holds_186 rfl rfl ?_
                  refine g_getR (pc := 187) (k := 25) (r := 29) kf_X2_28.r rfl rfl (hPl.get (by decide) rfl) (hPl.lt (by decide)) dX2_holds_187 ?_
                  refine g_iload (pc := 190) dX2_holds_190 rfl ?_
                  refine g_iconst (pc := 192) (v := (1 : Int32)) dX2_holds_192 rfl ?_
                  refine g_isub (pc := 193) dX2_holds_193 ?_
                  obtain ⟨c_49, hF⟩ := am_gd hF
                  refine g_iald (pc := 194) (k := 29) rfl (hPl.lt (by decide)) (am_ix_use c_49) dX2_holds_194 ?_
                  refine g_aload_n (pc := 195) dX2_holds_195 rfl rfl ?_
                  refine g_getR (pc := 196) (k := 25) (r := 29) kf_X2_28.r rfl rfl (hPl.get (by decide) rfl) (hPl.lt (by decide)) dX2_holds_196 ?_
                  refine g_iload (pc := 199) dX2_holds_199 rfl ?_
                  obtain ⟨c_50, hF⟩ := am_gd hF
                  refine g_iald (pc := 201) (k := 29) rfl (hPl.lt (by decide)) (am_ix_use c_50) dX2_holds_201 ?_
                  obtain ⟨r_52, h_51, hF⟩ := am_b1_el hF
                  refine g_cSi (pc := 202) (As := [.int l6_14, .int (I_3 29 (l4_48 - (1 : Int32)).toNatClampNeg), .int (I_3 29 l4_48.toNatClampNeg)]) (st := [.int (l4_48 - (1 : Int32)), .ref 29]) ky_X2_joined kl_X2_148 (s_X2_joined (d := 1) (hPl) (Nat.le_refl _) h_51) rfl rfl (Nat.le_trans (by decide) hd) (Nat.le_of_ble_eq_true rfl) (Nat.le_refl _) (Nat.le_refl _) dX2_holds_202 ?_
                  obtain ⟨c_53, hF⟩ := am_gd hF
                  obtain ⟨I_54, e_I_54, hF⟩ := am_let_el hF
                  refine n_iast (pc := 205) (k := 29) e_I_54 rfl (hPl.lt (by decide)) (am_ix_use c_53) dX2_holds_205 ?_
                  obtain ⟨l5_55, e_l5_55, hF⟩ := am_let_el hF
                  refine n_iinc (pc := 206) (ls2 := [.ref 25, .int a1, .int a2, .ref 14, .int l4_48, .int l5_55, .int l6_14, .int l7_16]) e_l5_55 rfl rfl rfl dX2_holds_206 (Nat.le_of_ble_eq_true rfl) ?_
                  refine g_goto (pc := 209) (tgt := 17) dX2_holds_209 rfl ?_
                  cases hF
                  exact g_weak (ih_7 (l4_48, l5_55, I_54) rfl) ⟨Or.inr rfl, Or.inr rfl, Or.inr rfl, Or.inr rfl, Or.inr rfl, Or.inr rfl, Or.inl rfl, Or.inl rfl, trivial⟩
                · replace hF := am_no c_47 hF
                  refine g_iconst (pc := 171) (v := (0 : Int32)) dX2_holds_171 rfl ?_
                  cases hF
                  have q_56 := hZ_10 _ (hE_8 _ rfl).symm
                  cases q_56
                  exact g_zret (pc := 172) rfl (Or.inl rfl) (Nat.le_refl _) (Nat.le_refl _) dX2_holds_172 ⟨(Or.inl rfl), rfl, rfl, rfl, rfl⟩
              · replace hF := am_yes c_46 hF
                refine g_iload (pc := 111) dX2_holds_111 rfl ?_
                refine g_iconst (pc := 113) (v := (1 : Int32)) dX2_holds_113 rfl ?_
                refine g_icmp_ge (pc := 114) (tgt := 119) dX2_holds_114 rfl (fun c_57 => ?_) (fun c_57 => ?_)
                · replace hF := am_yes c_57 hF
                  refine g_aload_n (pc := 119) dX2_holds_119 rfl rfl ?_
                  refine g_getR (pc := 120) (k := 25) (r := 29) kf_X2_28.r rfl rfl (hPl.get (by decide) rfl) (hPl.lt (by decide)) dX2_holds_120 ?_
                  refine g_iload (pc := 123) dX2_holds_123 rfl ?_
                  refine g_iconst (pc := 125) (v := (1 : Int32)) dX2_holds_125 rfl ?_
                  refine g_isub (pc := 126) dX2_holds_126 ?_
                  refine g_iload (pc := 127) dX2_holds_127 rfl ?_
                  refine g_iconst (pc := 129) (v := (3 : Int32)) dX2_holds_129 rfl ?_
                  refine g_icmp_ne (pc := 130) (tgt := 147) dX2_holds_130 rfl (fun c_58 => ?_) (fun c_58 => ?_)
                  · replace hF := am_no c_58 hF
                    refine g_aload_n (pc := 147) dX2_holds_147 rfl rfl ?_
                    refine g_getR (pc := 148) (k := 25) (r := 29) kf_X2_28.r rfl rfl (hPl.get (by decide) rfl) (hPl.lt (by decide)) dX2_holds_148 ?_
                    refine g_iload (pc := 151) dX2_holds_151 rfl ?_
                    refine g_iconst (pc := 153) (v := (1 : Int32)) dX2_holds_153 rfl ?_
                    refine g_isub (pc := 154) dX2_holds_154 ?_
                    obtain ⟨c_59, hF⟩ := am_gd hF
                    refine g_iald (pc := 155) (k := 29) rfl (hPl.lt (by decide)) (am_ix_use c_59) dX2_holds_155 ?_
                    refine g_iload (pc := 156) dX2_holds_156 rfl ?_
                    obtain ⟨r_61, h_60, hF⟩ := am_b1_el hF
                    refine g_cSi (pc := 158) (As := [.int (I_3 29 (l4_1 - (1 : Int32)).toNatClampNeg), .int l7_16]) (st := [.int (l4_1 - (1 : Int32)), .ref 29]) ky_X2_part kl_X2_145 (s_X2_part (d := 1) (hPl) (Nat.le_refl _) h_60) rfl rfl (Nat.le_trans (by decide) hd) (Nat.le_of_ble_eq_true rfl) (Nat.le_refl _) (Nat.le_refl _) dX2_holds_158 ?_
                    obtain ⟨c_62, hF⟩ := am_gd hF
                    obtain ⟨I_63, e_I_63, hF⟩ := am_let_el hF
                    refine n_iast (pc := 161) (k := 29) e_I_63 rfl (hPl.lt (by decide)) (am_ix_use c_62) dX2_holds_161 ?_
                    refine g_goto (pc := 162) (tgt := 206) dX2_holds_162 rfl ?_
                    obtain ⟨l5_64, e_l5_64, hF⟩ := am_let_el hF
                    refine n_iinc (pc := 206) (ls2 := [.ref 25, .int a1, .int a2, .ref 14, .int l4_1, .int l5_64, .int l6_14, .int l7_16]) e_l5_64 rfl rfl rfl dX2_holds_206 (Nat.le_of_ble_eq_true rfl) ?_
                    refine g_goto (pc := 209) (tgt := 17) dX2_holds_209 rfl ?_
                    cases hF
                    exact g_weak (ih_7 (l4_1, l5_64, I_63) rfl) ⟨Or.inr rfl, Or.inr rfl, Or.inr rfl, Or.inr rfl, Or.inr rfl, Or.inr rfl, Or.inl rfl, Or.inl rfl, trivial⟩
                  · replace hF := am_yes c_58 hF
                    refine g_iconst (pc := 133) (v := (1 : Int32)) dX2_holds_133 rfl ?_
                    refine g_aload_n (pc := 134) dX2_holds_134 rfl rfl ?_
                    refine g_getR (pc := 135) (k := 25) (r := 29) kf_X2_28.r rfl rfl (hPl.get (by decide) rfl) (hPl.lt (by decide)) dX2_holds_135 ?_
                    refine g_iload (pc := 138) dX2_holds_138 rfl ?_
                    refine g_iconst (pc := 140) (v := (1 : Int32)) dX2_holds_140 rfl ?_
                    refine g_isub (pc := 141) dX2_holds_141 ?_
                    obtain ⟨c_65, hF⟩ := am_gd hF
                    refine g_iald (pc := 142) (k := 29) rfl (hPl.lt (by decide)) (am_ix_use c_65) dX2_holds_142 ?_
                    refine g_isub (pc := 143) dX2_holds_143 ?_
                    refine g_goto (pc := 144) (tgt := 161) dX2_holds_144 rfl ?_
                    obtain ⟨c_66, hF⟩ := am_gd hF
                    obtain ⟨I_67, e_I_67, hF⟩ := am_let_el hF
                    refine n_iast (pc := 161) (k := 29) e_I_67 rfl (hPl.lt (by decide)) (am_ix_use c_66) dX2_holds_161 ?_
                    refine g_goto (pc := 162) (tgt := 206) dX2_holds_162 rfl ?_
                    obtain ⟨l5_68, e_l5_68, hF⟩ := am_let_el hF
                    refine n_iinc (pc := 206) (ls2 := [.ref 25, .int a1, .int a2, .ref 14, .int l4_1, .int l5_68, .int l6_14, .int l7_16]) e_l5_68 rfl rfl rfl dX2_holds_206 (Nat.le_of_ble_eq_true rfl) ?_
                    refine g_goto (pc := 209) (tgt := 17) dX2_holds_209 rfl ?_
                    cases hF
                    exact g_weak (ih_7 (l4_1, l5_68, I_67) rfl) ⟨Or.inr rfl, Or.inr rfl, Or.inr rfl, Or.inr rfl, Or.inr rfl, Or.inr rfl, Or.inl rfl, Or.inl rfl, trivial⟩
                · replace hF := am_no c_57 hF
                  refine g_iconst (pc := 117) (v := (0 : Int32)) dX2_holds_117 rfl ?_
                  cases hF
                  have q_69 := hZ_10 _ (hE_8 _ rfl).symm
                  cases q_69
                  exact g_zret (pc := 118) rfl (Or.inl rfl) (Nat.le_refl _) (Nat.le_refl _) dX2_holds_118 ⟨(Or.inl rfl), rfl, rfl, rfl, rfl⟩
          · replace hF := am_yes c_31 hF
            refine g_iload (pc := 58) dX2_holds_58 rfl ?_
            refine g_aload_n (pc := 60) dX2_holds_60 rfl rfl ?_
            refine g_getR (pc := 61) (k := 25) (r := 29) kf_X2_28.r rfl rfl (hPl.get (by decide) rfl) (hPl.lt (by decide)) dX2_holds_61 ?_
            refine g_alen (pc := 64) (k := 29) (v := 32) rfl (hPl.lt (by decide)) rfl dX2_holds_64 ?_
            refine g_icmp_lt (pc := 65) (tgt := 70) dX2_holds_65 rfl (fun c_70 => ?_) (fun c_70 => ?_)
            · replace hF := am_yes c_70 hF
              refine g_aload_n (pc := 70) dX2_holds_70 rfl rfl ?_
              refine g_getR (pc := 71) (k := 25) (r := 29) kf_X2_28.r rfl rfl (hPl.get (by decide) rfl) (hPl.lt (by decide)) dX2_holds_71 ?_
              refine g_iload (pc := 74) dX2_holds_74 rfl ?_
              refine g_iload (pc := 76) dX2_holds_76 rfl ?_
              refine g_if_ne (pc := 78) (tgt := 86) dX2_holds_78 rfl (fun c_71 => ?_) (fun c_71 => ?_)
              · replace hF := am_no c_71 hF
                refine g_aload_n (pc := 86) dX2_holds_86 rfl rfl ?_
                refine g_iload (pc := 87) dX2_holds_87 rfl ?_
                obtain ⟨r_73, h_72, hF⟩ := am_b1_el hF
                refine g_cVi (pc := 89) (k := 25) (As := [.int l7_16]) (st := [.int l4_1, .ref 29]) ky_X2_factAt kl_X2_142 (s_X2_factAt_25 (d := 1) (hPl) (Nat.le_refl _) h_72) rfl rfl rfl (hPl.lt (by decide)) (Nat.le_trans (by decide) hd) (Nat.le_of_ble_eq_true rfl) (Nat.le_refl _) (Nat.le_refl _) dX2_holds_89 ?_
                obtain ⟨c_74, hF⟩ := am_gd hF
                obtain ⟨I_75, e_I_75, hF⟩ := am_let_el hF
                refine n_iast (pc := 92) (k := 29) e_I_75 rfl (hPl.lt (by decide)) (am_ix_use c_74) dX2_holds_92 ?_
                obtain ⟨l4_76, e_l4_76, hF⟩ := am_let_el hF
                refine n_iinc (pc := 93) (ls2 := [.ref 25, .int a1, .int a2, .ref 14, .int l4_76, .int l5_2, .int l6_14, .int l7_16]) e_l4_76 rfl rfl rfl dX2_holds_93 (Nat.le_of_ble_eq_true rfl) ?_
                refine g_goto (pc := 96) (tgt := 206) dX2_holds_96 rfl ?_
                obtain ⟨l5_77, e_l5_77, hF⟩ := am_let_el hF
                refine n_iinc (pc := 206) (ls2 := [.ref 25, .int a1, .int a2, .ref 14, .int l4_76, .int l5_77, .int l6_14, .int l7_16]) e_l5_77 rfl rfl rfl dX2_holds_206 (Nat.le_of_ble_eq_true rfl) ?_
                refine g_goto (pc := 209) (tgt := 17) dX2_holds_209 rfl ?_
                cases hF
                exact g_weak (ih_7 (l4_76, l5_77, I_75) rfl) ⟨Or.inr rfl, Or.inr rfl, Or.inr rfl, Or.inr rfl, Or.inr rfl, Or.inr rfl, Or.inl rfl, Or.inl rfl, trivial⟩
              · replace hF := am_yes c_71 hF
                refine g_iload (pc := 81) dX2_holds_81 rfl ?_
                refine g_goto (pc := 83) (tgt := 92) dX2_holds_83 rfl ?_
                obtain ⟨c_78, hF⟩ := am_gd hF
                obtain ⟨I_79, e_I_79, hF⟩ := am_let_el hF
                refine n_iast (pc := 92) (k := 29) e_I_79 rfl (hPl.lt (by decide)) (am_ix_use c_78) dX2_holds_92 ?_
                obtain ⟨l4_80, e_l4_80, hF⟩ := am_let_el hF
                refine n_iinc (pc := 93) (ls2 := [.ref 25, .int a1, .int a2, .ref 14, .int l4_80, .int l5_2, .int l6_14, .int l7_16]) e_l4_80 rfl rfl rfl dX2_holds_93 (Nat.le_of_ble_eq_true rfl) ?_
                refine g_goto (pc := 96) (tgt := 206) dX2_holds_96 rfl ?_
                obtain ⟨l5_81, e_l5_81, hF⟩ := am_let_el hF
                refine n_iinc (pc := 206) (ls2 := [.ref 25, .int a1, .int a2, .ref 14, .int l4_80, .int l5_81, .int l6_14, .int l7_16]) e_l5_81 rfl rfl rfl dX2_holds_206 (Nat.le_of_ble_eq_true rfl) ?_
                refine g_goto (pc := 209) (tgt := 17) dX2_holds_209 rfl ?_
                cases hF
                exact g_weak (ih_7 (l4_80, l5_81, I_79) rfl) ⟨Or.inr rfl, Or.inr rfl, Or.inr rfl, Or.inr rfl, Or.inr rfl, Or.inr rfl, Or.inl rfl, Or.inl rfl, trivial⟩
            · replace hF := am_no c_70 hF
              refine g_iconst (pc := 68) (v := (0 : Int32)) dX2_holds_68 rfl ?_
              cases hF
              have q_82 := hZ_10 _ (hE_8 _ rfl).symm
              cases q_82
              exact g_zret (pc := 69) rfl (Or.inl rfl) (Nat.le_refl _) (Nat.le_refl _) dX2_holds_69 ⟨(Or.inl rfl), rfl, rfl, rfl, rfl⟩
    ) _ _ hL_9
  exact hC
def F_X2_chosenMethod_25 (I : am_IT) : Option (Int32 × am_IT) := am_lr (am_it am_fu (am_u2 (fun (l2_1 : Int32) (I_2 : am_IT) => if (I_2 11 0) ≤ l2_1 then (some (.inr (.inl (I_2)))) else (if (16 : Int32) ≤ l2_1 then (some (.inr (.inl (I_2)))) else (am_b1 (F_X6_stepsFrom_11 I_2 l2_1) (fun (r_12 : Int32) => if am_ix l2_1 16 = true then (am_let (I_2 13 l2_1.toNatClampNeg) (fun (l4_14 : Int32) => if r_12 = l4_14 then (if am_ix l2_1 16 = true then (some (.inr (.inr (I_2 12 l2_1.toNatClampNeg, I_2)))) else none) else (am_b2 (F_X2_holds_25 I_2 r_12 l4_14) (fun (r_19 : Int32) (I_20 : am_IT) => if r_19 = 0 then (am_let (l2_1 + (1 : Int32)) (fun (l2_23 : Int32) => some (.inl (l2_23, I_20)))) else (if am_ix l2_1 16 = true then (some (.inr (.inr (I_20 12 l2_1.toNatClampNeg, I_20)))) else none))))) else none))))) ((0 : Int32), I)) (fun (I_3 : am_IT) => some ((266 : Int32), I_3))
set_option maxRecDepth 100000 in
set_option maxHeartbeats 4000000 in
theorem s_X2_chosenMethod_25 {l : Launch} {d N : Nat} {P : am_PT} (hPl : am_Pl 94 N P) (hd : 3 ≤ d) {I : am_IT} {r : Int32} {I2 : am_IT} (hF : F_X2_chosenMethod_25 I = some (r, I2)) : am_C l d 0 0 mX2_chosenMethod [.ref 25] N P I (am_qi r N P I2) := by
  refine am_body (sc := am_sc0) (n := 4) (by decide +kernel) (by decide) rfl ?_
  change G am_sc0 l d 0 0 mX2_chosenMethod (am_qi r N P I2) 0 [.ref 25, .null, .null, .null, .null] [] N P I 0 0
  unfold F_X2_chosenMethod_25 at hF
  refine g_aload_n (pc := 0) dX2_chosenMethod_0 rfl rfl ?_
  refine g_getR (pc := 1) (k := 25) (r := 1) kf_X2_31.r rfl rfl (hPl.get (by decide) rfl) (hPl.lt (by decide)) dX2_chosenMethod_1 ?_
  refine g_getR (pc := 4) (k := 1) (r := 11) kf_X2_117 rfl rfl (hPl.get (by decide) rfl) (hPl.lt (by decide)) dX2_chosenMethod_4 ?_
  refine n_astore_n (pc := 7) (ls2 := [.ref 25, .ref 11, .null, .null, .null]) rfl rfl dX2_chosenMethod_7 rfl (Nat.le_of_ble_eq_true rfl) ?_
  refine g_iconst (pc := 8) (v := (0 : Int32)) dX2_chosenMethod_8 rfl ?_
  refine n_istore_n (pc := 9) (ls2 := [.ref 25, .ref 11, .int (0 : Int32), .null, .null]) rfl rfl dX2_chosenMethod_9 rfl (Nat.le_of_ble_eq_true rfl) ?_
  obtain ⟨x_26, hL_7, hF⟩ := am_lr_el hF
  have hX_4 : ∀ (I_3 : am_IT), x_26 = .inl I_3 → G am_sc0 l d 0 0 mX2_chosenMethod (am_qi r N P I2) 67 [.ref 25, .ref 11, .null, .null, .null] [] N P I_3 0 0 := by
    intro I_3 q
    subst q
    refine g_sipush (pc := 67) (v := (266 : Int32)) dX2_chosenMethod_67 rfl ?_
    cases hF
    exact g_iret (pc := 70) rfl (Nat.le_refl _) (Nat.le_refl _) dX2_chosenMethod_70 ⟨rfl, rfl, rfl, rfl⟩
  have hZ_8 : ∀ y, x_26 = .inr y → y = _ := fun y q => by subst q; exact hF
  clear hF
  have hC := am_loop (C := fun x => G am_sc0 l d 0 0 mX2_chosenMethod (am_qi r N P I2) 10 [.ref 25, .ref 11, .int x.1, .null, .null] [] N P x.2 0 0) (by
    rintro ⟨l2_1, I_2⟩ rr hF ih_5 hE_6
    replace hF := am_u2_ap hF
    change G am_sc0 l d 0 0 mX2_chosenMethod (am_qi r N P I2) 10 [.ref 25, .ref 11, .int l2_1, .null, .null] [] N P I_2 0 0
    refine g_iload_n (pc := 10) dX2_chosenMethod_10 rfl rfl ?_
    refine g_aload_n (pc := 11) dX2_chosenMethod_11 rfl rfl ?_
    refine g_getI (pc := 12) (k := 11) kf_X2_121.r rfl rfl (hPl.lt (by decide)) dX2_chosenMethod_12 ?_
    refine g_icmp_ge (pc := 15) (tgt := 67) dX2_chosenMethod_15 rfl (fun c_9 => ?_) (fun c_9 => ?_)
    · replace hF := am_yes c_9 hF
      cases hF
      exact g_weak (hX_4 _ (hE_6 _ rfl).symm) ⟨Or.inr rfl, Or.inr rfl, Or.inl rfl, Or.inl rfl, Or.inl rfl, trivial⟩
    · replace hF := am_no c_9 hF
      refine g_iload_n (pc := 18) dX2_chosenMethod_18 rfl rfl ?_
      refine g_bipush (pc := 19) (v := (16 : Int32)) dX2_chosenMethod_19 rfl ?_
      refine g_icmp_ge (pc := 21) (tgt := 67) dX2_chosenMethod_21 rfl (fun c_10 => ?_) (fun c_10 => ?_)
      · replace hF := am_yes c_10 hF
        cases hF
        exact g_weak (hX_4 _ (hE_6 _ rfl).symm) ⟨Or.inr rfl, Or.inr rfl, Or.inl rfl, Or.inl rfl, Or.inl rfl, trivial⟩
      · replace hF := am_no c_10 hF
        refine g_aload_n (pc := 24) dX2_chosenMethod_24 rfl rfl ?_
        refine g_iload_n (pc := 25) dX2_chosenMethod_25 rfl rfl ?_
        obtain ⟨r_12, h_11, hF⟩ := am_b1_el hF
        refine g_cVi (pc := 26) (k := 11) (As := [.int l2_1]) (st := []) ky_X6_stepsFrom kl_X2_126 (s_X6_stepsFrom_11 (d := 1) (hPl) (Nat.le_refl _) h_11) rfl rfl rfl (hPl.lt (by decide)) (Nat.le_trans (by decide) hd) (Nat.le_of_ble_eq_true rfl) (Nat.le_refl _) (Nat.le_refl _) dX2_chosenMethod_26 ?_
        refine n_istore_n (pc := 29) (ls2 := [.ref 25, .ref 11, .int l2_1, .int r_12, .null]) rfl rfl dX2_chosenMethod_29 rfl (Nat.le_of_ble_eq_true rfl) ?_
        refine g_aload_n (pc := 30) dX2_chosenMethod_30 rfl rfl ?_
        refine g_getR (pc := 31) (k := 11) (r := 13) kf_X2_129 rfl rfl (hPl.get (by decide) rfl) (hPl.lt (by decide)) dX2_chosenMethod_31 ?_
        refine g_iload_n (pc := 34) dX2_chosenMethod_34 rfl rfl ?_
        obtain ⟨c_13, hF⟩ := am_gd hF
        refine g_iald (pc := 35) (k := 13) rfl (hPl.lt (by decide)) (am_ix_use c_13) dX2_chosenMethod_35 ?_
        obtain ⟨l4_14, e_l4_14, hF⟩ := am_let_el hF
        refine n_istore (pc := 36) (ls2 := [.ref 25, .ref 11, .int l2_1, .int r_12, .int l4_14]) e_l4_14 rfl dX2_chosenMethod_36 (Nat.le_of_ble_eq_true rfl) ?_
        refine g_iload_n (pc := 38) dX2_chosenMethod_38 rfl rfl ?_
        refine g_iload (pc := 39) dX2_chosenMethod_39 rfl ?_
        refine g_icmp_eq (pc := 41) (tgt := 54) dX2_chosenMethod_41 rfl (fun c_15 => ?_) (fun c_15 => ?_)
        · replace hF := am_yes c_15 hF
          refine g_aload_n (pc := 54) dX2_chosenMethod_54 rfl rfl ?_
          refine g_getR (pc := 55) (k := 11) (r := 12) kf_X2_136 rfl rfl (hPl.get (by decide) rfl) (hPl.lt (by decide)) dX2_chosenMethod_55 ?_
          refine g_iload_n (pc := 58) dX2_chosenMethod_58 rfl rfl ?_
          obtain ⟨c_16, hF⟩ := am_gd hF
          refine g_iald (pc := 59) (k := 12) rfl (hPl.lt (by decide)) (am_ix_use c_16) dX2_chosenMethod_59 ?_
          cases hF
          have q_17 := hZ_8 _ (hE_6 _ rfl).symm
          cases q_17
          exact g_iret (pc := 60) rfl (Nat.le_refl _) (Nat.le_refl _) dX2_chosenMethod_60 ⟨rfl, rfl, rfl, rfl⟩
        · replace hF := am_no c_15 hF
          refine g_aload_n (pc := 44) dX2_chosenMethod_44 rfl rfl ?_
          refine g_iload_n (pc := 45) dX2_chosenMethod_45 rfl rfl ?_
          refine g_iload (pc := 46) dX2_chosenMethod_46 rfl ?_
          obtain ⟨r_19, I_20, h_18, hF⟩ := am_b2_el hF
          refine g_cVz (pc := 48) (k := 25) (As := [.int r_12, .int l4_14]) (st := []) ky_X2_holds kl_X2_132 (s_X2_holds_25 (d := 2) (hPl) (Nat.le_refl _) h_18) rfl rfl rfl (hPl.lt (by decide)) (Nat.le_trans (by decide) hd) (Nat.le_of_ble_eq_true rfl) (Nat.le_refl _) (Nat.le_refl _) dX2_chosenMethod_48 ?_
          intro z_21
          refine g_if_eq (pc := 51) (tgt := 61) dX2_chosenMethod_51 rfl (fun c_22 => ?_) (fun c_22 => ?_)
          · replace hF := am_yes c_22 hF
            obtain ⟨l2_23, e_l2_23, hF⟩ := am_let_el hF
            refine n_iinc (pc := 61) (ls2 := [.ref 25, .ref 11, .int l2_23, .int r_12, .int l4_14]) e_l2_23 rfl rfl rfl dX2_chosenMethod_61 (Nat.le_of_ble_eq_true rfl) ?_
            refine g_goto (pc := 64) (tgt := 10) dX2_chosenMethod_64 rfl ?_
            cases hF
            exact g_weak (ih_5 (l2_23, I_20) rfl) ⟨Or.inr rfl, Or.inr rfl, Or.inr rfl, Or.inl rfl, Or.inl rfl, trivial⟩
          · replace hF := am_no c_22 hF
            refine g_aload_n (pc := 54) dX2_chosenMethod_54 rfl rfl ?_
            refine g_getR (pc := 55) (k := 11) (r := 12) kf_X2_136 rfl rfl (hPl.get (by decide) rfl) (hPl.lt (by decide)) dX2_chosenMethod_55 ?_
            refine g_iload_n (pc := 58) dX2_chosenMethod_58 rfl rfl ?_
            obtain ⟨c_24, hF⟩ := am_gd hF
            refine g_iald (pc := 59) (k := 12) rfl (hPl.lt (by decide)) (am_ix_use c_24) dX2_chosenMethod_59 ?_
            cases hF
            have q_25 := hZ_8 _ (hE_6 _ rfl).symm
            cases q_25
            exact g_iret (pc := 60) rfl (Nat.le_refl _) (Nat.le_refl _) dX2_chosenMethod_60 ⟨rfl, rfl, rfl, rfl⟩
    ) _ _ hL_7
  exact hC
def F_X2_seerOfMost_25 (I : am_IT) (a1 : Int32) : Option (Int32) := am_b1 (am_it am_fu (am_u2 (fun (l2_1 : Int32) (l3_2 : Int32) => if (I 1 4) ≤ l3_2 then (some (.inr (l2_1))) else (am_b1 (F_X8_yardsOf_23 I l3_2 a1) (fun (r_11 : Int32) => am_b1 (F_X8_yardsOf_23 I l2_1 a1) (fun (r_13 : Int32) => if r_11 ≤ r_13 then (am_let (l3_2 + (1 : Int32)) (fun (l3_15 : Int32) => some (.inl (l2_1, l3_15)))) else (am_let (l3_2 + (1 : Int32)) (fun (l3_16 : Int32) => some (.inl (l3_2, l3_16))))))))) ((0 : Int32), (1 : Int32))) (fun (l2_3 : Int32) => some l2_3)
set_option maxRecDepth 100000 in
set_option maxHeartbeats 4000000 in
theorem s_X2_seerOfMost_25 {l : Launch} {d N : Nat} {P : am_PT} (hPl : am_Pl 94 N P) (hd : 2 ≤ d) {I : am_IT} {a1 : Int32} {r : Int32} (hF : F_X2_seerOfMost_25 I a1 = some (r)) : am_C l d 0 0 mX2_seerOfMost [.ref 25, .int a1] N P I (am_qi r N P I) := by
  refine am_body (sc := am_sc0) (n := 2) (by decide +kernel) (by decide) rfl ?_
  change G am_sc0 l d 0 0 mX2_seerOfMost (am_qi r N P I) 0 [.ref 25, .int a1, .null, .null] [] N P I 0 0
  unfold F_X2_seerOfMost_25 at hF
  refine g_iconst (pc := 0) (v := (0 : Int32)) dX2_seerOfMost_0 rfl ?_
  refine n_istore_n (pc := 1) (ls2 := [.ref 25, .int a1, .int (0 : Int32), .null]) rfl rfl dX2_seerOfMost_1 rfl (Nat.le_of_ble_eq_true rfl) ?_
  refine g_iconst (pc := 2) (v := (1 : Int32)) dX2_seerOfMost_2 rfl ?_
  refine n_istore_n (pc := 3) (ls2 := [.ref 25, .int a1, .int (0 : Int32), .int (1 : Int32)]) rfl rfl dX2_seerOfMost_3 rfl (Nat.le_of_ble_eq_true rfl) ?_
  obtain ⟨l2_3, hL_7, hF⟩ := am_b1_el hF
  have hX_4 : G am_sc0 l d 0 0 mX2_seerOfMost (am_qi r N P I) 44 [.ref 25, .int a1, .int l2_3, .null] [] N P I 0 0 := by
    refine g_iload_n (pc := 44) dX2_seerOfMost_44 rfl rfl ?_
    cases hF
    exact g_iret (pc := 45) rfl (Nat.le_refl _) (Nat.le_refl _) dX2_seerOfMost_45 ⟨rfl, rfl, rfl, rfl⟩
  clear hF
  have hC := am_loop (C := fun x => G am_sc0 l d 0 0 mX2_seerOfMost (am_qi r N P I) 4 [.ref 25, .int a1, .int x.1, .int x.2] [] N P I 0 0) (by
    rintro ⟨l2_1, l3_2⟩ rr hF ih_5 hE_6
    replace hF := am_u2_ap hF
    change G am_sc0 l d 0 0 mX2_seerOfMost (am_qi r N P I) 4 [.ref 25, .int a1, .int l2_1, .int l3_2] [] N P I 0 0
    refine g_iload_n (pc := 4) dX2_seerOfMost_4 rfl rfl ?_
    refine g_aload_n (pc := 5) dX2_seerOfMost_5 rfl rfl ?_
    refine g_getR (pc := 6) (k := 25) (r := 1) kf_X2_31.r rfl rfl (hPl.get (by decide) rfl) (hPl.lt (by decide)) dX2_seerOfMost_6 ?_
    refine g_getI (pc := 9) (k := 1) kf_X2_102.r rfl rfl (hPl.lt (by decide)) dX2_seerOfMost_9 ?_
    refine g_icmp_ge (pc := 12) (tgt := 44) dX2_seerOfMost_12 rfl (fun c_9 => ?_) (fun c_9 => ?_)
    · replace hF := am_yes c_9 hF
      cases hF
      cases hE_6 _ rfl
      exact g_weak hX_4 ⟨Or.inr rfl, Or.inr rfl, Or.inr rfl, Or.inl rfl, trivial⟩
    · replace hF := am_no c_9 hF
      refine g_aload_n (pc := 15) dX2_seerOfMost_15 rfl rfl ?_
      refine g_getR (pc := 16) (k := 25) (r := 23) kf_X2_35.r rfl rfl (hPl.get (by decide) rfl) (hPl.lt (by decide)) dX2_seerOfMost_16 ?_
      refine g_iload_n (pc := 19) dX2_seerOfMost_19 rfl rfl ?_
      refine g_iload_n (pc := 20) dX2_seerOfMost_20 rfl rfl ?_
      obtain ⟨r_11, h_10, hF⟩ := am_b1_el hF
      refine g_cVi (pc := 21) (k := 23) (As := [.int l3_2, .int a1]) (st := []) ky_X8_yardsOf kl_X2_105 (s_X8_yardsOf_23 (d := 1) (hPl) (Nat.le_refl _) h_10) rfl rfl rfl (hPl.lt (by decide)) (Nat.le_trans (by decide) hd) (Nat.le_of_ble_eq_true rfl) (Nat.le_refl _) (Nat.le_refl _) dX2_seerOfMost_21 ?_
      refine g_aload_n (pc := 24) dX2_seerOfMost_24 rfl rfl ?_
      refine g_getR (pc := 25) (k := 25) (r := 23) kf_X2_35.r rfl rfl (hPl.get (by decide) rfl) (hPl.lt (by decide)) dX2_seerOfMost_25 ?_
      refine g_iload_n (pc := 28) dX2_seerOfMost_28 rfl rfl ?_
      refine g_iload_n (pc := 29) dX2_seerOfMost_29 rfl rfl ?_
      obtain ⟨r_13, h_12, hF⟩ := am_b1_el hF
      refine g_cVi (pc := 30) (k := 23) (As := [.int l2_1, .int a1]) (st := [.int r_11]) ky_X8_yardsOf kl_X2_105 (s_X8_yardsOf_23 (d := 1) (hPl) (Nat.le_refl _) h_12) rfl rfl rfl (hPl.lt (by decide)) (Nat.le_trans (by decide) hd) (Nat.le_of_ble_eq_true rfl) (Nat.le_refl _) (Nat.le_refl _) dX2_seerOfMost_30 ?_
      refine g_icmp_le (pc := 33) (tgt := 38) dX2_seerOfMost_33 rfl (fun c_14 => ?_) (fun c_14 => ?_)
      · replace hF := am_yes c_14 hF
        obtain ⟨l3_15, e_l3_15, hF⟩ := am_let_el hF
        refine n_iinc (pc := 38) (ls2 := [.ref 25, .int a1, .int l2_1, .int l3_15]) e_l3_15 rfl rfl rfl dX2_seerOfMost_38 (Nat.le_of_ble_eq_true rfl) ?_
        refine g_goto (pc := 41) (tgt := 4) dX2_seerOfMost_41 rfl ?_
        cases hF
        exact ih_5 (l2_1, l3_15) rfl
      · replace hF := am_no c_14 hF
        refine g_iload_n (pc := 36) dX2_seerOfMost_36 rfl rfl ?_
        refine n_istore_n (pc := 37) (ls2 := [.ref 25, .int a1, .int l3_2, .int l3_2]) rfl rfl dX2_seerOfMost_37 rfl (Nat.le_of_ble_eq_true rfl) ?_
        obtain ⟨l3_16, e_l3_16, hF⟩ := am_let_el hF
        refine n_iinc (pc := 38) (ls2 := [.ref 25, .int a1, .int l3_2, .int l3_16]) e_l3_16 rfl rfl rfl dX2_seerOfMost_38 (Nat.le_of_ble_eq_true rfl) ?_
        refine g_goto (pc := 41) (tgt := 4) dX2_seerOfMost_41 rfl ?_
        cases hF
        exact ih_5 (l3_2, l3_16) rfl
    ) _ _ hL_7
  exact hC
def F_X9_favourite_1_8 (I : am_IT) (a2 : Int32) : Option (Int32) := am_let (a2 * (4 : Int32)) (fun (l3_1 : Int32) => am_b1 (am_it am_fu (am_u2 (fun (l4_2 : Int32) (l5_3 : Int32) => if (I 1 0) ≤ l5_3 then (some (.inr (l4_2))) else (if am_ix (l3_1 + l5_3) 28 = true then (if am_ix (l3_1 + l4_2) 28 = true then (if (I 8 (l3_1 + l5_3).toNatClampNeg) ≤ (I 8 (l3_1 + l4_2).toNatClampNeg) then (am_let (l5_3 + (1 : Int32)) (fun (l5_14 : Int32) => some (.inl (l4_2, l5_14)))) else (am_let (l5_3 + (1 : Int32)) (fun (l5_15 : Int32) => some (.inl (l5_3, l5_15))))) else none) else none))) ((0 : Int32), (1 : Int32))) (fun (l4_4 : Int32) => some l4_4))
set_option maxRecDepth 100000 in
set_option maxHeartbeats 4000000 in
theorem s_X9_favourite_1_8 {l : Launch} {d N : Nat} {P : am_PT} (hPl : am_Pl 94 N P) (hd : 1 ≤ d) {I : am_IT} {a2 : Int32} {r : Int32} (hF : F_X9_favourite_1_8 I a2 = some (r)) : am_C l d 0 0 mX9_favourite [.ref 1, .ref 8, .int a2] N P I (am_qi r N P I) := by
  refine am_body (sc := am_sc0) (n := 3) (by decide +kernel) (by decide) rfl ?_
  change G am_sc0 l d 0 0 mX9_favourite (am_qi r N P I) 0 [.ref 1, .ref 8, .int a2, .null, .null, .null] [] N P I 0 0
  unfold F_X9_favourite_1_8 at hF
  refine g_iload_n (pc := 0) dX9_favourite_0 rfl rfl ?_
  refine g_iconst (pc := 1) (v := (4 : Int32)) dX9_favourite_1 rfl ?_
  refine g_imul (pc := 2) dX9_favourite_2 ?_
  obtain ⟨l3_1, e_l3_1, hF⟩ := am_let_el hF
  refine n_istore_n (pc := 3) (ls2 := [.ref 1, .ref 8, .int a2, .int l3_1, .null, .null]) e_l3_1 rfl dX9_favourite_3 rfl (Nat.le_of_ble_eq_true rfl) ?_
  refine g_iconst (pc := 4) (v := (0 : Int32)) dX9_favourite_4 rfl ?_
  refine n_istore (pc := 5) (ls2 := [.ref 1, .ref 8, .int a2, .int l3_1, .int (0 : Int32), .null]) rfl rfl dX9_favourite_5 (Nat.le_of_ble_eq_true rfl) ?_
  refine g_iconst (pc := 7) (v := (1 : Int32)) dX9_favourite_7 rfl ?_
  refine n_istore (pc := 8) (ls2 := [.ref 1, .ref 8, .int a2, .int l3_1, .int (0 : Int32), .int (1 : Int32)]) rfl rfl dX9_favourite_8 (Nat.le_of_ble_eq_true rfl) ?_
  obtain ⟨l4_4, hL_8, hF⟩ := am_b1_el hF
  have hX_5 : G am_sc0 l d 0 0 mX9_favourite (am_qi r N P I) 44 [.ref 1, .ref 8, .int a2, .int l3_1, .int l4_4, .null] [] N P I 0 0 := by
    refine g_iload (pc := 44) dX9_favourite_44 rfl ?_
    cases hF
    exact g_iret (pc := 46) rfl (Nat.le_refl _) (Nat.le_refl _) dX9_favourite_46 ⟨rfl, rfl, rfl, rfl⟩
  clear hF
  have hC := am_loop (C := fun x => G am_sc0 l d 0 0 mX9_favourite (am_qi r N P I) 10 [.ref 1, .ref 8, .int a2, .int l3_1, .int x.1, .int x.2] [] N P I 0 0) (by
    rintro ⟨l4_2, l5_3⟩ rr hF ih_6 hE_7
    replace hF := am_u2_ap hF
    change G am_sc0 l d 0 0 mX9_favourite (am_qi r N P I) 10 [.ref 1, .ref 8, .int a2, .int l3_1, .int l4_2, .int l5_3] [] N P I 0 0
    refine g_iload (pc := 10) dX9_favourite_10 rfl ?_
    refine g_aload_n (pc := 12) dX9_favourite_12 rfl rfl ?_
    refine g_getI (pc := 13) (k := 1) kf_X9_9.r rfl rfl (hPl.lt (by decide)) dX9_favourite_13 ?_
    refine g_icmp_ge (pc := 16) (tgt := 44) dX9_favourite_16 rfl (fun c_10 => ?_) (fun c_10 => ?_)
    · replace hF := am_yes c_10 hF
      cases hF
      cases hE_7 _ rfl
      exact g_weak hX_5 ⟨Or.inr rfl, Or.inr rfl, Or.inr rfl, Or.inr rfl, Or.inr rfl, Or.inl rfl, trivial⟩
    · replace hF := am_no c_10 hF
      refine g_aload_n (pc := 19) dX9_favourite_19 rfl rfl ?_
      refine g_iload_n (pc := 20) dX9_favourite_20 rfl rfl ?_
      refine g_iload (pc := 21) dX9_favourite_21 rfl ?_
      refine g_iadd (pc := 23) dX9_favourite_23 ?_
      obtain ⟨c_11, hF⟩ := am_gd hF
      refine g_iald (pc := 24) (k := 8) rfl (hPl.lt (by decide)) (am_ix_use c_11) dX9_favourite_24 ?_
      refine g_aload_n (pc := 25) dX9_favourite_25 rfl rfl ?_
      refine g_iload_n (pc := 26) dX9_favourite_26 rfl rfl ?_
      refine g_iload (pc := 27) dX9_favourite_27 rfl ?_
      refine g_iadd (pc := 29) dX9_favourite_29 ?_
      obtain ⟨c_12, hF⟩ := am_gd hF
      refine g_iald (pc := 30) (k := 8) rfl (hPl.lt (by decide)) (am_ix_use c_12) dX9_favourite_30 ?_
      refine g_icmp_le (pc := 31) (tgt := 38) dX9_favourite_31 rfl (fun c_13 => ?_) (fun c_13 => ?_)
      · replace hF := am_yes c_13 hF
        obtain ⟨l5_14, e_l5_14, hF⟩ := am_let_el hF
        refine n_iinc (pc := 38) (ls2 := [.ref 1, .ref 8, .int a2, .int l3_1, .int l4_2, .int l5_14]) e_l5_14 rfl rfl rfl dX9_favourite_38 (Nat.le_of_ble_eq_true rfl) ?_
        refine g_goto (pc := 41) (tgt := 10) dX9_favourite_41 rfl ?_
        cases hF
        exact ih_6 (l4_2, l5_14) rfl
      · replace hF := am_no c_13 hF
        refine g_iload (pc := 34) dX9_favourite_34 rfl ?_
        refine n_istore (pc := 36) (ls2 := [.ref 1, .ref 8, .int a2, .int l3_1, .int l5_3, .int l5_3]) rfl rfl dX9_favourite_36 (Nat.le_of_ble_eq_true rfl) ?_
        obtain ⟨l5_15, e_l5_15, hF⟩ := am_let_el hF
        refine n_iinc (pc := 38) (ls2 := [.ref 1, .ref 8, .int a2, .int l3_1, .int l5_3, .int l5_15]) e_l5_15 rfl rfl rfl dX9_favourite_38 (Nat.le_of_ble_eq_true rfl) ?_
        refine g_goto (pc := 41) (tgt := 10) dX9_favourite_41 rfl ?_
        cases hF
        exact ih_6 (l5_3, l5_15) rfl
    ) _ _ hL_8
  exact hC
def F_X2_pointsOf_25_8 (I : am_IT) (a2 : Int32) (a3 : Int32) (a4 : Int32) : Option (Int32) := am_b1 (am_it am_fu (am_u2 (fun (l5_1 : Int32) (l6_2 : Int32) => if (I 1 4) ≤ l6_2 then (some (.inr (l5_1))) else (am_b1 (F_X8_yardsOf_23 I l6_2 a2) (fun (r_11 : Int32) => if a3 = (264 : Int32) then (if am_ix ((l6_2 * (4 : Int32)) + a4) 28 = true then (am_let (l5_1 + (r_11 * (I 8 ((l6_2 * (4 : Int32)) + a4).toNatClampNeg))) (fun (l5_25 : Int32) => am_let (l6_2 + (1 : Int32)) (fun (l6_26 : Int32) => some (.inl (l5_25, l6_26))))) else none) else (if r_11 ≤ 0 then (am_let (l6_2 + (1 : Int32)) (fun (l6_14 : Int32) => some (.inl (l5_1, l6_14)))) else (am_b1 (F_X9_favourite_1_8 I l6_2) (fun (r_16 : Int32) => if r_16 = a4 then (if a3 = (262 : Int32) then (am_let (l5_1 + (1 : Int32)) (fun (l5_22 : Int32) => am_let (l6_2 + (1 : Int32)) (fun (l6_23 : Int32) => some (.inl (l5_22, l6_23))))) else (am_let (l5_1 + r_11) (fun (l5_20 : Int32) => am_let (l6_2 + (1 : Int32)) (fun (l6_21 : Int32) => some (.inl (l5_20, l6_21)))))) else (am_let (l6_2 + (1 : Int32)) (fun (l6_18 : Int32) => some (.inl (l5_1, l6_18))))))))))) ((0 : Int32), (0 : Int32))) (fun (l5_3 : Int32) => some l5_3)
set_option maxRecDepth 100000 in
set_option maxHeartbeats 4000000 in
theorem s_X2_pointsOf_25_8 {l : Launch} {d N : Nat} {P : am_PT} (hPl : am_Pl 94 N P) (hd : 2 ≤ d) {I : am_IT} {a2 : Int32} {a3 : Int32} {a4 : Int32} {r : Int32} (hF : F_X2_pointsOf_25_8 I a2 a3 a4 = some (r)) : am_C l d 0 0 mX2_pointsOf [.ref 25, .ref 8, .int a2, .int a3, .int a4] N P I (am_qi r N P I) := by
  refine am_body (sc := am_sc0) (n := 3) (by decide +kernel) (by decide) rfl ?_
  change G am_sc0 l d 0 0 mX2_pointsOf (am_qi r N P I) 0 [.ref 25, .ref 8, .int a2, .int a3, .int a4, .null, .null, .null] [] N P I 0 0
  unfold F_X2_pointsOf_25_8 at hF
  refine g_iconst (pc := 0) (v := (0 : Int32)) dX2_pointsOf_0 rfl ?_
  refine n_istore (pc := 1) (ls2 := [.ref 25, .ref 8, .int a2, .int a3, .int a4, .int (0 : Int32), .null, .null]) rfl rfl dX2_pointsOf_1 (Nat.le_of_ble_eq_true rfl) ?_
  refine g_iconst (pc := 3) (v := (0 : Int32)) dX2_pointsOf_3 rfl ?_
  refine n_istore (pc := 4) (ls2 := [.ref 25, .ref 8, .int a2, .int a3, .int a4, .int (0 : Int32), .int (0 : Int32), .null]) rfl rfl dX2_pointsOf_4 (Nat.le_of_ble_eq_true rfl) ?_
  obtain ⟨l5_3, hL_7, hF⟩ := am_b1_el hF
  have hX_4 : G am_sc0 l d 0 0 mX2_pointsOf (am_qi r N P I) 101 [.ref 25, .ref 8, .int a2, .int a3, .int a4, .int l5_3, .null, .null] [] N P I 0 0 := by
    refine g_iload (pc := 101) dX2_pointsOf_101 rfl ?_
    cases hF
    exact g_iret (pc := 103) rfl (Nat.le_refl _) (Nat.le_refl _) dX2_pointsOf_103 ⟨rfl, rfl, rfl, rfl⟩
  clear hF
  have hC := am_loop (C := fun x => G am_sc0 l d 0 0 mX2_pointsOf (am_qi r N P I) 6 [.ref 25, .ref 8, .int a2, .int a3, .int a4, .int x.1, .int x.2, .null] [] N P I 0 0) (by
    rintro ⟨l5_1, l6_2⟩ rr hF ih_5 hE_6
    replace hF := am_u2_ap hF
    change G am_sc0 l d 0 0 mX2_pointsOf (am_qi r N P I) 6 [.ref 25, .ref 8, .int a2, .int a3, .int a4, .int l5_1, .int l6_2, .null] [] N P I 0 0
    refine g_iload (pc := 6) dX2_pointsOf_6 rfl ?_
    refine g_aload_n (pc := 8) dX2_pointsOf_8 rfl rfl ?_
    refine g_getR (pc := 9) (k := 25) (r := 1) kf_X2_31.r rfl rfl (hPl.get (by decide) rfl) (hPl.lt (by decide)) dX2_pointsOf_9 ?_
    refine g_getI (pc := 12) (k := 1) kf_X2_102.r rfl rfl (hPl.lt (by decide)) dX2_pointsOf_12 ?_
    refine g_icmp_ge (pc := 15) (tgt := 101) dX2_pointsOf_15 rfl (fun c_9 => ?_) (fun c_9 => ?_)
    · replace hF := am_yes c_9 hF
      cases hF
      cases hE_6 _ rfl
      exact g_weak hX_4 ⟨Or.inr rfl, Or.inr rfl, Or.inr rfl, Or.inr rfl, Or.inr rfl, Or.inr rfl, Or.inl rfl, Or.inl rfl, trivial⟩
    · replace hF := am_no c_9 hF
      refine g_aload_n (pc := 18) dX2_pointsOf_18 rfl rfl ?_
      refine g_getR (pc := 19) (k := 25) (r := 23) kf_X2_35.r rfl rfl (hPl.get (by decide) rfl) (hPl.lt (by decide)) dX2_pointsOf_19 ?_
      refine g_iload (pc := 22) dX2_pointsOf_22 rfl ?_
      refine g_iload_n (pc := 24) dX2_pointsOf_24 rfl rfl ?_
      obtain ⟨r_11, h_10, hF⟩ := am_b1_el hF
      refine g_cVi (pc := 25) (k := 23) (As := [.int l6_2, .int a2]) (st := []) ky_X8_yardsOf kl_X2_105 (s_X8_yardsOf_23 (d := 1) (hPl) (Nat.le_refl _) h_10) rfl rfl rfl (hPl.lt (by decide)) (Nat.le_trans (by decide) hd) (Nat.le_of_ble_eq_true rfl) (Nat.le_refl _) (Nat.le_refl _) dX2_pointsOf_25 ?_
      refine n_istore (pc := 28) (ls2 := [.ref 25, .ref 8, .int a2, .int a3, .int a4, .int l5_1, .int l6_2, .int r_11]) rfl rfl dX2_pointsOf_28 (Nat.le_of_ble_eq_true rfl) ?_
      refine g_iload_n (pc := 30) dX2_pointsOf_30 rfl rfl ?_
      refine g_sipush (pc := 31) (v := (264 : Int32)) dX2_pointsOf_31 rfl ?_
      refine g_icmp_ne (pc := 34) (tgt := 57) dX2_pointsOf_34 rfl (fun c_12 => ?_) (fun c_12 => ?_)
      · replace hF := am_no c_12 hF
        refine g_iload (pc := 57) dX2_pointsOf_57 rfl ?_
        refine g_if_le (pc := 59) (tgt := 95) dX2_pointsOf_59 rfl (fun c_13 => ?_) (fun c_13 => ?_)
        · replace hF := am_yes c_13 hF
          obtain ⟨l6_14, e_l6_14, hF⟩ := am_let_el hF
          refine n_iinc (pc := 95) (ls2 := [.ref 25, .ref 8, .int a2, .int a3, .int a4, .int l5_1, .int l6_14, .int r_11]) e_l6_14 rfl rfl rfl dX2_pointsOf_95 (Nat.le_of_ble_eq_true rfl) ?_
          refine g_goto (pc := 98) (tgt := 6) dX2_pointsOf_98 rfl ?_
          cases hF
          exact g_weak (ih_5 (l5_1, l6_14) rfl) ⟨Or.inr rfl, Or.inr rfl, Or.inr rfl, Or.inr rfl, Or.inr rfl, Or.inr rfl, Or.inr rfl, Or.inl rfl, trivial⟩
        · replace hF := am_no c_13 hF
          refine g_aload_n (pc := 62) dX2_pointsOf_62 rfl rfl ?_
          refine g_getR (pc := 63) (k := 25) (r := 1) kf_X2_31.r rfl rfl (hPl.get (by decide) rfl) (hPl.lt (by decide)) dX2_pointsOf_63 ?_
          refine g_aload_n (pc := 66) dX2_pointsOf_66 rfl rfl ?_
          refine g_iload (pc := 67) dX2_pointsOf_67 rfl ?_
          obtain ⟨r_16, h_15, hF⟩ := am_b1_el hF
          refine g_cVi (pc := 69) (k := 1) (As := [.ref 8, .int l6_2]) (st := []) ky_X9_favourite kl_X2_92 (s_X9_favourite_1_8 (d := 1) (hPl) (Nat.le_refl _) h_15) rfl rfl rfl (hPl.lt (by decide)) (Nat.le_trans (by decide) hd) (Nat.le_of_ble_eq_true rfl) (Nat.le_refl _) (Nat.le_refl _) dX2_pointsOf_69 ?_
          refine g_iload (pc := 72) dX2_pointsOf_72 rfl ?_
          refine g_icmp_ne (pc := 74) (tgt := 95) dX2_pointsOf_74 rfl (fun c_17 => ?_) (fun c_17 => ?_)
          · replace hF := am_no c_17 hF
            obtain ⟨l6_18, e_l6_18, hF⟩ := am_let_el hF
            refine n_iinc (pc := 95) (ls2 := [.ref 25, .ref 8, .int a2, .int a3, .int a4, .int l5_1, .int l6_18, .int r_11]) e_l6_18 rfl rfl rfl dX2_pointsOf_95 (Nat.le_of_ble_eq_true rfl) ?_
            refine g_goto (pc := 98) (tgt := 6) dX2_pointsOf_98 rfl ?_
            cases hF
            exact g_weak (ih_5 (l5_1, l6_18) rfl) ⟨Or.inr rfl, Or.inr rfl, Or.inr rfl, Or.inr rfl, Or.inr rfl, Or.inr rfl, Or.inr rfl, Or.inl rfl, trivial⟩
          · replace hF := am_yes c_17 hF
            refine g_iload (pc := 77) dX2_pointsOf_77 rfl ?_
            refine g_iload_n (pc := 79) dX2_pointsOf_79 rfl rfl ?_
            refine g_sipush (pc := 80) (v := (262 : Int32)) dX2_pointsOf_80 rfl ?_
            refine g_icmp_ne (pc := 83) (tgt := 90) dX2_pointsOf_83 rfl (fun c_19 => ?_) (fun c_19 => ?_)
            · replace hF := am_no c_19 hF
              refine g_iload (pc := 90) dX2_pointsOf_90 rfl ?_
              refine g_iadd (pc := 92) dX2_pointsOf_92 ?_
              obtain ⟨l5_20, e_l5_20, hF⟩ := am_let_el hF
              refine n_istore (pc := 93) (ls2 := [.ref 25, .ref 8, .int a2, .int a3, .int a4, .int l5_20, .int l6_2, .int r_11]) e_l5_20 rfl dX2_pointsOf_93 (Nat.le_of_ble_eq_true rfl) ?_
              obtain ⟨l6_21, e_l6_21, hF⟩ := am_let_el hF
              refine n_iinc (pc := 95) (ls2 := [.ref 25, .ref 8, .int a2, .int a3, .int a4, .int l5_20, .int l6_21, .int r_11]) e_l6_21 rfl rfl rfl dX2_pointsOf_95 (Nat.le_of_ble_eq_true rfl) ?_
              refine g_goto (pc := 98) (tgt := 6) dX2_pointsOf_98 rfl ?_
              cases hF
              exact g_weak (ih_5 (l5_20, l6_21) rfl) ⟨Or.inr rfl, Or.inr rfl, Or.inr rfl, Or.inr rfl, Or.inr rfl, Or.inr rfl, Or.inr rfl, Or.inl rfl, trivial⟩
            · replace hF := am_yes c_19 hF
              refine g_iconst (pc := 86) (v := (1 : Int32)) dX2_pointsOf_86 rfl ?_
              refine g_goto (pc := 87) (tgt := 92) dX2_pointsOf_87 rfl ?_
              refine g_iadd (pc := 92) dX2_pointsOf_92 ?_
              obtain ⟨l5_22, e_l5_22, hF⟩ := am_let_el hF
              refine n_istore (pc := 93) (ls2 := [.ref 25, .ref 8, .int a2, .int a3, .int a4, .int l5_22, .int l6_2, .int r_11]) e_l5_22 rfl dX2_pointsOf_93 (Nat.le_of_ble_eq_true rfl) ?_
              obtain ⟨l6_23, e_l6_23, hF⟩ := am_let_el hF
              refine n_iinc (pc := 95) (ls2 := [.ref 25, .ref 8, .int a2, .int a3, .int a4, .int l5_22, .int l6_23, .int r_11]) e_l6_23 rfl rfl rfl dX2_pointsOf_95 (Nat.le_of_ble_eq_true rfl) ?_
              refine g_goto (pc := 98) (tgt := 6) dX2_pointsOf_98 rfl ?_
              cases hF
              exact g_weak (ih_5 (l5_22, l6_23) rfl) ⟨Or.inr rfl, Or.inr rfl, Or.inr rfl, Or.inr rfl, Or.inr rfl, Or.inr rfl, Or.inr rfl, Or.inl rfl, trivial⟩
      · replace hF := am_yes c_12 hF
        refine g_iload (pc := 37) dX2_pointsOf_37 rfl ?_
        refine g_iload (pc := 39) dX2_pointsOf_39 rfl ?_
        refine g_aload_n (pc := 41) dX2_pointsOf_41 rfl rfl ?_
        refine g_iload (pc := 42) dX2_pointsOf_42 rfl ?_
        refine g_iconst (pc := 44) (v := (4 : Int32)) dX2_pointsOf_44 rfl ?_
        refine g_imul (pc := 45) dX2_pointsOf_45 ?_
        refine g_iload (pc := 46) dX2_pointsOf_46 rfl ?_
        refine g_iadd (pc := 48) dX2_pointsOf_48 ?_
        obtain ⟨c_24, hF⟩ := am_gd hF
        refine g_iald (pc := 49) (k := 8) rfl (hPl.lt (by decide)) (am_ix_use c_24) dX2_pointsOf_49 ?_
        refine g_imul (pc := 50) dX2_pointsOf_50 ?_
        refine g_iadd (pc := 51) dX2_pointsOf_51 ?_
        obtain ⟨l5_25, e_l5_25, hF⟩ := am_let_el hF
        refine n_istore (pc := 52) (ls2 := [.ref 25, .ref 8, .int a2, .int a3, .int a4, .int l5_25, .int l6_2, .int r_11]) e_l5_25 rfl dX2_pointsOf_52 (Nat.le_of_ble_eq_true rfl) ?_
        refine g_goto (pc := 54) (tgt := 95) dX2_pointsOf_54 rfl ?_
        obtain ⟨l6_26, e_l6_26, hF⟩ := am_let_el hF
        refine n_iinc (pc := 95) (ls2 := [.ref 25, .ref 8, .int a2, .int a3, .int a4, .int l5_25, .int l6_26, .int r_11]) e_l6_26 rfl rfl rfl dX2_pointsOf_95 (Nat.le_of_ble_eq_true rfl) ?_
        refine g_goto (pc := 98) (tgt := 6) dX2_pointsOf_98 rfl ?_
        cases hF
        exact g_weak (ih_5 (l5_25, l6_26) rfl) ⟨Or.inr rfl, Or.inr rfl, Or.inr rfl, Or.inr rfl, Or.inr rfl, Or.inr rfl, Or.inr rfl, Or.inl rfl, trivial⟩
    ) _ _ hL_7
  exact hC
def F_X2_colourOfMost_25_8 (I : am_IT) (a2 : Int32) (a3 : Int32) : Option (Int32) := am_b1 (F_X2_pointsOf_25_8 I a2 a3 (0 : Int32)) (fun (r_2 : Int32) => am_b1 (am_it am_fu (am_u3 (fun (l4_3 : Int32) (l5_4 : Int32) (l6_5 : Int32) => if (I 1 0) ≤ l6_5 then (some (.inr (l4_3))) else (am_b1 (F_X2_pointsOf_25_8 I a2 a3 l6_5) (fun (r_14 : Int32) => if r_14 ≤ l5_4 then (am_let (l6_5 + (1 : Int32)) (fun (l6_16 : Int32) => some (.inl (l4_3, l5_4, l6_16)))) else (am_let (l6_5 + (1 : Int32)) (fun (l6_17 : Int32) => some (.inl (l6_5, r_14, l6_17)))))))) ((0 : Int32), r_2, (1 : Int32))) (fun (l4_6 : Int32) => some l4_6))
set_option maxRecDepth 100000 in
set_option maxHeartbeats 4000000 in
theorem s_X2_colourOfMost_25_8 {l : Launch} {d N : Nat} {P : am_PT} (hPl : am_Pl 94 N P) (hd : 3 ≤ d) {I : am_IT} {a2 : Int32} {a3 : Int32} {r : Int32} (hF : F_X2_colourOfMost_25_8 I a2 a3 = some (r)) : am_C l d 0 0 mX2_colourOfMost [.ref 25, .ref 8, .int a2, .int a3] N P I (am_qi r N P I) := by
  refine am_body (sc := am_sc0) (n := 4) (by decide +kernel) (by decide) rfl ?_
  change G am_sc0 l d 0 0 mX2_colourOfMost (am_qi r N P I) 0 [.ref 25, .ref 8, .int a2, .int a3, .null, .null, .null, .null] [] N P I 0 0
  unfold F_X2_colourOfMost_25_8 at hF
  refine g_iconst (pc := 0) (v := (0 : Int32)) dX2_colourOfMost_0 rfl ?_
  refine n_istore (pc := 1) (ls2 := [.ref 25, .ref 8, .int a2, .int a3, .int (0 : Int32), .null, .null, .null]) rfl rfl dX2_colourOfMost_1 (Nat.le_of_ble_eq_true rfl) ?_
  refine g_aload_n (pc := 3) dX2_colourOfMost_3 rfl rfl ?_
  refine g_aload_n (pc := 4) dX2_colourOfMost_4 rfl rfl ?_
  refine g_iload_n (pc := 5) dX2_colourOfMost_5 rfl rfl ?_
  refine g_iload_n (pc := 6) dX2_colourOfMost_6 rfl rfl ?_
  refine g_iconst (pc := 7) (v := (0 : Int32)) dX2_colourOfMost_7 rfl ?_
  obtain ⟨r_2, h_1, hF⟩ := am_b1_el hF
  refine g_cVi (pc := 8) (k := 25) (As := [.ref 8, .int a2, .int a3, .int (0 : Int32)]) (st := []) ky_X2_pointsOf kl_X2_152 (s_X2_pointsOf_25_8 (d := 2) (hPl) (Nat.le_refl _) h_1) rfl rfl rfl (hPl.lt (by decide)) (Nat.le_trans (by decide) hd) (Nat.le_of_ble_eq_true rfl) (Nat.le_refl _) (Nat.le_refl _) dX2_colourOfMost_8 ?_
  refine n_istore (pc := 11) (ls2 := [.ref 25, .ref 8, .int a2, .int a3, .int (0 : Int32), .int r_2, .null, .null]) rfl rfl dX2_colourOfMost_11 (Nat.le_of_ble_eq_true rfl) ?_
  refine g_iconst (pc := 13) (v := (1 : Int32)) dX2_colourOfMost_13 rfl ?_
  refine n_istore (pc := 14) (ls2 := [.ref 25, .ref 8, .int a2, .int a3, .int (0 : Int32), .int r_2, .int (1 : Int32), .null]) rfl rfl dX2_colourOfMost_14 (Nat.le_of_ble_eq_true rfl) ?_
  obtain ⟨l4_6, hL_10, hF⟩ := am_b1_el hF
  have hX_7 : G am_sc0 l d 0 0 mX2_colourOfMost (am_qi r N P I) 60 [.ref 25, .ref 8, .int a2, .int a3, .int l4_6, .null, .null, .null] [] N P I 0 0 := by
    refine g_iload (pc := 60) dX2_colourOfMost_60 rfl ?_
    cases hF
    exact g_iret (pc := 62) rfl (Nat.le_refl _) (Nat.le_refl _) dX2_colourOfMost_62 ⟨rfl, rfl, rfl, rfl⟩
  clear hF
  have hC := am_loop (C := fun x => G am_sc0 l d 0 0 mX2_colourOfMost (am_qi r N P I) 16 [.ref 25, .ref 8, .int a2, .int a3, .int x.1, .int x.2.1, .int x.2.2, .null] [] N P I 0 0) (by
    rintro ⟨l4_3, l5_4, l6_5⟩ rr hF ih_8 hE_9
    replace hF := am_u3_ap hF
    change G am_sc0 l d 0 0 mX2_colourOfMost (am_qi r N P I) 16 [.ref 25, .ref 8, .int a2, .int a3, .int l4_3, .int l5_4, .int l6_5, .null] [] N P I 0 0
    refine g_iload (pc := 16) dX2_colourOfMost_16 rfl ?_
    refine g_aload_n (pc := 18) dX2_colourOfMost_18 rfl rfl ?_
    refine g_getR (pc := 19) (k := 25) (r := 1) kf_X2_31.r rfl rfl (hPl.get (by decide) rfl) (hPl.lt (by decide)) dX2_colourOfMost_19 ?_
    refine g_getI (pc := 22) (k := 1) kf_X2_64.r rfl rfl (hPl.lt (by decide)) dX2_colourOfMost_22 ?_
    refine g_icmp_ge (pc := 25) (tgt := 60) dX2_colourOfMost_25 rfl (fun c_12 => ?_) (fun c_12 => ?_)
    · replace hF := am_yes c_12 hF
      cases hF
      cases hE_9 _ rfl
      exact g_weak hX_7 ⟨Or.inr rfl, Or.inr rfl, Or.inr rfl, Or.inr rfl, Or.inr rfl, Or.inl rfl, Or.inl rfl, Or.inl rfl, trivial⟩
    · replace hF := am_no c_12 hF
      refine g_aload_n (pc := 28) dX2_colourOfMost_28 rfl rfl ?_
      refine g_aload_n (pc := 29) dX2_colourOfMost_29 rfl rfl ?_
      refine g_iload_n (pc := 30) dX2_colourOfMost_30 rfl rfl ?_
      refine g_iload_n (pc := 31) dX2_colourOfMost_31 rfl rfl ?_
      refine g_iload (pc := 32) dX2_colourOfMost_32 rfl ?_
      obtain ⟨r_14, h_13, hF⟩ := am_b1_el hF
      refine g_cVi (pc := 34) (k := 25) (As := [.ref 8, .int a2, .int a3, .int l6_5]) (st := []) ky_X2_pointsOf kl_X2_152 (s_X2_pointsOf_25_8 (d := 2) (hPl) (Nat.le_refl _) h_13) rfl rfl rfl (hPl.lt (by decide)) (Nat.le_trans (by decide) hd) (Nat.le_of_ble_eq_true rfl) (Nat.le_refl _) (Nat.le_refl _) dX2_colourOfMost_34 ?_
      refine n_istore (pc := 37) (ls2 := [.ref 25, .ref 8, .int a2, .int a3, .int l4_3, .int l5_4, .int l6_5, .int r_14]) rfl rfl dX2_colourOfMost_37 (Nat.le_of_ble_eq_true rfl) ?_
      refine g_iload (pc := 39) dX2_colourOfMost_39 rfl ?_
      refine g_iload (pc := 41) dX2_colourOfMost_41 rfl ?_
      refine g_icmp_le (pc := 43) (tgt := 54) dX2_colourOfMost_43 rfl (fun c_15 => ?_) (fun c_15 => ?_)
      · replace hF := am_yes c_15 hF
        obtain ⟨l6_16, e_l6_16, hF⟩ := am_let_el hF
        refine n_iinc (pc := 54) (ls2 := [.ref 25, .ref 8, .int a2, .int a3, .int l4_3, .int l5_4, .int l6_16, .int r_14]) e_l6_16 rfl rfl rfl dX2_colourOfMost_54 (Nat.le_of_ble_eq_true rfl) ?_
        refine g_goto (pc := 57) (tgt := 16) dX2_colourOfMost_57 rfl ?_
        cases hF
        exact g_weak (ih_8 (l4_3, l5_4, l6_16) rfl) ⟨Or.inr rfl, Or.inr rfl, Or.inr rfl, Or.inr rfl, Or.inr rfl, Or.inr rfl, Or.inr rfl, Or.inl rfl, trivial⟩
      · replace hF := am_no c_15 hF
        refine g_iload (pc := 46) dX2_colourOfMost_46 rfl ?_
        refine n_istore (pc := 48) (ls2 := [.ref 25, .ref 8, .int a2, .int a3, .int l4_3, .int r_14, .int l6_5, .int r_14]) rfl rfl dX2_colourOfMost_48 (Nat.le_of_ble_eq_true rfl) ?_
        refine g_iload (pc := 50) dX2_colourOfMost_50 rfl ?_
        refine n_istore (pc := 52) (ls2 := [.ref 25, .ref 8, .int a2, .int a3, .int l6_5, .int r_14, .int l6_5, .int r_14]) rfl rfl dX2_colourOfMost_52 (Nat.le_of_ble_eq_true rfl) ?_
        obtain ⟨l6_17, e_l6_17, hF⟩ := am_let_el hF
        refine n_iinc (pc := 54) (ls2 := [.ref 25, .ref 8, .int a2, .int a3, .int l6_5, .int r_14, .int l6_17, .int r_14]) e_l6_17 rfl rfl rfl dX2_colourOfMost_54 (Nat.le_of_ble_eq_true rfl) ?_
        refine g_goto (pc := 57) (tgt := 16) dX2_colourOfMost_57 rfl ?_
        cases hF
        exact g_weak (ih_8 (l6_5, r_14, l6_17) rfl) ⟨Or.inr rfl, Or.inr rfl, Or.inr rfl, Or.inr rfl, Or.inr rfl, Or.inr rfl, Or.inr rfl, Or.inl rfl, trivial⟩
    ) _ _ hL_10
  exact hC
def F_X2_colourByTurn_25_8 (I : am_IT) (a2 : Int32) : Option (Int32) := if (I 1 4) = 0 then (if am_ix a2 7 = true then (some (I 3 a2.toNatClampNeg)) else none) else (if ¬ (I 1 4) = (0 : Int32) then (am_let (((I 1 2) + a2) - ((I 1 2) + a2) / (I 1 4) * (I 1 4)) (fun (l3_3 : Int32) => am_b1 (F_X8_yardsOf_23 I l3_3 a2) (fun (r_5 : Int32) => if r_5 ≤ 0 then (if am_ix a2 7 = true then (some (I 3 a2.toNatClampNeg)) else none) else (am_b1 (F_X9_favourite_1_8 I l3_3) (fun (r_9 : Int32) => some r_9))))) else none)
set_option maxRecDepth 100000 in
set_option maxHeartbeats 4000000 in
theorem s_X2_colourByTurn_25_8 {l : Launch} {d N : Nat} {P : am_PT} (hPl : am_Pl 94 N P) (hd : 2 ≤ d) {I : am_IT} {a2 : Int32} {r : Int32} (hF : F_X2_colourByTurn_25_8 I a2 = some (r)) : am_C l d 0 0 mX2_colourByTurn [.ref 25, .ref 8, .int a2] N P I (am_qi r N P I) := by
  refine am_body (sc := am_sc0) (n := 1) (by decide +kernel) (by decide) rfl ?_
  change G am_sc0 l d 0 0 mX2_colourByTurn (am_qi r N P I) 0 [.ref 25, .ref 8, .int a2, .null] [] N P I 0 0
  unfold F_X2_colourByTurn_25_8 at hF
  refine g_aload_n (pc := 0) dX2_colourByTurn_0 rfl rfl ?_
  refine g_getR (pc := 1) (k := 25) (r := 1) kf_X2_31.r rfl rfl (hPl.get (by decide) rfl) (hPl.lt (by decide)) dX2_colourByTurn_1 ?_
  refine g_getI (pc := 4) (k := 1) kf_X2_102.r rfl rfl (hPl.lt (by decide)) dX2_colourByTurn_4 ?_
  refine g_if_ne (pc := 7) (tgt := 20) dX2_colourByTurn_7 rfl (fun c_1 => ?_) (fun c_1 => ?_)
  · replace hF := am_no c_1 hF
    refine g_aload_n (pc := 20) dX2_colourByTurn_20 rfl rfl ?_
    refine g_getR (pc := 21) (k := 25) (r := 1) kf_X2_31.r rfl rfl (hPl.get (by decide) rfl) (hPl.lt (by decide)) dX2_colourByTurn_21 ?_
    refine g_getI (pc := 24) (k := 1) kf_X2_114.r rfl rfl (hPl.lt (by decide)) dX2_colourByTurn_24 ?_
    refine g_iload_n (pc := 27) dX2_colourByTurn_27 rfl rfl ?_
    refine g_iadd (pc := 28) dX2_colourByTurn_28 ?_
    refine g_aload_n (pc := 29) dX2_colourByTurn_29 rfl rfl ?_
    refine g_getR (pc := 30) (k := 25) (r := 1) kf_X2_31.r rfl rfl (hPl.get (by decide) rfl) (hPl.lt (by decide)) dX2_colourByTurn_30 ?_
    refine g_getI (pc := 33) (k := 1) kf_X2_102.r rfl rfl (hPl.lt (by decide)) dX2_colourByTurn_33 ?_
    obtain ⟨c_2, hF⟩ := am_gd hF
    refine g_irem (pc := 36) dX2_colourByTurn_36 c_2 ?_
    obtain ⟨l3_3, e_l3_3, hF⟩ := am_let_el hF
    refine n_istore_n (pc := 37) (ls2 := [.ref 25, .ref 8, .int a2, .int l3_3]) e_l3_3 rfl dX2_colourByTurn_37 rfl (Nat.le_of_ble_eq_true rfl) ?_
    refine g_aload_n (pc := 38) dX2_colourByTurn_38 rfl rfl ?_
    refine g_getR (pc := 39) (k := 25) (r := 23) kf_X2_35.r rfl rfl (hPl.get (by decide) rfl) (hPl.lt (by decide)) dX2_colourByTurn_39 ?_
    refine g_iload_n (pc := 42) dX2_colourByTurn_42 rfl rfl ?_
    refine g_iload_n (pc := 43) dX2_colourByTurn_43 rfl rfl ?_
    obtain ⟨r_5, h_4, hF⟩ := am_b1_el hF
    refine g_cVi (pc := 44) (k := 23) (As := [.int l3_3, .int a2]) (st := []) ky_X8_yardsOf kl_X2_105 (s_X8_yardsOf_23 (d := 1) (hPl) (Nat.le_refl _) h_4) rfl rfl rfl (hPl.lt (by decide)) (Nat.le_trans (by decide) hd) (Nat.le_of_ble_eq_true rfl) (Nat.le_refl _) (Nat.le_refl _) dX2_colourByTurn_44 ?_
    refine g_if_le (pc := 47) (tgt := 62) dX2_colourByTurn_47 rfl (fun c_6 => ?_) (fun c_6 => ?_)
    · replace hF := am_yes c_6 hF
      refine g_aload_n (pc := 62) dX2_colourByTurn_62 rfl rfl ?_
      refine g_getR (pc := 63) (k := 25) (r := 1) kf_X2_31.r rfl rfl (hPl.get (by decide) rfl) (hPl.lt (by decide)) dX2_colourByTurn_63 ?_
      refine g_getR (pc := 66) (k := 1) (r := 3) kf_X2_81 rfl rfl (hPl.get (by decide) rfl) (hPl.lt (by decide)) dX2_colourByTurn_66 ?_
      refine g_iload_n (pc := 69) dX2_colourByTurn_69 rfl rfl ?_
      obtain ⟨c_7, hF⟩ := am_gd hF
      refine g_iald (pc := 70) (k := 3) rfl (hPl.lt (by decide)) (am_ix_use c_7) dX2_colourByTurn_70 ?_
      cases hF
      exact g_iret (pc := 71) rfl (Nat.le_refl _) (Nat.le_refl _) dX2_colourByTurn_71 ⟨rfl, rfl, rfl, rfl⟩
    · replace hF := am_no c_6 hF
      refine g_aload_n (pc := 50) dX2_colourByTurn_50 rfl rfl ?_
      refine g_getR (pc := 51) (k := 25) (r := 1) kf_X2_31.r rfl rfl (hPl.get (by decide) rfl) (hPl.lt (by decide)) dX2_colourByTurn_51 ?_
      refine g_aload_n (pc := 54) dX2_colourByTurn_54 rfl rfl ?_
      refine g_iload_n (pc := 55) dX2_colourByTurn_55 rfl rfl ?_
      obtain ⟨r_9, h_8, hF⟩ := am_b1_el hF
      refine g_cVi (pc := 56) (k := 1) (As := [.ref 8, .int l3_3]) (st := []) ky_X9_favourite kl_X2_92 (s_X9_favourite_1_8 (d := 1) (hPl) (Nat.le_refl _) h_8) rfl rfl rfl (hPl.lt (by decide)) (Nat.le_trans (by decide) hd) (Nat.le_of_ble_eq_true rfl) (Nat.le_refl _) (Nat.le_refl _) dX2_colourByTurn_56 ?_
      refine g_goto (pc := 59) (tgt := 71) dX2_colourByTurn_59 rfl ?_
      cases hF
      exact g_iret (pc := 71) rfl (Nat.le_refl _) (Nat.le_refl _) dX2_colourByTurn_71 ⟨rfl, rfl, rfl, rfl⟩
  · replace hF := am_yes c_1 hF
    refine g_aload_n (pc := 10) dX2_colourByTurn_10 rfl rfl ?_
    refine g_getR (pc := 11) (k := 25) (r := 1) kf_X2_31.r rfl rfl (hPl.get (by decide) rfl) (hPl.lt (by decide)) dX2_colourByTurn_11 ?_
    refine g_getR (pc := 14) (k := 1) (r := 3) kf_X2_81 rfl rfl (hPl.get (by decide) rfl) (hPl.lt (by decide)) dX2_colourByTurn_14 ?_
    refine g_iload_n (pc := 17) dX2_colourByTurn_17 rfl rfl ?_
    obtain ⟨c_10, hF⟩ := am_gd hF
    refine g_iald (pc := 18) (k := 3) rfl (hPl.lt (by decide)) (am_ix_use c_10) dX2_colourByTurn_18 ?_
    cases hF
    exact g_iret (pc := 19) rfl (Nat.le_refl _) (Nat.le_refl _) dX2_colourByTurn_19 ⟨rfl, rfl, rfl, rfl⟩
def F_X2_decideWall_25_8 (I : am_IT) (a2 : Int32) : Option (Int32 × am_IT) := am_b1 (F_X2_gatherFacts_25 I a2) (fun (I_2 : am_IT) => if am_ix (1 : Int32) 6 = true then (if (I_2 28 (1 : Int32).toNatClampNeg) = 0 then (if am_ix a2 7 = true then (some (I_2 3 a2.toNatClampNeg, I_2)) else none) else (am_b2 (F_X2_chosenMethod_25 I_2) (fun (r_6 : Int32) (I_7 : am_IT) => if r_6 = (261 : Int32) then (am_b1 (F_X2_seerOfMost_25 I_7 a2) (fun (r_10 : Int32) => am_b1 (F_X9_favourite_1_8 I_7 r_10) (fun (r_12 : Int32) => some (r_12, I_7)))) else (if r_6 = (262 : Int32) then (am_b1 (F_X2_colourOfMost_25_8 I_7 a2 r_6) (fun (r_15 : Int32) => some (r_15, I_7))) else (if r_6 = (263 : Int32) then (am_b1 (F_X2_colourOfMost_25_8 I_7 a2 r_6) (fun (r_18 : Int32) => some (r_18, I_7))) else (if r_6 = (264 : Int32) then (am_b1 (F_X2_colourOfMost_25_8 I_7 a2 r_6) (fun (r_21 : Int32) => some (r_21, I_7))) else (if r_6 = (265 : Int32) then (am_b1 (F_X2_colourByTurn_25_8 I_7 a2) (fun (r_24 : Int32) => some (r_24, I_7))) else (if am_out r_6 (261) (265) = true then (if am_ix a2 7 = true then (some (I_7 3 a2.toNatClampNeg, I_7)) else none) else none)))))))) else none)
set_option maxRecDepth 100000 in
set_option maxHeartbeats 4000000 in
theorem s_X2_decideWall_25_8 {l : Launch} {d N : Nat} {P : am_PT} (hPl : am_Pl 94 N P) (hd : 4 ≤ d) {I : am_IT} {a2 : Int32} {r : Int32} {I2 : am_IT} (hF : F_X2_decideWall_25_8 I a2 = some (r, I2)) : am_C l d 0 0 mX2_decideWall [.ref 25, .ref 8, .int a2] N P I (am_qi r N P I2) := by
  refine am_body (sc := am_sc0) (n := 1) (by decide +kernel) (by decide) rfl ?_
  change G am_sc0 l d 0 0 mX2_decideWall (am_qi r N P I2) 0 [.ref 25, .ref 8, .int a2, .null] [] N P I 0 0
  unfold F_X2_decideWall_25_8 at hF
  refine g_aload_n (pc := 0) dX2_decideWall_0 rfl rfl ?_
  refine g_iload_n (pc := 1) dX2_decideWall_1 rfl rfl ?_
  obtain ⟨I_2, h_1, hF⟩ := am_b1_el hF
  refine g_cVv (pc := 2) (k := 25) (As := [.int a2]) (st := []) ky_X2_gatherFacts kl_X2_77 (s_X2_gatherFacts_25 (d := 2) (hPl) (Nat.le_refl _) h_1) rfl rfl rfl (hPl.lt (by decide)) (Nat.le_trans (by decide) hd) (Nat.le_of_ble_eq_true rfl) (Nat.le_refl _) (Nat.le_refl _) dX2_decideWall_2 ?_
  refine g_aload_n (pc := 5) dX2_decideWall_5 rfl rfl ?_
  refine g_getR (pc := 6) (k := 25) (r := 28) kf_X2_25.r rfl rfl (hPl.get (by decide) rfl) (hPl.lt (by decide)) dX2_decideWall_6 ?_
  refine g_iconst (pc := 9) (v := (1 : Int32)) dX2_decideWall_9 rfl ?_
  obtain ⟨c_3, hF⟩ := am_gd hF
  refine g_iald (pc := 10) (k := 28) rfl (hPl.lt (by decide)) (am_ix_use c_3) dX2_decideWall_10 ?_
  refine g_if_ne (pc := 11) (tgt := 24) dX2_decideWall_11 rfl (fun c_4 => ?_) (fun c_4 => ?_)
  · replace hF := am_no c_4 hF
    refine g_aload_n (pc := 24) dX2_decideWall_24 rfl rfl ?_
    obtain ⟨r_6, I_7, h_5, hF⟩ := am_b2_el hF
    refine g_cVi (pc := 25) (k := 25) (As := []) (st := []) ky_X2_chosenMethod kl_X2_84 (s_X2_chosenMethod_25 (d := 3) (hPl) (Nat.le_refl _) h_5) rfl rfl rfl (hPl.lt (by decide)) (Nat.le_trans (by decide) hd) (Nat.le_of_ble_eq_true rfl) (Nat.le_refl _) (Nat.le_refl _) dX2_decideWall_25 ?_
    refine n_istore_n (pc := 28) (ls2 := [.ref 25, .ref 8, .int a2, .int r_6]) rfl rfl dX2_decideWall_28 rfl (Nat.le_of_ble_eq_true rfl) ?_
    refine g_iload_n (pc := 29) dX2_decideWall_29 rfl rfl ?_
    by_cases c_8 : r_6 = (261 : Int32)
    · replace hF := am_yes c_8 hF
      refine g_tableIn (pc := 30) (tgt := 64) dX2_decideWall_30 (by rw [c_8]; decide) (by rw [c_8]; decide) (by rw [c_8]; rfl) rfl ?_
      refine g_aload_n (pc := 64) dX2_decideWall_64 rfl rfl ?_
      refine g_getR (pc := 65) (k := 25) (r := 1) kf_X2_31.r rfl rfl (hPl.get (by decide) rfl) (hPl.lt (by decide)) dX2_decideWall_65 ?_
      refine g_aload_n (pc := 68) dX2_decideWall_68 rfl rfl ?_
      refine g_aload_n (pc := 69) dX2_decideWall_69 rfl rfl ?_
      refine g_iload_n (pc := 70) dX2_decideWall_70 rfl rfl ?_
      obtain ⟨r_10, h_9, hF⟩ := am_b1_el hF
      refine g_cVi (pc := 71) (k := 25) (As := [.int a2]) (st := [.ref 8, .ref 1]) ky_X2_seerOfMost kl_X2_88 (s_X2_seerOfMost_25 (d := 2) (hPl) (Nat.le_refl _) h_9) rfl rfl rfl (hPl.lt (by decide)) (Nat.le_trans (by decide) hd) (Nat.le_of_ble_eq_true rfl) (Nat.le_refl _) (Nat.le_refl _) dX2_decideWall_71 ?_
      obtain ⟨r_12, h_11, hF⟩ := am_b1_el hF
      refine g_cVi (pc := 74) (k := 1) (As := [.ref 8, .int r_10]) (st := []) ky_X9_favourite kl_X2_92 (s_X9_favourite_1_8 (d := 1) (hPl) (Nat.le_refl _) h_11) rfl rfl rfl (hPl.lt (by decide)) (Nat.le_trans (by decide) hd) (Nat.le_of_ble_eq_true rfl) (Nat.le_refl _) (Nat.le_refl _) dX2_decideWall_74 ?_
      cases hF
      exact g_iret (pc := 77) rfl (Nat.le_refl _) (Nat.le_refl _) dX2_decideWall_77 ⟨rfl, rfl, rfl, rfl⟩
    · replace hF := am_no c_8 hF
      by_cases c_13 : r_6 = (262 : Int32)
      · replace hF := am_yes c_13 hF
        refine g_tableIn (pc := 30) (tgt := 78) dX2_decideWall_30 (by rw [c_13]; decide) (by rw [c_13]; decide) (by rw [c_13]; rfl) rfl ?_
        refine g_aload_n (pc := 78) dX2_decideWall_78 rfl rfl ?_
        refine g_aload_n (pc := 79) dX2_decideWall_79 rfl rfl ?_
        refine g_iload_n (pc := 80) dX2_decideWall_80 rfl rfl ?_
        refine g_iload_n (pc := 81) dX2_decideWall_81 rfl rfl ?_
        obtain ⟨r_15, h_14, hF⟩ := am_b1_el hF
        refine g_cVi (pc := 82) (k := 25) (As := [.ref 8, .int a2, .int r_6]) (st := []) ky_X2_colourOfMost kl_X2_95 (s_X2_colourOfMost_25_8 (d := 3) (hPl) (Nat.le_refl _) h_14) rfl rfl rfl (hPl.lt (by decide)) (Nat.le_trans (by decide) hd) (Nat.le_of_ble_eq_true rfl) (Nat.le_refl _) (Nat.le_refl _) dX2_decideWall_82 ?_
        cases hF
        exact g_iret (pc := 85) rfl (Nat.le_refl _) (Nat.le_refl _) dX2_decideWall_85 ⟨rfl, rfl, rfl, rfl⟩
      · replace hF := am_no c_13 hF
        by_cases c_16 : r_6 = (263 : Int32)
        · replace hF := am_yes c_16 hF
          refine g_tableIn (pc := 30) (tgt := 78) dX2_decideWall_30 (by rw [c_16]; decide) (by rw [c_16]; decide) (by rw [c_16]; rfl) rfl ?_
          refine g_aload_n (pc := 78) dX2_decideWall_78 rfl rfl ?_
          refine g_aload_n (pc := 79) dX2_decideWall_79 rfl rfl ?_
          refine g_iload_n (pc := 80) dX2_decideWall_80 rfl rfl ?_
          refine g_iload_n (pc := 81) dX2_decideWall_81 rfl rfl ?_
          obtain ⟨r_18, h_17, hF⟩ := am_b1_el hF
          refine g_cVi (pc := 82) (k := 25) (As := [.ref 8, .int a2, .int r_6]) (st := []) ky_X2_colourOfMost kl_X2_95 (s_X2_colourOfMost_25_8 (d := 3) (hPl) (Nat.le_refl _) h_17) rfl rfl rfl (hPl.lt (by decide)) (Nat.le_trans (by decide) hd) (Nat.le_of_ble_eq_true rfl) (Nat.le_refl _) (Nat.le_refl _) dX2_decideWall_82 ?_
          cases hF
          exact g_iret (pc := 85) rfl (Nat.le_refl _) (Nat.le_refl _) dX2_decideWall_85 ⟨rfl, rfl, rfl, rfl⟩
        · replace hF := am_no c_16 hF
          by_cases c_19 : r_6 = (264 : Int32)
          · replace hF := am_yes c_19 hF
            refine g_tableIn (pc := 30) (tgt := 78) dX2_decideWall_30 (by rw [c_19]; decide) (by rw [c_19]; decide) (by rw [c_19]; rfl) rfl ?_
            refine g_aload_n (pc := 78) dX2_decideWall_78 rfl rfl ?_
            refine g_aload_n (pc := 79) dX2_decideWall_79 rfl rfl ?_
            refine g_iload_n (pc := 80) dX2_decideWall_80 rfl rfl ?_
            refine g_iload_n (pc := 81) dX2_decideWall_81 rfl rfl ?_
            obtain ⟨r_21, h_20, hF⟩ := am_b1_el hF
            refine g_cVi (pc := 82) (k := 25) (As := [.ref 8, .int a2, .int r_6]) (st := []) ky_X2_colourOfMost kl_X2_95 (s_X2_colourOfMost_25_8 (d := 3) (hPl) (Nat.le_refl _) h_20) rfl rfl rfl (hPl.lt (by decide)) (Nat.le_trans (by decide) hd) (Nat.le_of_ble_eq_true rfl) (Nat.le_refl _) (Nat.le_refl _) dX2_decideWall_82 ?_
            cases hF
            exact g_iret (pc := 85) rfl (Nat.le_refl _) (Nat.le_refl _) dX2_decideWall_85 ⟨rfl, rfl, rfl, rfl⟩
          · replace hF := am_no c_19 hF
            by_cases c_22 : r_6 = (265 : Int32)
            · replace hF := am_yes c_22 hF
              refine g_tableIn (pc := 30) (tgt := 86) dX2_decideWall_30 (by rw [c_22]; decide) (by rw [c_22]; decide) (by rw [c_22]; rfl) rfl ?_
              refine g_aload_n (pc := 86) dX2_decideWall_86 rfl rfl ?_
              refine g_aload_n (pc := 87) dX2_decideWall_87 rfl rfl ?_
              refine g_iload_n (pc := 88) dX2_decideWall_88 rfl rfl ?_
              obtain ⟨r_24, h_23, hF⟩ := am_b1_el hF
              refine g_cVi (pc := 89) (k := 25) (As := [.ref 8, .int a2]) (st := []) ky_X2_colourByTurn kl_X2_99 (s_X2_colourByTurn_25_8 (d := 2) (hPl) (Nat.le_refl _) h_23) rfl rfl rfl (hPl.lt (by decide)) (Nat.le_trans (by decide) hd) (Nat.le_of_ble_eq_true rfl) (Nat.le_refl _) (Nat.le_refl _) dX2_decideWall_89 ?_
              cases hF
              exact g_iret (pc := 92) rfl (Nat.le_refl _) (Nat.le_refl _) dX2_decideWall_92 ⟨rfl, rfl, rfl, rfl⟩
            · replace hF := am_no c_22 hF
              obtain ⟨c_26, hF⟩ := am_gd hF
              refine g_tableOut (pc := 30) (tgt := 93) dX2_decideWall_30 (am_out_use c_26) rfl ?_
              refine g_aload_n (pc := 93) dX2_decideWall_93 rfl rfl ?_
              refine g_getR (pc := 94) (k := 25) (r := 1) kf_X2_31.r rfl rfl (hPl.get (by decide) rfl) (hPl.lt (by decide)) dX2_decideWall_94 ?_
              refine g_getR (pc := 97) (k := 1) (r := 3) kf_X2_81 rfl rfl (hPl.get (by decide) rfl) (hPl.lt (by decide)) dX2_decideWall_97 ?_
              refine g_iload_n (pc := 100) dX2_decideWall_100 rfl rfl ?_
              obtain ⟨c_25, hF⟩ := am_gd hF
              refine g_iald (pc := 101) (k := 3) rfl (hPl.lt (by decide)) (am_ix_use c_25) dX2_decideWall_101 ?_
              cases hF
              exact g_iret (pc := 102) rfl (Nat.le_refl _) (Nat.le_refl _) dX2_decideWall_102 ⟨rfl, rfl, rfl, rfl⟩
  · replace hF := am_yes c_4 hF
    refine g_aload_n (pc := 14) dX2_decideWall_14 rfl rfl ?_
    refine g_getR (pc := 15) (k := 25) (r := 1) kf_X2_31.r rfl rfl (hPl.get (by decide) rfl) (hPl.lt (by decide)) dX2_decideWall_15 ?_
    refine g_getR (pc := 18) (k := 1) (r := 3) kf_X2_81 rfl rfl (hPl.get (by decide) rfl) (hPl.lt (by decide)) dX2_decideWall_18 ?_
    refine g_iload_n (pc := 21) dX2_decideWall_21 rfl rfl ?_
    obtain ⟨c_27, hF⟩ := am_gd hF
    refine g_iald (pc := 22) (k := 3) rfl (hPl.lt (by decide)) (am_ix_use c_27) dX2_decideWall_22 ?_
    cases hF
    exact g_iret (pc := 23) rfl (Nat.le_refl _) (Nat.le_refl _) dX2_decideWall_23 ⟨rfl, rfl, rfl, rfl⟩
def F_X2_decide_25_8 (I : am_IT) : Option (am_IT) := am_b1 (F_X8_measure_23 I) (fun (I_2 : am_IT) => am_b1 (am_it am_fu (am_u2 (fun (l2_3 : Int32) (I_4 : am_IT) => if (I_4 1 3) ≤ l2_3 then (some (.inr (I_4))) else (am_b2 (F_X2_decideWall_25_8 I_4 l2_3) (fun (r_13 : Int32) (I_14 : am_IT) => if am_ix l2_3 7 = true then (am_let (up2 I_14 26 l2_3.toNatClampNeg r_13) (fun (I_16 : am_IT) => am_let (l2_3 + (1 : Int32)) (fun (l2_17 : Int32) => some (.inl (l2_17, I_16))))) else none)))) ((0 : Int32), I_2)) (fun (I_5 : am_IT) => some I_5))
set_option maxRecDepth 100000 in
set_option maxHeartbeats 4000000 in
theorem s_X2_decide_25_8 {l : Launch} {d N : Nat} {P : am_PT} (hPl : am_Pl 94 N P) (hd : 5 ≤ d) {I : am_IT} {I2 : am_IT} (hF : F_X2_decide_25_8 I = some (I2)) : am_C l d 0 0 mX2_decide [.ref 25, .ref 8] N P I (am_qv N P I2) := by
  refine am_body (sc := am_sc0) (n := 1) (by decide +kernel) (by decide) rfl ?_
  change G am_sc0 l d 0 0 mX2_decide (am_qv N P I2) 0 [.ref 25, .ref 8, .null] [] N P I 0 0
  unfold F_X2_decide_25_8 at hF
  refine g_aload_n (pc := 0) dX2_decide_0 rfl rfl ?_
  refine g_getR (pc := 1) (k := 25) (r := 23) kf_X2_35.r rfl rfl (hPl.get (by decide) rfl) (hPl.lt (by decide)) dX2_decide_1 ?_
  obtain ⟨I_2, h_1, hF⟩ := am_b1_el hF
  refine g_cVv (pc := 4) (k := 23) (As := []) (st := []) ky_X8_measure kl_X2_39 (s_X8_measure_23 (d := 2) (hPl) (Nat.le_refl _) h_1) rfl rfl rfl (hPl.lt (by decide)) (Nat.le_trans (by decide) hd) (Nat.le_of_ble_eq_true rfl) (Nat.le_refl _) (Nat.le_refl _) dX2_decide_4 ?_
  refine g_iconst (pc := 7) (v := (0 : Int32)) dX2_decide_7 rfl ?_
  refine n_istore_n (pc := 8) (ls2 := [.ref 25, .ref 8, .int (0 : Int32)]) rfl rfl dX2_decide_8 rfl (Nat.le_of_ble_eq_true rfl) ?_
  obtain ⟨I_5, hL_9, hF⟩ := am_b1_el hF
  have hX_6 : G am_sc0 l d 0 0 mX2_decide (am_qv N P I2) 38 [.ref 25, .ref 8, .null] [] N P I_5 0 0 := by
    cases hF
    exact g_vret (pc := 38) rfl (Nat.le_refl _) (Nat.le_refl _) dX2_decide_38 ⟨rfl, rfl, rfl, rfl⟩
  clear hF
  have hC := am_loop (C := fun x => G am_sc0 l d 0 0 mX2_decide (am_qv N P I2) 9 [.ref 25, .ref 8, .int x.1] [] N P x.2 0 0) (by
    rintro ⟨l2_3, I_4⟩ rr hF ih_7 hE_8
    replace hF := am_u2_ap hF
    change G am_sc0 l d 0 0 mX2_decide (am_qv N P I2) 9 [.ref 25, .ref 8, .int l2_3] [] N P I_4 0 0
    refine g_iload_n (pc := 9) dX2_decide_9 rfl rfl ?_
    refine g_aload_n (pc := 10) dX2_decide_10 rfl rfl ?_
    refine g_getR (pc := 11) (k := 25) (r := 1) kf_X2_31.r rfl rfl (hPl.get (by decide) rfl) (hPl.lt (by decide)) dX2_decide_11 ?_
    refine g_getI (pc := 14) (k := 1) kf_X2_44.r rfl rfl (hPl.lt (by decide)) dX2_decide_14 ?_
    refine g_icmp_ge (pc := 17) (tgt := 38) dX2_decide_17 rfl (fun c_11 => ?_) (fun c_11 => ?_)
    · replace hF := am_yes c_11 hF
      cases hF
      cases hE_8 _ rfl
      exact g_weak hX_6 ⟨Or.inr rfl, Or.inr rfl, Or.inl rfl, trivial⟩
    · replace hF := am_no c_11 hF
      refine g_aload_n (pc := 20) dX2_decide_20 rfl rfl ?_
      refine g_getR (pc := 21) (k := 25) (r := 26) kf_X2_9.r rfl rfl (hPl.get (by decide) rfl) (hPl.lt (by decide)) dX2_decide_21 ?_
      refine g_iload_n (pc := 24) dX2_decide_24 rfl rfl ?_
      refine g_aload_n (pc := 25) dX2_decide_25 rfl rfl ?_
      refine g_aload_n (pc := 26) dX2_decide_26 rfl rfl ?_
      refine g_iload_n (pc := 27) dX2_decide_27 rfl rfl ?_
      obtain ⟨r_13, I_14, h_12, hF⟩ := am_b2_el hF
      refine g_cVi (pc := 28) (k := 25) (As := [.ref 8, .int l2_3]) (st := [.int l2_3, .ref 26]) ky_X2_decideWall kl_X2_49 (s_X2_decideWall_25_8 (d := 4) (hPl) (Nat.le_refl _) h_12) rfl rfl rfl (hPl.lt (by decide)) (Nat.le_trans (by decide) hd) (Nat.le_of_ble_eq_true rfl) (Nat.le_refl _) (Nat.le_refl _) dX2_decide_28 ?_
      obtain ⟨c_15, hF⟩ := am_gd hF
      obtain ⟨I_16, e_I_16, hF⟩ := am_let_el hF
      refine n_iast (pc := 31) (k := 26) e_I_16 rfl (hPl.lt (by decide)) (am_ix_use c_15) dX2_decide_31 ?_
      obtain ⟨l2_17, e_l2_17, hF⟩ := am_let_el hF
      refine n_iinc (pc := 32) (ls2 := [.ref 25, .ref 8, .int l2_17]) e_l2_17 rfl rfl rfl dX2_decide_32 (Nat.le_of_ble_eq_true rfl) ?_
      refine g_goto (pc := 35) (tgt := 9) dX2_decide_35 rfl ?_
      cases hF
      exact ih_7 (l2_17, I_16) rfl
    ) _ _ hL_9
  exact hC
def F_X11_imagined_0 (I : am_IT) (a1 : Int32) : Option (Nat × am_IT) := if a1 = (1 : Int32) then (am_b1 (F_X2_decide_25_8 I) (fun (I_6 : am_IT) => some (26, I_6))) else (am_b2 (F_X0_choose_30 I) (fun (r_3 : Int32) (I_4 : am_IT) => some (31, I_4)))
set_option maxRecDepth 100000 in
set_option maxHeartbeats 4000000 in
theorem s_X11_imagined_0 {l : Launch} {d N : Nat} {P : am_PT} (hPl : am_Pl 94 N P) (hd : 69 ≤ d) {I : am_IT} {a1 : Int32} {r : Nat} {I2 : am_IT} (hF : F_X11_imagined_0 I a1 = some (r, I2)) : am_C l d 0 0 mX11_imagined [.ref 0, .int a1] N P I (am_qr r N P I2) := by
  refine am_body (sc := am_sc0) (n := 0) (by decide +kernel) (by decide) rfl ?_
  change G am_sc0 l d 0 0 mX11_imagined (am_qr r N P I2) 0 [.ref 0, .int a1] [] N P I 0 0
  unfold F_X11_imagined_0 at hF
  refine g_iload_n (pc := 0) dX11_imagined_0 rfl rfl ?_
  refine g_iconst (pc := 1) (v := (1 : Int32)) dX11_imagined_1 rfl ?_
  refine g_icmp_ne (pc := 2) (tgt := 27) dX11_imagined_2 rfl (fun c_1 => ?_) (fun c_1 => ?_)
  · replace hF := am_no c_1 hF
    refine g_aload_n (pc := 27) dX11_imagined_27 rfl rfl ?_
    refine g_getR (pc := 28) (k := 0) (r := 30) kf_X11_37.r rfl rfl (hPl.get (by decide) rfl) (hPl.lt (by decide)) dX11_imagined_28 ?_
    obtain ⟨r_3, I_4, h_2, hF⟩ := am_b2_el hF
    refine g_cVi (pc := 31) (k := 30) (As := []) (st := []) ky_X0_choose kl_X11_207 (s_X0_choose_30 (d := 68) (hPl) (Nat.le_refl _) h_2) rfl rfl rfl (hPl.lt (by decide)) (Nat.le_trans (by decide) hd) (Nat.le_of_ble_eq_true rfl) (Nat.le_refl _) (Nat.le_refl _) dX11_imagined_31 ?_
    refine g_pop (pc := 34) dX11_imagined_34 ?_
    refine g_aload_n (pc := 35) dX11_imagined_35 rfl rfl ?_
    refine g_getR (pc := 36) (k := 0) (r := 30) kf_X11_37.r rfl rfl (hPl.get (by decide) rfl) (hPl.lt (by decide)) dX11_imagined_36 ?_
    refine g_getR (pc := 39) (k := 30) (r := 31) kf_X11_314 rfl rfl (hPl.get (by decide) rfl) (hPl.lt (by decide)) dX11_imagined_39 ?_
    cases hF
    exact g_aret (pc := 42) rfl (Nat.le_refl _) (Nat.le_refl _) dX11_imagined_42 ⟨rfl, rfl, rfl, rfl⟩
  · replace hF := am_yes c_1 hF
    refine g_aload_n (pc := 5) dX11_imagined_5 rfl rfl ?_
    refine g_getR (pc := 6) (k := 0) (r := 25) kf_X11_30.r rfl rfl (hPl.get (by decide) rfl) (hPl.lt (by decide)) dX11_imagined_6 ?_
    refine g_aload_n (pc := 9) dX11_imagined_9 rfl rfl ?_
    refine g_getR (pc := 10) (k := 0) (r := 1) kf_X11_12.r rfl rfl (hPl.get (by decide) rfl) (hPl.lt (by decide)) dX11_imagined_10 ?_
    refine g_getR (pc := 13) (k := 1) (r := 8) kf_X11_147 rfl rfl (hPl.get (by decide) rfl) (hPl.lt (by decide)) dX11_imagined_13 ?_
    obtain ⟨I_6, h_5, hF⟩ := am_b1_el hF
    refine g_cVv (pc := 16) (k := 25) (As := [.ref 8]) (st := []) ky_X2_decide kl_X11_307 (s_X2_decide_25_8 (d := 5) (hPl) (Nat.le_refl _) h_5) rfl rfl rfl (hPl.lt (by decide)) (Nat.le_trans (by decide) hd) (Nat.le_of_ble_eq_true rfl) (Nat.le_refl _) (Nat.le_refl _) dX11_imagined_16 ?_
    refine g_aload_n (pc := 19) dX11_imagined_19 rfl rfl ?_
    refine g_getR (pc := 20) (k := 0) (r := 25) kf_X11_30.r rfl rfl (hPl.get (by decide) rfl) (hPl.lt (by decide)) dX11_imagined_20 ?_
    refine g_getR (pc := 23) (k := 25) (r := 26) kf_X11_311 rfl rfl (hPl.get (by decide) rfl) (hPl.lt (by decide)) dX11_imagined_23 ?_
    cases hF
    exact g_aret (pc := 26) rfl (Nat.le_refl _) (Nat.le_refl _) dX11_imagined_26 ⟨rfl, rfl, rfl, rfl⟩
def F_X11_colour_0 (I : am_IT) (a1 : Int32) (a2 : Int32) : Option (Int32 × am_IT) := am_b1 (F_X9_hasWall_1 I a1) (fun (r_2 : Int32) => if r_2 = 0 then (some ((-1 : Int32), I)) else (am_b1 (F_X11_isWithin I a2 (0 : Int32) (2 : Int32)) (fun (r_6 : Int32) => if r_6 = 0 then (some ((-1 : Int32), I)) else (if a2 = 0 then (if am_ix a1 7 = true then (some (I 3 a1.toNatClampNeg, I)) else none) else (am_b2 (F_X11_imagined_0 I a2) (fun (r_11 : Nat) (I_12 : am_IT) => if r_11 = 26 then (if am_ix a1 7 = true then (some (I_12 26 a1.toNatClampNeg, I_12)) else none) else (if r_11 = 31 then (if am_ix a1 7 = true then (some (I_12 31 a1.toNatClampNeg, I_12)) else none) else (none))))))))
set_option maxRecDepth 100000 in
set_option maxHeartbeats 4000000 in
theorem s_X11_colour_0 {l : Launch} {d N : Nat} {P : am_PT} (hPl : am_Pl 94 N P) (hd : 70 ≤ d) {I : am_IT} {a1 : Int32} {a2 : Int32} {r : Int32} {I2 : am_IT} (hF : F_X11_colour_0 I a1 a2 = some (r, I2)) : am_C l d 0 0 mX11_colour [.ref 0, .int a1, .int a2] N P I (am_qi r N P I2) := by
  refine am_body (sc := am_sc0) (n := 0) (by decide +kernel) (by decide) rfl ?_
  change G am_sc0 l d 0 0 mX11_colour (am_qi r N P I2) 0 [.ref 0, .int a1, .int a2] [] N P I 0 0
  unfold F_X11_colour_0 at hF
  refine g_aload_n (pc := 0) dX11_colour_0 rfl rfl ?_
  refine g_getR (pc := 1) (k := 0) (r := 1) kf_X11_12.r rfl rfl (hPl.get (by decide) rfl) (hPl.lt (by decide)) dX11_colour_1 ?_
  refine g_iload_n (pc := 4) dX11_colour_4 rfl rfl ?_
  obtain ⟨r_2, h_1, hF⟩ := am_b1_el hF
  refine g_cVz (pc := 5) (k := 1) (As := [.int a1]) (st := []) ky_X9_hasWall kl_X11_126 (s_X9_hasWall_1 (d := 1) (hPl) (Nat.le_refl _) h_1) rfl rfl rfl (hPl.lt (by decide)) (Nat.le_trans (by decide) hd) (Nat.le_of_ble_eq_true rfl) (Nat.le_refl _) (Nat.le_refl _) dX11_colour_5 ?_
  intro z_3
  refine g_if_eq (pc := 8) (tgt := 20) dX11_colour_8 rfl (fun c_4 => ?_) (fun c_4 => ?_)
  · replace hF := am_yes c_4 hF
    refine g_iconst (pc := 20) (v := (-1 : Int32)) dX11_colour_20 (by decide) ?_
    cases hF
    exact g_iret (pc := 21) rfl (Nat.le_refl _) (Nat.le_refl _) dX11_colour_21 ⟨rfl, rfl, rfl, rfl⟩
  · replace hF := am_no c_4 hF
    refine g_iload_n (pc := 11) dX11_colour_11 rfl rfl ?_
    refine g_iconst (pc := 12) (v := (0 : Int32)) dX11_colour_12 rfl ?_
    refine g_iconst (pc := 13) (v := (2 : Int32)) dX11_colour_13 rfl ?_
    obtain ⟨r_6, h_5, hF⟩ := am_b1_el hF
    refine g_cSz (pc := 14) (As := [.int a2, .int (0 : Int32), .int (2 : Int32)]) (st := []) ky_X11_isWithin kl_X11_97 (s_X11_isWithin (d := 1) (hPl) (Nat.le_refl _) h_5) rfl rfl (Nat.le_trans (by decide) hd) (Nat.le_of_ble_eq_true rfl) (Nat.le_refl _) (Nat.le_refl _) dX11_colour_14 ?_
    intro z_7
    refine g_if_ne (pc := 17) (tgt := 22) dX11_colour_17 rfl (fun c_8 => ?_) (fun c_8 => ?_)
    · replace hF := am_no c_8 hF
      refine g_iload_n (pc := 22) dX11_colour_22 rfl rfl ?_
      refine g_if_ne (pc := 23) (tgt := 38) dX11_colour_23 rfl (fun c_9 => ?_) (fun c_9 => ?_)
      · replace hF := am_no c_9 hF
        refine g_aload_n (pc := 38) dX11_colour_38 rfl rfl ?_
        refine g_iload_n (pc := 39) dX11_colour_39 rfl rfl ?_
        obtain ⟨r_11, I_12, h_10, hF⟩ := am_b2_el hF
        refine g_cVr (pc := 40) (k := 0) (As := [.int a2]) (st := []) ky_X11_imagined kl_X11_190 (s_X11_imagined_0 (d := 69) (hPl) (Nat.le_refl _) h_10) rfl rfl rfl (hPl.lt (by decide)) (Nat.le_trans (by decide) hd) (Nat.le_of_ble_eq_true rfl) (Nat.le_refl _) (Nat.le_refl _) dX11_colour_40 ?_
        by_cases c_13 : r_11 = 26
        · replace hF := am_yes c_13 hF
          subst c_13
          refine g_iload_n (pc := 43) dX11_colour_43 rfl rfl ?_
          obtain ⟨c_14, hF⟩ := am_gd hF
          refine g_iald (pc := 44) (k := 26) rfl (hPl.lt (by decide)) (am_ix_use c_14) dX11_colour_44 ?_
          cases hF
          exact g_iret (pc := 45) rfl (Nat.le_refl _) (Nat.le_refl _) dX11_colour_45 ⟨rfl, rfl, rfl, rfl⟩
        · replace hF := am_no c_13 hF
          by_cases c_15 : r_11 = 31
          · replace hF := am_yes c_15 hF
            subst c_15
            refine g_iload_n (pc := 43) dX11_colour_43 rfl rfl ?_
            obtain ⟨c_16, hF⟩ := am_gd hF
            refine g_iald (pc := 44) (k := 31) rfl (hPl.lt (by decide)) (am_ix_use c_16) dX11_colour_44 ?_
            cases hF
            exact g_iret (pc := 45) rfl (Nat.le_refl _) (Nat.le_refl _) dX11_colour_45 ⟨rfl, rfl, rfl, rfl⟩
          · replace hF := am_no c_15 hF
            cases hF
      · replace hF := am_yes c_9 hF
        refine g_aload_n (pc := 26) dX11_colour_26 rfl rfl ?_
        refine g_getR (pc := 27) (k := 0) (r := 1) kf_X11_12.r rfl rfl (hPl.get (by decide) rfl) (hPl.lt (by decide)) dX11_colour_27 ?_
        refine g_getR (pc := 30) (k := 1) (r := 3) kf_X11_107 rfl rfl (hPl.get (by decide) rfl) (hPl.lt (by decide)) dX11_colour_30 ?_
        refine g_iload_n (pc := 33) dX11_colour_33 rfl rfl ?_
        obtain ⟨c_17, hF⟩ := am_gd hF
        refine g_iald (pc := 34) (k := 3) rfl (hPl.lt (by decide)) (am_ix_use c_17) dX11_colour_34 ?_
        refine g_goto (pc := 35) (tgt := 45) dX11_colour_35 rfl ?_
        cases hF
        exact g_iret (pc := 45) rfl (Nat.le_refl _) (Nat.le_refl _) dX11_colour_45 ⟨rfl, rfl, rfl, rfl⟩
    · replace hF := am_yes c_8 hF
      refine g_iconst (pc := 20) (v := (-1 : Int32)) dX11_colour_20 (by decide) ?_
      cases hF
      exact g_iret (pc := 21) rfl (Nat.le_refl _) (Nat.le_refl _) dX11_colour_21 ⟨rfl, rfl, rfl, rfl⟩
def F_X11_adopt_0_26 (I : am_IT) : Option (Int32 × am_IT) := am_b2 (am_it am_fu (am_u3 (fun (l2_1 : Int32) (l3_2 : Int32) (I_3 : am_IT) => if (I_3 1 3) ≤ l3_2 then (some (.inr (l2_1, I_3))) else (if am_ix l3_2 7 = true then (if am_ix l3_2 7 = true then (if (I_3 3 l3_2.toNatClampNeg) = (I_3 26 l3_2.toNatClampNeg) then (am_let (l3_2 + (1 : Int32)) (fun (l3_15 : Int32) => some (.inl (l2_1, l3_15, I_3)))) else (if am_ix l3_2 7 = true then (if am_ix l3_2 7 = true then (am_let (up2 I_3 3 l3_2.toNatClampNeg (I_3 26 l3_2.toNatClampNeg)) (fun (I_18 : am_IT) => am_let (l2_1 + (1 : Int32)) (fun (l2_19 : Int32) => am_let (l3_2 + (1 : Int32)) (fun (l3_20 : Int32) => some (.inl (l2_19, l3_20, I_18)))))) else none) else none)) else none) else none))) ((0 : Int32), (0 : Int32), I)) (fun (l2_4 : Int32) (I_5 : am_IT) => some (l2_4, I_5))
set_option maxRecDepth 100000 in
set_option maxHeartbeats 4000000 in
theorem s_X11_adopt_0_26 {l : Launch} {d N : Nat} {P : am_PT} (hPl : am_Pl 94 N P) (hd : 1 ≤ d) {I : am_IT} {r : Int32} {I2 : am_IT} (hF : F_X11_adopt_0_26 I = some (r, I2)) : am_C l d 0 0 mX11_adopt [.ref 0, .ref 26] N P I (am_qi r N P I2) := by
  refine am_body (sc := am_sc0) (n := 2) (by decide +kernel) (by decide) rfl ?_
  change G am_sc0 l d 0 0 mX11_adopt (am_qi r N P I2) 0 [.ref 0, .ref 26, .null, .null] [] N P I 0 0
  unfold F_X11_adopt_0_26 at hF
  refine g_iconst (pc := 0) (v := (0 : Int32)) dX11_adopt_0 rfl ?_
  refine n_istore_n (pc := 1) (ls2 := [.ref 0, .ref 26, .int (0 : Int32), .null]) rfl rfl dX11_adopt_1 rfl (Nat.le_of_ble_eq_true rfl) ?_
  refine g_iconst (pc := 2) (v := (0 : Int32)) dX11_adopt_2 rfl ?_
  refine n_istore_n (pc := 3) (ls2 := [.ref 0, .ref 26, .int (0 : Int32), .int (0 : Int32)]) rfl rfl dX11_adopt_3 rfl (Nat.le_of_ble_eq_true rfl) ?_
  obtain ⟨l2_4, I_5, hL_9, hF⟩ := am_b2_el hF
  have hX_6 : G am_sc0 l d 0 0 mX11_adopt (am_qi r N P I2) 51 [.ref 0, .ref 26, .int l2_4, .null] [] N P I_5 0 0 := by
    refine g_iload_n (pc := 51) dX11_adopt_51 rfl rfl ?_
    cases hF
    exact g_iret (pc := 52) rfl (Nat.le_refl _) (Nat.le_refl _) dX11_adopt_52 ⟨rfl, rfl, rfl, rfl⟩
  clear hF
  have hC := am_loop (C := fun x => G am_sc0 l d 0 0 mX11_adopt (am_qi r N P I2) 4 [.ref 0, .ref 26, .int x.1, .int x.2.1] [] N P x.2.2 0 0) (by
    rintro ⟨l2_1, l3_2, I_3⟩ rr hF ih_7 hE_8
    replace hF := am_u3_ap hF
    change G am_sc0 l d 0 0 mX11_adopt (am_qi r N P I2) 4 [.ref 0, .ref 26, .int l2_1, .int l3_2] [] N P I_3 0 0
    refine g_iload_n (pc := 4) dX11_adopt_4 rfl rfl ?_
    refine g_aload_n (pc := 5) dX11_adopt_5 rfl rfl ?_
    refine g_getR (pc := 6) (k := 0) (r := 1) kf_X11_12.r rfl rfl (hPl.get (by decide) rfl) (hPl.lt (by decide)) dX11_adopt_6 ?_
    refine g_getI (pc := 9) (k := 1) kf_X11_104.r rfl rfl (hPl.lt (by decide)) dX11_adopt_9 ?_
    refine g_icmp_ge (pc := 12) (tgt := 51) dX11_adopt_12 rfl (fun c_11 => ?_) (fun c_11 => ?_)
    · replace hF := am_yes c_11 hF
      cases hF
      cases hE_8 _ rfl
      exact g_weak hX_6 ⟨Or.inr rfl, Or.inr rfl, Or.inr rfl, Or.inl rfl, trivial⟩
    · replace hF := am_no c_11 hF
      refine g_aload_n (pc := 15) dX11_adopt_15 rfl rfl ?_
      refine g_getR (pc := 16) (k := 0) (r := 1) kf_X11_12.r rfl rfl (hPl.get (by decide) rfl) (hPl.lt (by decide)) dX11_adopt_16 ?_
      refine g_getR (pc := 19) (k := 1) (r := 3) kf_X11_107 rfl rfl (hPl.get (by decide) rfl) (hPl.lt (by decide)) dX11_adopt_19 ?_
      refine g_iload_n (pc := 22) dX11_adopt_22 rfl rfl ?_
      obtain ⟨c_12, hF⟩ := am_gd hF
      refine g_iald (pc := 23) (k := 3) rfl (hPl.lt (by decide)) (am_ix_use c_12) dX11_adopt_23 ?_
      refine g_aload_n (pc := 24) dX11_adopt_24 rfl rfl ?_
      refine g_iload_n (pc := 25) dX11_adopt_25 rfl rfl ?_
      obtain ⟨c_13, hF⟩ := am_gd hF
      refine g_iald (pc := 26) (k := 26) rfl (hPl.lt (by decide)) (am_ix_use c_13) dX11_adopt_26 ?_
      refine g_icmp_eq (pc := 27) (tgt := 45) dX11_adopt_27 rfl (fun c_14 => ?_) (fun c_14 => ?_)
      · replace hF := am_yes c_14 hF
        obtain ⟨l3_15, e_l3_15, hF⟩ := am_let_el hF
        refine n_iinc (pc := 45) (ls2 := [.ref 0, .ref 26, .int l2_1, .int l3_15]) e_l3_15 rfl rfl rfl dX11_adopt_45 (Nat.le_of_ble_eq_true rfl) ?_
        refine g_goto (pc := 48) (tgt := 4) dX11_adopt_48 rfl ?_
        cases hF
        exact ih_7 (l2_1, l3_15, I_3) rfl
      · replace hF := am_no c_14 hF
        refine g_aload_n (pc := 30) dX11_adopt_30 rfl rfl ?_
        refine g_getR (pc := 31) (k := 0) (r := 1) kf_X11_12.r rfl rfl (hPl.get (by decide) rfl) (hPl.lt (by decide)) dX11_adopt_31 ?_
        refine g_getR (pc := 34) (k := 1) (r := 3) kf_X11_107 rfl rfl (hPl.get (by decide) rfl) (hPl.lt (by decide)) dX11_adopt_34 ?_
        refine g_iload_n (pc := 37) dX11_adopt_37 rfl rfl ?_
        refine g_aload_n (pc := 38) dX11_adopt_38 rfl rfl ?_
        refine g_iload_n (pc := 39) dX11_adopt_39 rfl rfl ?_
        obtain ⟨c_16, hF⟩ := am_gd hF
        refine g_iald (pc := 40) (k := 26) rfl (hPl.lt (by decide)) (am_ix_use c_16) dX11_adopt_40 ?_
        obtain ⟨c_17, hF⟩ := am_gd hF
        obtain ⟨I_18, e_I_18, hF⟩ := am_let_el hF
        refine n_iast (pc := 41) (k := 3) e_I_18 rfl (hPl.lt (by decide)) (am_ix_use c_17) dX11_adopt_41 ?_
        obtain ⟨l2_19, e_l2_19, hF⟩ := am_let_el hF
        refine n_iinc (pc := 42) (ls2 := [.ref 0, .ref 26, .int l2_19, .int l3_2]) e_l2_19 rfl rfl rfl dX11_adopt_42 (Nat.le_of_ble_eq_true rfl) ?_
        obtain ⟨l3_20, e_l3_20, hF⟩ := am_let_el hF
        refine n_iinc (pc := 45) (ls2 := [.ref 0, .ref 26, .int l2_19, .int l3_20]) e_l3_20 rfl rfl rfl dX11_adopt_45 (Nat.le_of_ble_eq_true rfl) ?_
        refine g_goto (pc := 48) (tgt := 4) dX11_adopt_48 rfl ?_
        cases hF
        exact ih_7 (l2_19, l3_20, I_18) rfl
    ) _ _ hL_9
  exact hC
def F_X11_adopt_0_31 (I : am_IT) : Option (Int32 × am_IT) := am_b2 (am_it am_fu (am_u3 (fun (l2_1 : Int32) (l3_2 : Int32) (I_3 : am_IT) => if (I_3 1 3) ≤ l3_2 then (some (.inr (l2_1, I_3))) else (if am_ix l3_2 7 = true then (if am_ix l3_2 7 = true then (if (I_3 3 l3_2.toNatClampNeg) = (I_3 31 l3_2.toNatClampNeg) then (am_let (l3_2 + (1 : Int32)) (fun (l3_15 : Int32) => some (.inl (l2_1, l3_15, I_3)))) else (if am_ix l3_2 7 = true then (if am_ix l3_2 7 = true then (am_let (up2 I_3 3 l3_2.toNatClampNeg (I_3 31 l3_2.toNatClampNeg)) (fun (I_18 : am_IT) => am_let (l2_1 + (1 : Int32)) (fun (l2_19 : Int32) => am_let (l3_2 + (1 : Int32)) (fun (l3_20 : Int32) => some (.inl (l2_19, l3_20, I_18)))))) else none) else none)) else none) else none))) ((0 : Int32), (0 : Int32), I)) (fun (l2_4 : Int32) (I_5 : am_IT) => some (l2_4, I_5))
set_option maxRecDepth 100000 in
set_option maxHeartbeats 4000000 in
theorem s_X11_adopt_0_31 {l : Launch} {d N : Nat} {P : am_PT} (hPl : am_Pl 94 N P) (hd : 1 ≤ d) {I : am_IT} {r : Int32} {I2 : am_IT} (hF : F_X11_adopt_0_31 I = some (r, I2)) : am_C l d 0 0 mX11_adopt [.ref 0, .ref 31] N P I (am_qi r N P I2) := by
  refine am_body (sc := am_sc0) (n := 2) (by decide +kernel) (by decide) rfl ?_
  change G am_sc0 l d 0 0 mX11_adopt (am_qi r N P I2) 0 [.ref 0, .ref 31, .null, .null] [] N P I 0 0
  unfold F_X11_adopt_0_31 at hF
  refine g_iconst (pc := 0) (v := (0 : Int32)) dX11_adopt_0 rfl ?_
  refine n_istore_n (pc := 1) (ls2 := [.ref 0, .ref 31, .int (0 : Int32), .null]) rfl rfl dX11_adopt_1 rfl (Nat.le_of_ble_eq_true rfl) ?_
  refine g_iconst (pc := 2) (v := (0 : Int32)) dX11_adopt_2 rfl ?_
  refine n_istore_n (pc := 3) (ls2 := [.ref 0, .ref 31, .int (0 : Int32), .int (0 : Int32)]) rfl rfl dX11_adopt_3 rfl (Nat.le_of_ble_eq_true rfl) ?_
  obtain ⟨l2_4, I_5, hL_9, hF⟩ := am_b2_el hF
  have hX_6 : G am_sc0 l d 0 0 mX11_adopt (am_qi r N P I2) 51 [.ref 0, .ref 31, .int l2_4, .null] [] N P I_5 0 0 := by
    refine g_iload_n (pc := 51) dX11_adopt_51 rfl rfl ?_
    cases hF
    exact g_iret (pc := 52) rfl (Nat.le_refl _) (Nat.le_refl _) dX11_adopt_52 ⟨rfl, rfl, rfl, rfl⟩
  clear hF
  have hC := am_loop (C := fun x => G am_sc0 l d 0 0 mX11_adopt (am_qi r N P I2) 4 [.ref 0, .ref 31, .int x.1, .int x.2.1] [] N P x.2.2 0 0) (by
    rintro ⟨l2_1, l3_2, I_3⟩ rr hF ih_7 hE_8
    replace hF := am_u3_ap hF
    change G am_sc0 l d 0 0 mX11_adopt (am_qi r N P I2) 4 [.ref 0, .ref 31, .int l2_1, .int l3_2] [] N P I_3 0 0
    refine g_iload_n (pc := 4) dX11_adopt_4 rfl rfl ?_
    refine g_aload_n (pc := 5) dX11_adopt_5 rfl rfl ?_
    refine g_getR (pc := 6) (k := 0) (r := 1) kf_X11_12.r rfl rfl (hPl.get (by decide) rfl) (hPl.lt (by decide)) dX11_adopt_6 ?_
    refine g_getI (pc := 9) (k := 1) kf_X11_104.r rfl rfl (hPl.lt (by decide)) dX11_adopt_9 ?_
    refine g_icmp_ge (pc := 12) (tgt := 51) dX11_adopt_12 rfl (fun c_11 => ?_) (fun c_11 => ?_)
    · replace hF := am_yes c_11 hF
      cases hF
      cases hE_8 _ rfl
      exact g_weak hX_6 ⟨Or.inr rfl, Or.inr rfl, Or.inr rfl, Or.inl rfl, trivial⟩
    · replace hF := am_no c_11 hF
      refine g_aload_n (pc := 15) dX11_adopt_15 rfl rfl ?_
      refine g_getR (pc := 16) (k := 0) (r := 1) kf_X11_12.r rfl rfl (hPl.get (by decide) rfl) (hPl.lt (by decide)) dX11_adopt_16 ?_
      refine g_getR (pc := 19) (k := 1) (r := 3) kf_X11_107 rfl rfl (hPl.get (by decide) rfl) (hPl.lt (by decide)) dX11_adopt_19 ?_
      refine g_iload_n (pc := 22) dX11_adopt_22 rfl rfl ?_
      obtain ⟨c_12, hF⟩ := am_gd hF
      refine g_iald (pc := 23) (k := 3) rfl (hPl.lt (by decide)) (am_ix_use c_12) dX11_adopt_23 ?_
      refine g_aload_n (pc := 24) dX11_adopt_24 rfl rfl ?_
      refine g_iload_n (pc := 25) dX11_adopt_25 rfl rfl ?_
      obtain ⟨c_13, hF⟩ := am_gd hF
      refine g_iald (pc := 26) (k := 31) rfl (hPl.lt (by decide)) (am_ix_use c_13) dX11_adopt_26 ?_
      refine g_icmp_eq (pc := 27) (tgt := 45) dX11_adopt_27 rfl (fun c_14 => ?_) (fun c_14 => ?_)
      · replace hF := am_yes c_14 hF
        obtain ⟨l3_15, e_l3_15, hF⟩ := am_let_el hF
        refine n_iinc (pc := 45) (ls2 := [.ref 0, .ref 31, .int l2_1, .int l3_15]) e_l3_15 rfl rfl rfl dX11_adopt_45 (Nat.le_of_ble_eq_true rfl) ?_
        refine g_goto (pc := 48) (tgt := 4) dX11_adopt_48 rfl ?_
        cases hF
        exact ih_7 (l2_1, l3_15, I_3) rfl
      · replace hF := am_no c_14 hF
        refine g_aload_n (pc := 30) dX11_adopt_30 rfl rfl ?_
        refine g_getR (pc := 31) (k := 0) (r := 1) kf_X11_12.r rfl rfl (hPl.get (by decide) rfl) (hPl.lt (by decide)) dX11_adopt_31 ?_
        refine g_getR (pc := 34) (k := 1) (r := 3) kf_X11_107 rfl rfl (hPl.get (by decide) rfl) (hPl.lt (by decide)) dX11_adopt_34 ?_
        refine g_iload_n (pc := 37) dX11_adopt_37 rfl rfl ?_
        refine g_aload_n (pc := 38) dX11_adopt_38 rfl rfl ?_
        refine g_iload_n (pc := 39) dX11_adopt_39 rfl rfl ?_
        obtain ⟨c_16, hF⟩ := am_gd hF
        refine g_iald (pc := 40) (k := 31) rfl (hPl.lt (by decide)) (am_ix_use c_16) dX11_adopt_40 ?_
        obtain ⟨c_17, hF⟩ := am_gd hF
        obtain ⟨I_18, e_I_18, hF⟩ := am_let_el hF
        refine n_iast (pc := 41) (k := 3) e_I_18 rfl (hPl.lt (by decide)) (am_ix_use c_17) dX11_adopt_41 ?_
        obtain ⟨l2_19, e_l2_19, hF⟩ := am_let_el hF
        refine n_iinc (pc := 42) (ls2 := [.ref 0, .ref 31, .int l2_19, .int l3_2]) e_l2_19 rfl rfl rfl dX11_adopt_42 (Nat.le_of_ble_eq_true rfl) ?_
        obtain ⟨l3_20, e_l3_20, hF⟩ := am_let_el hF
        refine n_iinc (pc := 45) (ls2 := [.ref 0, .ref 31, .int l2_19, .int l3_20]) e_l3_20 rfl rfl rfl dX11_adopt_45 (Nat.le_of_ble_eq_true rfl) ?_
        refine g_goto (pc := 48) (tgt := 4) dX11_adopt_48 rfl ?_
        cases hF
        exact ih_7 (l2_19, l3_20, I_18) rfl
    ) _ _ hL_9
  exact hC
def F_X11_become_0 (I : am_IT) (a1 : Int32) : Option (Int32 × am_IT) := if a1 = (1 : Int32) then (am_b2 (F_X11_imagined_0 I a1) (fun (r_3 : Nat) (I_4 : am_IT) => if r_3 = 26 then (am_b2 (F_X11_adopt_0_26 I_4) (fun (r_7 : Int32) (I_8 : am_IT) => some (r_7, I_8))) else (if r_3 = 31 then (am_b2 (F_X11_adopt_0_31 I_4) (fun (r_11 : Int32) (I_12 : am_IT) => some (r_11, I_12))) else (none)))) else (if a1 = (2 : Int32) then (am_b2 (F_X11_imagined_0 I a1) (fun (r_15 : Nat) (I_16 : am_IT) => if r_15 = 26 then (am_b2 (F_X11_adopt_0_26 I_16) (fun (r_19 : Int32) (I_20 : am_IT) => some (r_19, I_20))) else (if r_15 = 31 then (am_b2 (F_X11_adopt_0_31 I_16) (fun (r_23 : Int32) (I_24 : am_IT) => some (r_23, I_24))) else (none)))) else (some ((-1 : Int32), I)))
set_option maxRecDepth 100000 in
set_option maxHeartbeats 4000000 in
theorem s_X11_become_0 {l : Launch} {d N : Nat} {P : am_PT} (hPl : am_Pl 94 N P) (hd : 70 ≤ d) {I : am_IT} {a1 : Int32} {r : Int32} {I2 : am_IT} (hF : F_X11_become_0 I a1 = some (r, I2)) : am_C l d 0 0 mX11_become [.ref 0, .int a1] N P I (am_qi r N P I2) := by
  refine am_body (sc := am_sc0) (n := 0) (by decide +kernel) (by decide) rfl ?_
  change G am_sc0 l d 0 0 mX11_become (am_qi r N P I2) 0 [.ref 0, .int a1] [] N P I 0 0
  unfold F_X11_become_0 at hF
  refine g_iload_n (pc := 0) dX11_become_0 rfl rfl ?_
  refine g_iconst (pc := 1) (v := (1 : Int32)) dX11_become_1 rfl ?_
  refine g_icmp_eq (pc := 2) (tgt := 12) dX11_become_2 rfl (fun c_1 => ?_) (fun c_1 => ?_)
  · replace hF := am_yes c_1 hF
    refine g_aload_n (pc := 12) dX11_become_12 rfl rfl ?_
    refine g_aload_n (pc := 13) dX11_become_13 rfl rfl ?_
    refine g_iload_n (pc := 14) dX11_become_14 rfl rfl ?_
    obtain ⟨r_3, I_4, h_2, hF⟩ := am_b2_el hF
    refine g_cVr (pc := 15) (k := 0) (As := [.int a1]) (st := [.ref 0]) ky_X11_imagined kl_X11_190 (s_X11_imagined_0 (d := 69) (hPl) (Nat.le_refl _) h_2) rfl rfl rfl (hPl.lt (by decide)) (Nat.le_trans (by decide) hd) (Nat.le_of_ble_eq_true rfl) (Nat.le_refl _) (Nat.le_refl _) dX11_become_15 ?_
    by_cases c_5 : r_3 = 26
    · replace hF := am_yes c_5 hF
      subst c_5
      obtain ⟨r_7, I_8, h_6, hF⟩ := am_b2_el hF
      refine g_cVi (pc := 18) (k := 0) (As := [.ref 26]) (st := []) ky_X11_adopt kl_X11_194 (s_X11_adopt_0_26 (d := 1) (hPl) (Nat.le_refl _) h_6) rfl rfl rfl (hPl.lt (by decide)) (Nat.le_trans (by decide) hd) (Nat.le_of_ble_eq_true rfl) (Nat.le_refl _) (Nat.le_refl _) dX11_become_18 ?_
      cases hF
      exact g_iret (pc := 21) rfl (Nat.le_refl _) (Nat.le_refl _) dX11_become_21 ⟨rfl, rfl, rfl, rfl⟩
    · replace hF := am_no c_5 hF
      by_cases c_9 : r_3 = 31
      · replace hF := am_yes c_9 hF
        subst c_9
        obtain ⟨r_11, I_12, h_10, hF⟩ := am_b2_el hF
        refine g_cVi (pc := 18) (k := 0) (As := [.ref 31]) (st := []) ky_X11_adopt kl_X11_194 (s_X11_adopt_0_31 (d := 1) (hPl) (Nat.le_refl _) h_10) rfl rfl rfl (hPl.lt (by decide)) (Nat.le_trans (by decide) hd) (Nat.le_of_ble_eq_true rfl) (Nat.le_refl _) (Nat.le_refl _) dX11_become_18 ?_
        cases hF
        exact g_iret (pc := 21) rfl (Nat.le_refl _) (Nat.le_refl _) dX11_become_21 ⟨rfl, rfl, rfl, rfl⟩
      · replace hF := am_no c_9 hF
        cases hF
  · replace hF := am_no c_1 hF
    refine g_iload_n (pc := 5) dX11_become_5 rfl rfl ?_
    refine g_iconst (pc := 6) (v := (2 : Int32)) dX11_become_6 rfl ?_
    refine g_icmp_eq (pc := 7) (tgt := 12) dX11_become_7 rfl (fun c_13 => ?_) (fun c_13 => ?_)
    · replace hF := am_yes c_13 hF
      refine g_aload_n (pc := 12) dX11_become_12 rfl rfl ?_
      refine g_aload_n (pc := 13) dX11_become_13 rfl rfl ?_
      refine g_iload_n (pc := 14) dX11_become_14 rfl rfl ?_
      obtain ⟨r_15, I_16, h_14, hF⟩ := am_b2_el hF
      refine g_cVr (pc := 15) (k := 0) (As := [.int a1]) (st := [.ref 0]) ky_X11_imagined kl_X11_190 (s_X11_imagined_0 (d := 69) (hPl) (Nat.le_refl _) h_14) rfl rfl rfl (hPl.lt (by decide)) (Nat.le_trans (by decide) hd) (Nat.le_of_ble_eq_true rfl) (Nat.le_refl _) (Nat.le_refl _) dX11_become_15 ?_
      by_cases c_17 : r_15 = 26
      · replace hF := am_yes c_17 hF
        subst c_17
        obtain ⟨r_19, I_20, h_18, hF⟩ := am_b2_el hF
        refine g_cVi (pc := 18) (k := 0) (As := [.ref 26]) (st := []) ky_X11_adopt kl_X11_194 (s_X11_adopt_0_26 (d := 1) (hPl) (Nat.le_refl _) h_18) rfl rfl rfl (hPl.lt (by decide)) (Nat.le_trans (by decide) hd) (Nat.le_of_ble_eq_true rfl) (Nat.le_refl _) (Nat.le_refl _) dX11_become_18 ?_
        cases hF
        exact g_iret (pc := 21) rfl (Nat.le_refl _) (Nat.le_refl _) dX11_become_21 ⟨rfl, rfl, rfl, rfl⟩
      · replace hF := am_no c_17 hF
        by_cases c_21 : r_15 = 31
        · replace hF := am_yes c_21 hF
          subst c_21
          obtain ⟨r_23, I_24, h_22, hF⟩ := am_b2_el hF
          refine g_cVi (pc := 18) (k := 0) (As := [.ref 31]) (st := []) ky_X11_adopt kl_X11_194 (s_X11_adopt_0_31 (d := 1) (hPl) (Nat.le_refl _) h_22) rfl rfl rfl (hPl.lt (by decide)) (Nat.le_trans (by decide) hd) (Nat.le_of_ble_eq_true rfl) (Nat.le_refl _) (Nat.le_refl _) dX11_become_18 ?_
          cases hF
          exact g_iret (pc := 21) rfl (Nat.le_refl _) (Nat.le_refl _) dX11_become_21 ⟨rfl, rfl, rfl, rfl⟩
        · replace hF := am_no c_21 hF
          cases hF
    · replace hF := am_no c_13 hF
      refine g_iconst (pc := 10) (v := (-1 : Int32)) dX11_become_10 (by decide) ?_
      cases hF
      exact g_iret (pc := 11) rfl (Nat.le_refl _) (Nat.le_refl _) dX11_become_11 ⟨rfl, rfl, rfl, rfl⟩
def F_X8_worthIn_23_26 (I : am_IT) (a1 : Int32) (a2 : Int32) : Option (Int32) := am_b1 (am_it am_fu (am_u2 (fun (l4_1 : Int32) (l5_2 : Int32) => if (I 1 3) ≤ l5_2 then (some (.inr (l4_1))) else (am_b1 (F_X8_yardsFrom_23 I a2 l5_2) (fun (r_11 : Int32) => if am_ix l5_2 7 = true then (if am_ix ((a1 * (4 : Int32)) + (I 26 l5_2.toNatClampNeg)) 28 = true then (am_let (l4_1 + (r_11 * (I 7 ((a1 * (4 : Int32)) + (I 26 l5_2.toNatClampNeg)).toNatClampNeg))) (fun (l4_14 : Int32) => am_b1 (am_it am_fu (am_u2 (fun (l4_15 : Int32) (l6_16 : Int32) => if l5_2 ≤ l6_16 then (some (.inr (l4_15))) else (if am_ix l5_2 7 = true then (if am_ix l6_16 7 = true then (if (I 26 l5_2.toNatClampNeg) = (I 26 l6_16.toNatClampNeg) then (am_b1 (F_X8_worthOfTwo_23 I a1 a2 l5_2 l6_16) (fun (r_29 : Int32) => am_let (l4_15 + r_29) (fun (l4_30 : Int32) => am_let (l6_16 + (1 : Int32)) (fun (l6_31 : Int32) => some (.inl (l4_30, l6_31)))))) else (am_let (l6_16 + (1 : Int32)) (fun (l6_27 : Int32) => some (.inl (l4_15, l6_27))))) else none) else none))) (l4_14, (0 : Int32))) (fun (l4_17 : Int32) => am_let (l5_2 + (1 : Int32)) (fun (l5_32 : Int32) => some (.inl (l4_17, l5_32)))))) else none) else none)))) ((0 : Int32), (0 : Int32))) (fun (l4_3 : Int32) => some l4_3)
set_option maxRecDepth 100000 in
set_option maxHeartbeats 4000000 in
theorem s_X8_worthIn_23_26 {l : Launch} {d N : Nat} {P : am_PT} (hPl : am_Pl 94 N P) (hd : 3 ≤ d) {I : am_IT} {a1 : Int32} {a2 : Int32} {r : Int32} (hF : F_X8_worthIn_23_26 I a1 a2 = some (r)) : am_C l d 0 0 mX8_worthIn [.ref 23, .int a1, .int a2, .ref 26] N P I (am_qi r N P I) := by
  refine am_body (sc := am_sc0) (n := 3) (by decide +kernel) (by decide) rfl ?_
  change G am_sc0 l d 0 0 mX8_worthIn (am_qi r N P I) 0 [.ref 23, .int a1, .int a2, .ref 26, .null, .null, .null] [] N P I 0 0
  unfold F_X8_worthIn_23_26 at hF
  refine g_iconst (pc := 0) (v := (0 : Int32)) dX8_worthIn_0 rfl ?_
  refine n_istore (pc := 1) (ls2 := [.ref 23, .int a1, .int a2, .ref 26, .int (0 : Int32), .null, .null]) rfl rfl dX8_worthIn_1 (Nat.le_of_ble_eq_true rfl) ?_
  refine g_iconst (pc := 3) (v := (0 : Int32)) dX8_worthIn_3 rfl ?_
  refine n_istore (pc := 4) (ls2 := [.ref 23, .int a1, .int a2, .ref 26, .int (0 : Int32), .int (0 : Int32), .null]) rfl rfl dX8_worthIn_4 (Nat.le_of_ble_eq_true rfl) ?_
  obtain ⟨l4_3, hL_7, hF⟩ := am_b1_el hF
  have hX_4 : G am_sc0 l d 0 0 mX8_worthIn (am_qi r N P I) 95 [.ref 23, .int a1, .int a2, .ref 26, .int l4_3, .null, .null] [] N P I 0 0 := by
    refine g_iload (pc := 95) dX8_worthIn_95 rfl ?_
    cases hF
    exact g_iret (pc := 97) rfl (Nat.le_refl _) (Nat.le_refl _) dX8_worthIn_97 ⟨rfl, rfl, rfl, rfl⟩
  clear hF
  have hC := am_loop (C := fun x => G am_sc0 l d 0 0 mX8_worthIn (am_qi r N P I) 6 [.ref 23, .int a1, .int a2, .ref 26, .int x.1, .int x.2, .null] [] N P I 0 0) (by
    rintro ⟨l4_1, l5_2⟩ rr hF ih_5 hE_6
    replace hF := am_u2_ap hF
    change G am_sc0 l d 0 0 mX8_worthIn (am_qi r N P I) 6 [.ref 23, .int a1, .int a2, .ref 26, .int l4_1, .int l5_2, .null] [] N P I 0 0
    refine g_iload (pc := 6) dX8_worthIn_6 rfl ?_
    refine g_aload_n (pc := 8) dX8_worthIn_8 rfl rfl ?_
    refine g_getR (pc := 9) (k := 23) (r := 1) kf_X8_15.r rfl rfl (hPl.get (by decide) rfl) (hPl.lt (by decide)) dX8_worthIn_9 ?_
    refine g_getI (pc := 12) (k := 1) kf_X8_61.r rfl rfl (hPl.lt (by decide)) dX8_worthIn_12 ?_
    refine g_icmp_ge (pc := 15) (tgt := 95) dX8_worthIn_15 rfl (fun c_9 => ?_) (fun c_9 => ?_)
    · replace hF := am_yes c_9 hF
      cases hF
      cases hE_6 _ rfl
      exact g_weak hX_4 ⟨Or.inr rfl, Or.inr rfl, Or.inr rfl, Or.inr rfl, Or.inr rfl, Or.inl rfl, Or.inl rfl, trivial⟩
    · replace hF := am_no c_9 hF
      refine g_iload (pc := 18) dX8_worthIn_18 rfl ?_
      refine g_aload_n (pc := 20) dX8_worthIn_20 rfl rfl ?_
      refine g_iload_n (pc := 21) dX8_worthIn_21 rfl rfl ?_
      refine g_iload (pc := 22) dX8_worthIn_22 rfl ?_
      obtain ⟨r_11, h_10, hF⟩ := am_b1_el hF
      refine g_cVi (pc := 24) (k := 23) (As := [.int a2, .int l5_2]) (st := [.int l4_1]) ky_X8_yardsFrom kl_X8_55 (s_X8_yardsFrom_23 (d := 1) (hPl) (Nat.le_refl _) h_10) rfl rfl rfl (hPl.lt (by decide)) (Nat.le_trans (by decide) hd) (Nat.le_of_ble_eq_true rfl) (Nat.le_refl _) (Nat.le_refl _) dX8_worthIn_24 ?_
      refine g_aload_n (pc := 27) dX8_worthIn_27 rfl rfl ?_
      refine g_getR (pc := 28) (k := 23) (r := 1) kf_X8_15.r rfl rfl (hPl.get (by decide) rfl) (hPl.lt (by decide)) dX8_worthIn_28 ?_
      refine g_getR (pc := 31) (k := 1) (r := 7) kf_X8_64 rfl rfl (hPl.get (by decide) rfl) (hPl.lt (by decide)) dX8_worthIn_31 ?_
      refine g_iload_n (pc := 34) dX8_worthIn_34 rfl rfl ?_
      refine g_iconst (pc := 35) (v := (4 : Int32)) dX8_worthIn_35 rfl ?_
      refine g_imul (pc := 36) dX8_worthIn_36 ?_
      refine g_aload_n (pc := 37) dX8_worthIn_37 rfl rfl ?_
      refine g_iload (pc := 38) dX8_worthIn_38 rfl ?_
      obtain ⟨c_12, hF⟩ := am_gd hF
      refine g_iald (pc := 40) (k := 26) rfl (hPl.lt (by decide)) (am_ix_use c_12) dX8_worthIn_40 ?_
      refine g_iadd (pc := 41) dX8_worthIn_41 ?_
      obtain ⟨c_13, hF⟩ := am_gd hF
      refine g_iald (pc := 42) (k := 7) rfl (hPl.lt (by decide)) (am_ix_use c_13) dX8_worthIn_42 ?_
      refine g_imul (pc := 43) dX8_worthIn_43 ?_
      refine g_iadd (pc := 44) dX8_worthIn_44 ?_
      obtain ⟨l4_14, e_l4_14, hF⟩ := am_let_el hF
      refine n_istore (pc := 45) (ls2 := [.ref 23, .int a1, .int a2, .ref 26, .int l4_14, .int l5_2, .null]) e_l4_14 rfl dX8_worthIn_45 (Nat.le_of_ble_eq_true rfl) ?_
      refine g_iconst (pc := 47) (v := (0 : Int32)) dX8_worthIn_47 rfl ?_
      refine n_istore (pc := 48) (ls2 := [.ref 23, .int a1, .int a2, .ref 26, .int l4_14, .int l5_2, .int (0 : Int32)]) rfl rfl dX8_worthIn_48 (Nat.le_of_ble_eq_true rfl) ?_
      obtain ⟨l4_17, hL_21, hF⟩ := am_b1_el hF
      have hX_18 : G am_sc0 l d 0 0 mX8_worthIn (am_qi r N P I) 89 [.ref 23, .int a1, .int a2, .ref 26, .int l4_17, .int l5_2, .null] [] N P I 0 0 := by
        obtain ⟨l5_32, e_l5_32, hF⟩ := am_let_el hF
        refine n_iinc (pc := 89) (ls2 := [.ref 23, .int a1, .int a2, .ref 26, .int l4_17, .int l5_32, .null]) e_l5_32 rfl rfl rfl dX8_worthIn_89 (Nat.le_of_ble_eq_true rfl) ?_
        refine g_goto (pc := 92) (tgt := 6) dX8_worthIn_92 rfl ?_
        cases hF
        exact ih_5 (l4_17, l5_32) rfl
      clear hF
      have hC := am_loop (C := fun x => G am_sc0 l d 0 0 mX8_worthIn (am_qi r N P I) 50 [.ref 23, .int a1, .int a2, .ref 26, .int x.1, .int l5_2, .int x.2] [] N P I 0 0) (by
        rintro ⟨l4_15, l6_16⟩ rr hF ih_19 hE_20
        replace hF := am_u2_ap hF
        change G am_sc0 l d 0 0 mX8_worthIn (am_qi r N P I) 50 [.ref 23, .int a1, .int a2, .ref 26, .int l4_15, .int l5_2, .int l6_16] [] N P I 0 0
        refine g_iload (pc := 50) dX8_worthIn_50 rfl ?_
        refine g_iload (pc := 52) dX8_worthIn_52 rfl ?_
        refine g_icmp_ge (pc := 54) (tgt := 89) dX8_worthIn_54 rfl (fun c_23 => ?_) (fun c_23 => ?_)
        · replace hF := am_yes c_23 hF
          cases hF
          cases hE_20 _ rfl
          exact g_weak hX_18 ⟨Or.inr rfl, Or.inr rfl, Or.inr rfl, Or.inr rfl, Or.inr rfl, Or.inr rfl, Or.inl rfl, trivial⟩
        · replace hF := am_no c_23 hF
          refine g_aload_n (pc := 57) dX8_worthIn_57 rfl rfl ?_
          refine g_iload (pc := 58) dX8_worthIn_58 rfl ?_
          obtain ⟨c_24, hF⟩ := am_gd hF
          refine g_iald (pc := 60) (k := 26) rfl (hPl.lt (by decide)) (am_ix_use c_24) dX8_worthIn_60 ?_
          refine g_aload_n (pc := 61) dX8_worthIn_61 rfl rfl ?_
          refine g_iload (pc := 62) dX8_worthIn_62 rfl ?_
          obtain ⟨c_25, hF⟩ := am_gd hF
          refine g_iald (pc := 64) (k := 26) rfl (hPl.lt (by decide)) (am_ix_use c_25) dX8_worthIn_64 ?_
          refine g_icmp_ne (pc := 65) (tgt := 83) dX8_worthIn_65 rfl (fun c_26 => ?_) (fun c_26 => ?_)
          · replace hF := am_no c_26 hF
            obtain ⟨l6_27, e_l6_27, hF⟩ := am_let_el hF
            refine n_iinc (pc := 83) (ls2 := [.ref 23, .int a1, .int a2, .ref 26, .int l4_15, .int l5_2, .int l6_27]) e_l6_27 rfl rfl rfl dX8_worthIn_83 (Nat.le_of_ble_eq_true rfl) ?_
            refine g_goto (pc := 86) (tgt := 50) dX8_worthIn_86 rfl ?_
            cases hF
            exact ih_19 (l4_15, l6_27) rfl
          · replace hF := am_yes c_26 hF
            refine g_iload (pc := 68) dX8_worthIn_68 rfl ?_
            refine g_aload_n (pc := 70) dX8_worthIn_70 rfl rfl ?_
            refine g_iload_n (pc := 71) dX8_worthIn_71 rfl rfl ?_
            refine g_iload_n (pc := 72) dX8_worthIn_72 rfl rfl ?_
            refine g_iload (pc := 73) dX8_worthIn_73 rfl ?_
            refine g_iload (pc := 75) dX8_worthIn_75 rfl ?_
            obtain ⟨r_29, h_28, hF⟩ := am_b1_el hF
            refine g_cVi (pc := 77) (k := 23) (As := [.int a1, .int a2, .int l5_2, .int l6_16]) (st := [.int l4_15]) ky_X8_worthOfTwo kl_X8_67 (s_X8_worthOfTwo_23 (d := 2) (hPl) (Nat.le_refl _) h_28) rfl rfl rfl (hPl.lt (by decide)) (Nat.le_trans (by decide) hd) (Nat.le_of_ble_eq_true rfl) (Nat.le_refl _) (Nat.le_refl _) dX8_worthIn_77 ?_
            refine g_iadd (pc := 80) dX8_worthIn_80 ?_
            obtain ⟨l4_30, e_l4_30, hF⟩ := am_let_el hF
            refine n_istore (pc := 81) (ls2 := [.ref 23, .int a1, .int a2, .ref 26, .int l4_30, .int l5_2, .int l6_16]) e_l4_30 rfl dX8_worthIn_81 (Nat.le_of_ble_eq_true rfl) ?_
            obtain ⟨l6_31, e_l6_31, hF⟩ := am_let_el hF
            refine n_iinc (pc := 83) (ls2 := [.ref 23, .int a1, .int a2, .ref 26, .int l4_30, .int l5_2, .int l6_31]) e_l6_31 rfl rfl rfl dX8_worthIn_83 (Nat.le_of_ble_eq_true rfl) ?_
            refine g_goto (pc := 86) (tgt := 50) dX8_worthIn_86 rfl ?_
            cases hF
            exact ih_19 (l4_30, l6_31) rfl
        ) _ _ hL_21
      exact hC
    ) _ _ hL_7
  exact hC
def F_X8_worthTo_23_26 (I : am_IT) (a1 : Int32) : Option (Int32) := if am_ix a1 7 = true then (am_b1 (F_X8_worthIn_23_26 I a1 (I 4 a1.toNatClampNeg)) (fun (r_3 : Int32) => some r_3)) else none
set_option maxRecDepth 100000 in
set_option maxHeartbeats 4000000 in
theorem s_X8_worthTo_23_26 {l : Launch} {d N : Nat} {P : am_PT} (hPl : am_Pl 94 N P) (hd : 4 ≤ d) {I : am_IT} {a1 : Int32} {r : Int32} (hF : F_X8_worthTo_23_26 I a1 = some (r)) : am_C l d 0 0 mX8_worthTo [.ref 23, .int a1, .ref 26] N P I (am_qi r N P I) := by
  refine am_body (sc := am_sc0) (n := 0) (by decide +kernel) (by decide) rfl ?_
  change G am_sc0 l d 0 0 mX8_worthTo (am_qi r N P I) 0 [.ref 23, .int a1, .ref 26] [] N P I 0 0
  unfold F_X8_worthTo_23_26 at hF
  refine g_aload_n (pc := 0) dX8_worthTo_0 rfl rfl ?_
  refine g_iload_n (pc := 1) dX8_worthTo_1 rfl rfl ?_
  refine g_aload_n (pc := 2) dX8_worthTo_2 rfl rfl ?_
  refine g_getR (pc := 3) (k := 23) (r := 1) kf_X8_15.r rfl rfl (hPl.get (by decide) rfl) (hPl.lt (by decide)) dX8_worthTo_3 ?_
  refine g_getR (pc := 6) (k := 1) (r := 4) kf_X8_46 rfl rfl (hPl.get (by decide) rfl) (hPl.lt (by decide)) dX8_worthTo_6 ?_
  refine g_iload_n (pc := 9) dX8_worthTo_9 rfl rfl ?_
  obtain ⟨c_1, hF⟩ := am_gd hF
  refine g_iald (pc := 10) (k := 4) rfl (hPl.lt (by decide)) (am_ix_use c_1) dX8_worthTo_10 ?_
  refine g_aload_n (pc := 11) dX8_worthTo_11 rfl rfl ?_
  obtain ⟨r_3, h_2, hF⟩ := am_b1_el hF
  refine g_cVi (pc := 12) (k := 23) (As := [.int a1, .int (I 4 a1.toNatClampNeg), .ref 26]) (st := []) ky_X8_worthIn kl_X8_71 (s_X8_worthIn_23_26 (d := 3) (hPl) (Nat.le_refl _) h_2) rfl rfl rfl (hPl.lt (by decide)) (Nat.le_trans (by decide) hd) (Nat.le_of_ble_eq_true rfl) (Nat.le_refl _) (Nat.le_refl _) dX8_worthTo_12 ?_
  cases hF
  exact g_iret (pc := 15) rfl (Nat.le_refl _) (Nat.le_refl _) dX8_worthTo_15 ⟨rfl, rfl, rfl, rfl⟩
def F_X2_sayAlone_25 (I : am_IT) (a1 : Int32) (a2 : Int32) : Option (am_IT) := if am_cpok (0 : Int32) (0 : Int32) (28 : Int32) 28 28 = true then (am_let (cpy2 I 8 27 (0 : Int32).toNatClampNeg (0 : Int32).toNatClampNeg (28 : Int32).toNatClampNeg) (fun (I_2 : am_IT) => am_b1 (am_it am_fu (am_u2 (fun (l3_3 : Int32) (I_4 : am_IT) => if (4 : Int32) ≤ l3_3 then (some (.inr (I_4))) else (if l3_3 = a2 then (if am_ix ((a1 * (4 : Int32)) + l3_3) 28 = true then (am_let (up2 I_4 27 ((a1 * (4 : Int32)) + l3_3).toNatClampNeg (9 : Int32)) (fun (I_17 : am_IT) => am_let (l3_3 + (1 : Int32)) (fun (l3_18 : Int32) => some (.inl (l3_18, I_17))))) else none) else (if am_ix ((a1 * (4 : Int32)) + l3_3) 28 = true then (am_let (up2 I_4 27 ((a1 * (4 : Int32)) + l3_3).toNatClampNeg (-9 : Int32)) (fun (I_14 : am_IT) => am_let (l3_3 + (1 : Int32)) (fun (l3_15 : Int32) => some (.inl (l3_15, I_14))))) else none)))) ((0 : Int32), I_2)) (fun (I_5 : am_IT) => some I_5))) else none
set_option maxRecDepth 100000 in
set_option maxHeartbeats 4000000 in
theorem s_X2_sayAlone_25 {l : Launch} {d N : Nat} {P : am_PT} (hPl : am_Pl 94 N P) (hd : 2 ≤ d) {I : am_IT} {a1 : Int32} {a2 : Int32} {I2 : am_IT} (hF : F_X2_sayAlone_25 I a1 a2 = some (I2)) : am_C l d 0 0 mX2_sayAlone [.ref 25, .int a1, .int a2] N P I (am_qv N P I2) := by
  refine am_body (sc := am_sc0) (n := 1) (by decide +kernel) (by decide) rfl ?_
  change G am_sc0 l d 0 0 mX2_sayAlone (am_qv N P I2) 0 [.ref 25, .int a1, .int a2, .null] [] N P I 0 0
  unfold F_X2_sayAlone_25 at hF
  refine g_aload_n (pc := 0) dX2_sayAlone_0 rfl rfl ?_
  refine g_getR (pc := 1) (k := 25) (r := 1) kf_X2_31.r rfl rfl (hPl.get (by decide) rfl) (hPl.lt (by decide)) dX2_sayAlone_1 ?_
  refine g_getR (pc := 4) (k := 1) (r := 8) kf_X2_53 rfl rfl (hPl.get (by decide) rfl) (hPl.lt (by decide)) dX2_sayAlone_4 ?_
  refine g_iconst (pc := 7) (v := (0 : Int32)) dX2_sayAlone_7 rfl ?_
  refine g_aload_n (pc := 8) dX2_sayAlone_8 rfl rfl ?_
  refine g_getR (pc := 9) (k := 25) (r := 27) kf_X2_22.r rfl rfl (hPl.get (by decide) rfl) (hPl.lt (by decide)) dX2_sayAlone_9 ?_
  refine g_iconst (pc := 12) (v := (0 : Int32)) dX2_sayAlone_12 rfl ?_
  refine g_aload_n (pc := 13) dX2_sayAlone_13 rfl rfl ?_
  refine g_getR (pc := 14) (k := 25) (r := 27) kf_X2_22.r rfl rfl (hPl.get (by decide) rfl) (hPl.lt (by decide)) dX2_sayAlone_14 ?_
  refine g_alen (pc := 17) (k := 27) (v := 28) rfl (hPl.lt (by decide)) rfl dX2_sayAlone_17 ?_
  obtain ⟨c_1, hF⟩ := am_gd hF
  obtain ⟨I_2, e_I_2, hF⟩ := am_let_el hF
  refine n_acopy (pc := 18) (a := 8) (b := 27) e_I_2 c_1 kl_X2_71 rfl rfl (hPl.lt (by decide)) (hPl.lt (by decide)) (Nat.le_trans (by decide) hd) (Nat.le_of_ble_eq_true rfl) dX2_sayAlone_18 ?_
  refine g_iconst (pc := 21) (v := (0 : Int32)) dX2_sayAlone_21 rfl ?_
  refine n_istore_n (pc := 22) (ls2 := [.ref 25, .int a1, .int a2, .int (0 : Int32)]) rfl rfl dX2_sayAlone_22 rfl (Nat.le_of_ble_eq_true rfl) ?_
  obtain ⟨I_5, hL_9, hF⟩ := am_b1_el hF
  have hX_6 : G am_sc0 l d 0 0 mX2_sayAlone (am_qv N P I2) 56 [.ref 25, .int a1, .int a2, .null] [] N P I_5 0 0 := by
    cases hF
    exact g_vret (pc := 56) rfl (Nat.le_refl _) (Nat.le_refl _) dX2_sayAlone_56 ⟨rfl, rfl, rfl, rfl⟩
  clear hF
  have hC := am_loop (C := fun x => G am_sc0 l d 0 0 mX2_sayAlone (am_qv N P I2) 23 [.ref 25, .int a1, .int a2, .int x.1] [] N P x.2 0 0) (by
    rintro ⟨l3_3, I_4⟩ rr hF ih_7 hE_8
    replace hF := am_u2_ap hF
    change G am_sc0 l d 0 0 mX2_sayAlone (am_qv N P I2) 23 [.ref 25, .int a1, .int a2, .int l3_3] [] N P I_4 0 0
    refine g_iload_n (pc := 23) dX2_sayAlone_23 rfl rfl ?_
    refine g_iconst (pc := 24) (v := (4 : Int32)) dX2_sayAlone_24 rfl ?_
    refine g_icmp_ge (pc := 25) (tgt := 56) dX2_sayAlone_25 rfl (fun c_11 => ?_) (fun c_11 => ?_)
    · replace hF := am_yes c_11 hF
      cases hF
      cases hE_8 _ rfl
      exact g_weak hX_6 ⟨Or.inr rfl, Or.inr rfl, Or.inr rfl, Or.inl rfl, trivial⟩
    · replace hF := am_no c_11 hF
      refine g_aload_n (pc := 28) dX2_sayAlone_28 rfl rfl ?_
      refine g_getR (pc := 29) (k := 25) (r := 27) kf_X2_22.r rfl rfl (hPl.get (by decide) rfl) (hPl.lt (by decide)) dX2_sayAlone_29 ?_
      refine g_iload_n (pc := 32) dX2_sayAlone_32 rfl rfl ?_
      refine g_iconst (pc := 33) (v := (4 : Int32)) dX2_sayAlone_33 rfl ?_
      refine g_imul (pc := 34) dX2_sayAlone_34 ?_
      refine g_iload_n (pc := 35) dX2_sayAlone_35 rfl rfl ?_
      refine g_iadd (pc := 36) dX2_sayAlone_36 ?_
      refine g_iload_n (pc := 37) dX2_sayAlone_37 rfl rfl ?_
      refine g_iload_n (pc := 38) dX2_sayAlone_38 rfl rfl ?_
      refine g_icmp_ne (pc := 39) (tgt := 47) dX2_sayAlone_39 rfl (fun c_12 => ?_) (fun c_12 => ?_)
      · replace hF := am_no c_12 hF
        refine g_bipush (pc := 47) (v := (-9 : Int32)) dX2_sayAlone_47 (by decide) ?_
        obtain ⟨c_13, hF⟩ := am_gd hF
        obtain ⟨I_14, e_I_14, hF⟩ := am_let_el hF
        refine n_iast (pc := 49) (k := 27) e_I_14 rfl (hPl.lt (by decide)) (am_ix_use c_13) dX2_sayAlone_49 ?_
        obtain ⟨l3_15, e_l3_15, hF⟩ := am_let_el hF
        refine n_iinc (pc := 50) (ls2 := [.ref 25, .int a1, .int a2, .int l3_15]) e_l3_15 rfl rfl rfl dX2_sayAlone_50 (Nat.le_of_ble_eq_true rfl) ?_
        refine g_goto (pc := 53) (tgt := 23) dX2_sayAlone_53 rfl ?_
        cases hF
        exact ih_7 (l3_15, I_14) rfl
      · replace hF := am_yes c_12 hF
        refine g_bipush (pc := 42) (v := (9 : Int32)) dX2_sayAlone_42 rfl ?_
        refine g_goto (pc := 44) (tgt := 49) dX2_sayAlone_44 rfl ?_
        obtain ⟨c_16, hF⟩ := am_gd hF
        obtain ⟨I_17, e_I_17, hF⟩ := am_let_el hF
        refine n_iast (pc := 49) (k := 27) e_I_17 rfl (hPl.lt (by decide)) (am_ix_use c_16) dX2_sayAlone_49 ?_
        obtain ⟨l3_18, e_l3_18, hF⟩ := am_let_el hF
        refine n_iinc (pc := 50) (ls2 := [.ref 25, .int a1, .int a2, .int l3_18]) e_l3_18 rfl rfl rfl dX2_sayAlone_50 (Nat.le_of_ble_eq_true rfl) ?_
        refine g_goto (pc := 53) (tgt := 23) dX2_sayAlone_53 rfl ?_
        cases hF
        exact ih_7 (l3_18, I_17) rfl
    ) _ _ hL_9
  exact hC
def F_X9_favourite_1_27 (I : am_IT) (a2 : Int32) : Option (Int32) := am_let (a2 * (4 : Int32)) (fun (l3_1 : Int32) => am_b1 (am_it am_fu (am_u2 (fun (l4_2 : Int32) (l5_3 : Int32) => if (I 1 0) ≤ l5_3 then (some (.inr (l4_2))) else (if am_ix (l3_1 + l5_3) 28 = true then (if am_ix (l3_1 + l4_2) 28 = true then (if (I 27 (l3_1 + l5_3).toNatClampNeg) ≤ (I 27 (l3_1 + l4_2).toNatClampNeg) then (am_let (l5_3 + (1 : Int32)) (fun (l5_14 : Int32) => some (.inl (l4_2, l5_14)))) else (am_let (l5_3 + (1 : Int32)) (fun (l5_15 : Int32) => some (.inl (l5_3, l5_15))))) else none) else none))) ((0 : Int32), (1 : Int32))) (fun (l4_4 : Int32) => some l4_4))
set_option maxRecDepth 100000 in
set_option maxHeartbeats 4000000 in
theorem s_X9_favourite_1_27 {l : Launch} {d N : Nat} {P : am_PT} (hPl : am_Pl 94 N P) (hd : 1 ≤ d) {I : am_IT} {a2 : Int32} {r : Int32} (hF : F_X9_favourite_1_27 I a2 = some (r)) : am_C l d 0 0 mX9_favourite [.ref 1, .ref 27, .int a2] N P I (am_qi r N P I) := by
  refine am_body (sc := am_sc0) (n := 3) (by decide +kernel) (by decide) rfl ?_
  change G am_sc0 l d 0 0 mX9_favourite (am_qi r N P I) 0 [.ref 1, .ref 27, .int a2, .null, .null, .null] [] N P I 0 0
  unfold F_X9_favourite_1_27 at hF
  refine g_iload_n (pc := 0) dX9_favourite_0 rfl rfl ?_
  refine g_iconst (pc := 1) (v := (4 : Int32)) dX9_favourite_1 rfl ?_
  refine g_imul (pc := 2) dX9_favourite_2 ?_
  obtain ⟨l3_1, e_l3_1, hF⟩ := am_let_el hF
  refine n_istore_n (pc := 3) (ls2 := [.ref 1, .ref 27, .int a2, .int l3_1, .null, .null]) e_l3_1 rfl dX9_favourite_3 rfl (Nat.le_of_ble_eq_true rfl) ?_
  refine g_iconst (pc := 4) (v := (0 : Int32)) dX9_favourite_4 rfl ?_
  refine n_istore (pc := 5) (ls2 := [.ref 1, .ref 27, .int a2, .int l3_1, .int (0 : Int32), .null]) rfl rfl dX9_favourite_5 (Nat.le_of_ble_eq_true rfl) ?_
  refine g_iconst (pc := 7) (v := (1 : Int32)) dX9_favourite_7 rfl ?_
  refine n_istore (pc := 8) (ls2 := [.ref 1, .ref 27, .int a2, .int l3_1, .int (0 : Int32), .int (1 : Int32)]) rfl rfl dX9_favourite_8 (Nat.le_of_ble_eq_true rfl) ?_
  obtain ⟨l4_4, hL_8, hF⟩ := am_b1_el hF
  have hX_5 : G am_sc0 l d 0 0 mX9_favourite (am_qi r N P I) 44 [.ref 1, .ref 27, .int a2, .int l3_1, .int l4_4, .null] [] N P I 0 0 := by
    refine g_iload (pc := 44) dX9_favourite_44 rfl ?_
    cases hF
    exact g_iret (pc := 46) rfl (Nat.le_refl _) (Nat.le_refl _) dX9_favourite_46 ⟨rfl, rfl, rfl, rfl⟩
  clear hF
  have hC := am_loop (C := fun x => G am_sc0 l d 0 0 mX9_favourite (am_qi r N P I) 10 [.ref 1, .ref 27, .int a2, .int l3_1, .int x.1, .int x.2] [] N P I 0 0) (by
    rintro ⟨l4_2, l5_3⟩ rr hF ih_6 hE_7
    replace hF := am_u2_ap hF
    change G am_sc0 l d 0 0 mX9_favourite (am_qi r N P I) 10 [.ref 1, .ref 27, .int a2, .int l3_1, .int l4_2, .int l5_3] [] N P I 0 0
    refine g_iload (pc := 10) dX9_favourite_10 rfl ?_
    refine g_aload_n (pc := 12) dX9_favourite_12 rfl rfl ?_
    refine g_getI (pc := 13) (k := 1) kf_X9_9.r rfl rfl (hPl.lt (by decide)) dX9_favourite_13 ?_
    refine g_icmp_ge (pc := 16) (tgt := 44) dX9_favourite_16 rfl (fun c_10 => ?_) (fun c_10 => ?_)
    · replace hF := am_yes c_10 hF
      cases hF
      cases hE_7 _ rfl
      exact g_weak hX_5 ⟨Or.inr rfl, Or.inr rfl, Or.inr rfl, Or.inr rfl, Or.inr rfl, Or.inl rfl, trivial⟩
    · replace hF := am_no c_10 hF
      refine g_aload_n (pc := 19) dX9_favourite_19 rfl rfl ?_
      refine g_iload_n (pc := 20) dX9_favourite_20 rfl rfl ?_
      refine g_iload (pc := 21) dX9_favourite_21 rfl ?_
      refine g_iadd (pc := 23) dX9_favourite_23 ?_
      obtain ⟨c_11, hF⟩ := am_gd hF
      refine g_iald (pc := 24) (k := 27) rfl (hPl.lt (by decide)) (am_ix_use c_11) dX9_favourite_24 ?_
      refine g_aload_n (pc := 25) dX9_favourite_25 rfl rfl ?_
      refine g_iload_n (pc := 26) dX9_favourite_26 rfl rfl ?_
      refine g_iload (pc := 27) dX9_favourite_27 rfl ?_
      refine g_iadd (pc := 29) dX9_favourite_29 ?_
      obtain ⟨c_12, hF⟩ := am_gd hF
      refine g_iald (pc := 30) (k := 27) rfl (hPl.lt (by decide)) (am_ix_use c_12) dX9_favourite_30 ?_
      refine g_icmp_le (pc := 31) (tgt := 38) dX9_favourite_31 rfl (fun c_13 => ?_) (fun c_13 => ?_)
      · replace hF := am_yes c_13 hF
        obtain ⟨l5_14, e_l5_14, hF⟩ := am_let_el hF
        refine n_iinc (pc := 38) (ls2 := [.ref 1, .ref 27, .int a2, .int l3_1, .int l4_2, .int l5_14]) e_l5_14 rfl rfl rfl dX9_favourite_38 (Nat.le_of_ble_eq_true rfl) ?_
        refine g_goto (pc := 41) (tgt := 10) dX9_favourite_41 rfl ?_
        cases hF
        exact ih_6 (l4_2, l5_14) rfl
      · replace hF := am_no c_13 hF
        refine g_iload (pc := 34) dX9_favourite_34 rfl ?_
        refine n_istore (pc := 36) (ls2 := [.ref 1, .ref 27, .int a2, .int l3_1, .int l5_3, .int l5_3]) rfl rfl dX9_favourite_36 (Nat.le_of_ble_eq_true rfl) ?_
        obtain ⟨l5_15, e_l5_15, hF⟩ := am_let_el hF
        refine n_iinc (pc := 38) (ls2 := [.ref 1, .ref 27, .int a2, .int l3_1, .int l5_3, .int l5_15]) e_l5_15 rfl rfl rfl dX9_favourite_38 (Nat.le_of_ble_eq_true rfl) ?_
        refine g_goto (pc := 41) (tgt := 10) dX9_favourite_41 rfl ?_
        cases hF
        exact ih_6 (l5_3, l5_15) rfl
    ) _ _ hL_8
  exact hC
def F_X2_pointsOf_25_27 (I : am_IT) (a2 : Int32) (a3 : Int32) (a4 : Int32) : Option (Int32) := am_b1 (am_it am_fu (am_u2 (fun (l5_1 : Int32) (l6_2 : Int32) => if (I 1 4) ≤ l6_2 then (some (.inr (l5_1))) else (am_b1 (F_X8_yardsOf_23 I l6_2 a2) (fun (r_11 : Int32) => if a3 = (264 : Int32) then (if am_ix ((l6_2 * (4 : Int32)) + a4) 28 = true then (am_let (l5_1 + (r_11 * (I 27 ((l6_2 * (4 : Int32)) + a4).toNatClampNeg))) (fun (l5_25 : Int32) => am_let (l6_2 + (1 : Int32)) (fun (l6_26 : Int32) => some (.inl (l5_25, l6_26))))) else none) else (if r_11 ≤ 0 then (am_let (l6_2 + (1 : Int32)) (fun (l6_14 : Int32) => some (.inl (l5_1, l6_14)))) else (am_b1 (F_X9_favourite_1_27 I l6_2) (fun (r_16 : Int32) => if r_16 = a4 then (if a3 = (262 : Int32) then (am_let (l5_1 + (1 : Int32)) (fun (l5_22 : Int32) => am_let (l6_2 + (1 : Int32)) (fun (l6_23 : Int32) => some (.inl (l5_22, l6_23))))) else (am_let (l5_1 + r_11) (fun (l5_20 : Int32) => am_let (l6_2 + (1 : Int32)) (fun (l6_21 : Int32) => some (.inl (l5_20, l6_21)))))) else (am_let (l6_2 + (1 : Int32)) (fun (l6_18 : Int32) => some (.inl (l5_1, l6_18))))))))))) ((0 : Int32), (0 : Int32))) (fun (l5_3 : Int32) => some l5_3)
set_option maxRecDepth 100000 in
set_option maxHeartbeats 4000000 in
theorem s_X2_pointsOf_25_27 {l : Launch} {d N : Nat} {P : am_PT} (hPl : am_Pl 94 N P) (hd : 2 ≤ d) {I : am_IT} {a2 : Int32} {a3 : Int32} {a4 : Int32} {r : Int32} (hF : F_X2_pointsOf_25_27 I a2 a3 a4 = some (r)) : am_C l d 0 0 mX2_pointsOf [.ref 25, .ref 27, .int a2, .int a3, .int a4] N P I (am_qi r N P I) := by
  refine am_body (sc := am_sc0) (n := 3) (by decide +kernel) (by decide) rfl ?_
  change G am_sc0 l d 0 0 mX2_pointsOf (am_qi r N P I) 0 [.ref 25, .ref 27, .int a2, .int a3, .int a4, .null, .null, .null] [] N P I 0 0
  unfold F_X2_pointsOf_25_27 at hF
  refine g_iconst (pc := 0) (v := (0 : Int32)) dX2_pointsOf_0 rfl ?_
  refine n_istore (pc := 1) (ls2 := [.ref 25, .ref 27, .int a2, .int a3, .int a4, .int (0 : Int32), .null, .null]) rfl rfl dX2_pointsOf_1 (Nat.le_of_ble_eq_true rfl) ?_
  refine g_iconst (pc := 3) (v := (0 : Int32)) dX2_pointsOf_3 rfl ?_
  refine n_istore (pc := 4) (ls2 := [.ref 25, .ref 27, .int a2, .int a3, .int a4, .int (0 : Int32), .int (0 : Int32), .null]) rfl rfl dX2_pointsOf_4 (Nat.le_of_ble_eq_true rfl) ?_
  obtain ⟨l5_3, hL_7, hF⟩ := am_b1_el hF
  have hX_4 : G am_sc0 l d 0 0 mX2_pointsOf (am_qi r N P I) 101 [.ref 25, .ref 27, .int a2, .int a3, .int a4, .int l5_3, .null, .null] [] N P I 0 0 := by
    refine g_iload (pc := 101) dX2_pointsOf_101 rfl ?_
    cases hF
    exact g_iret (pc := 103) rfl (Nat.le_refl _) (Nat.le_refl _) dX2_pointsOf_103 ⟨rfl, rfl, rfl, rfl⟩
  clear hF
  have hC := am_loop (C := fun x => G am_sc0 l d 0 0 mX2_pointsOf (am_qi r N P I) 6 [.ref 25, .ref 27, .int a2, .int a3, .int a4, .int x.1, .int x.2, .null] [] N P I 0 0) (by
    rintro ⟨l5_1, l6_2⟩ rr hF ih_5 hE_6
    replace hF := am_u2_ap hF
    change G am_sc0 l d 0 0 mX2_pointsOf (am_qi r N P I) 6 [.ref 25, .ref 27, .int a2, .int a3, .int a4, .int l5_1, .int l6_2, .null] [] N P I 0 0
    refine g_iload (pc := 6) dX2_pointsOf_6 rfl ?_
    refine g_aload_n (pc := 8) dX2_pointsOf_8 rfl rfl ?_
    refine g_getR (pc := 9) (k := 25) (r := 1) kf_X2_31.r rfl rfl (hPl.get (by decide) rfl) (hPl.lt (by decide)) dX2_pointsOf_9 ?_
    refine g_getI (pc := 12) (k := 1) kf_X2_102.r rfl rfl (hPl.lt (by decide)) dX2_pointsOf_12 ?_
    refine g_icmp_ge (pc := 15) (tgt := 101) dX2_pointsOf_15 rfl (fun c_9 => ?_) (fun c_9 => ?_)
    · replace hF := am_yes c_9 hF
      cases hF
      cases hE_6 _ rfl
      exact g_weak hX_4 ⟨Or.inr rfl, Or.inr rfl, Or.inr rfl, Or.inr rfl, Or.inr rfl, Or.inr rfl, Or.inl rfl, Or.inl rfl, trivial⟩
    · replace hF := am_no c_9 hF
      refine g_aload_n (pc := 18) dX2_pointsOf_18 rfl rfl ?_
      refine g_getR (pc := 19) (k := 25) (r := 23) kf_X2_35.r rfl rfl (hPl.get (by decide) rfl) (hPl.lt (by decide)) dX2_pointsOf_19 ?_
      refine g_iload (pc := 22) dX2_pointsOf_22 rfl ?_
      refine g_iload_n (pc := 24) dX2_pointsOf_24 rfl rfl ?_
      obtain ⟨r_11, h_10, hF⟩ := am_b1_el hF
      refine g_cVi (pc := 25) (k := 23) (As := [.int l6_2, .int a2]) (st := []) ky_X8_yardsOf kl_X2_105 (s_X8_yardsOf_23 (d := 1) (hPl) (Nat.le_refl _) h_10) rfl rfl rfl (hPl.lt (by decide)) (Nat.le_trans (by decide) hd) (Nat.le_of_ble_eq_true rfl) (Nat.le_refl _) (Nat.le_refl _) dX2_pointsOf_25 ?_
      refine n_istore (pc := 28) (ls2 := [.ref 25, .ref 27, .int a2, .int a3, .int a4, .int l5_1, .int l6_2, .int r_11]) rfl rfl dX2_pointsOf_28 (Nat.le_of_ble_eq_true rfl) ?_
      refine g_iload_n (pc := 30) dX2_pointsOf_30 rfl rfl ?_
      refine g_sipush (pc := 31) (v := (264 : Int32)) dX2_pointsOf_31 rfl ?_
      refine g_icmp_ne (pc := 34) (tgt := 57) dX2_pointsOf_34 rfl (fun c_12 => ?_) (fun c_12 => ?_)
      · replace hF := am_no c_12 hF
        refine g_iload (pc := 57) dX2_pointsOf_57 rfl ?_
        refine g_if_le (pc := 59) (tgt := 95) dX2_pointsOf_59 rfl (fun c_13 => ?_) (fun c_13 => ?_)
        · replace hF := am_yes c_13 hF
          obtain ⟨l6_14, e_l6_14, hF⟩ := am_let_el hF
          refine n_iinc (pc := 95) (ls2 := [.ref 25, .ref 27, .int a2, .int a3, .int a4, .int l5_1, .int l6_14, .int r_11]) e_l6_14 rfl rfl rfl dX2_pointsOf_95 (Nat.le_of_ble_eq_true rfl) ?_
          refine g_goto (pc := 98) (tgt := 6) dX2_pointsOf_98 rfl ?_
          cases hF
          exact g_weak (ih_5 (l5_1, l6_14) rfl) ⟨Or.inr rfl, Or.inr rfl, Or.inr rfl, Or.inr rfl, Or.inr rfl, Or.inr rfl, Or.inr rfl, Or.inl rfl, trivial⟩
        · replace hF := am_no c_13 hF
          refine g_aload_n (pc := 62) dX2_pointsOf_62 rfl rfl ?_
          refine g_getR (pc := 63) (k := 25) (r := 1) kf_X2_31.r rfl rfl (hPl.get (by decide) rfl) (hPl.lt (by decide)) dX2_pointsOf_63 ?_
          refine g_aload_n (pc := 66) dX2_pointsOf_66 rfl rfl ?_
          refine g_iload (pc := 67) dX2_pointsOf_67 rfl ?_
          obtain ⟨r_16, h_15, hF⟩ := am_b1_el hF
          refine g_cVi (pc := 69) (k := 1) (As := [.ref 27, .int l6_2]) (st := []) ky_X9_favourite kl_X2_92 (s_X9_favourite_1_27 (d := 1) (hPl) (Nat.le_refl _) h_15) rfl rfl rfl (hPl.lt (by decide)) (Nat.le_trans (by decide) hd) (Nat.le_of_ble_eq_true rfl) (Nat.le_refl _) (Nat.le_refl _) dX2_pointsOf_69 ?_
          refine g_iload (pc := 72) dX2_pointsOf_72 rfl ?_
          refine g_icmp_ne (pc := 74) (tgt := 95) dX2_pointsOf_74 rfl (fun c_17 => ?_) (fun c_17 => ?_)
          · replace hF := am_no c_17 hF
            obtain ⟨l6_18, e_l6_18, hF⟩ := am_let_el hF
            refine n_iinc (pc := 95) (ls2 := [.ref 25, .ref 27, .int a2, .int a3, .int a4, .int l5_1, .int l6_18, .int r_11]) e_l6_18 rfl rfl rfl dX2_pointsOf_95 (Nat.le_of_ble_eq_true rfl) ?_
            refine g_goto (pc := 98) (tgt := 6) dX2_pointsOf_98 rfl ?_
            cases hF
            exact g_weak (ih_5 (l5_1, l6_18) rfl) ⟨Or.inr rfl, Or.inr rfl, Or.inr rfl, Or.inr rfl, Or.inr rfl, Or.inr rfl, Or.inr rfl, Or.inl rfl, trivial⟩
          · replace hF := am_yes c_17 hF
            refine g_iload (pc := 77) dX2_pointsOf_77 rfl ?_
            refine g_iload_n (pc := 79) dX2_pointsOf_79 rfl rfl ?_
            refine g_sipush (pc := 80) (v := (262 : Int32)) dX2_pointsOf_80 rfl ?_
            refine g_icmp_ne (pc := 83) (tgt := 90) dX2_pointsOf_83 rfl (fun c_19 => ?_) (fun c_19 => ?_)
            · replace hF := am_no c_19 hF
              refine g_iload (pc := 90) dX2_pointsOf_90 rfl ?_
              refine g_iadd (pc := 92) dX2_pointsOf_92 ?_
              obtain ⟨l5_20, e_l5_20, hF⟩ := am_let_el hF
              refine n_istore (pc := 93) (ls2 := [.ref 25, .ref 27, .int a2, .int a3, .int a4, .int l5_20, .int l6_2, .int r_11]) e_l5_20 rfl dX2_pointsOf_93 (Nat.le_of_ble_eq_true rfl) ?_
              obtain ⟨l6_21, e_l6_21, hF⟩ := am_let_el hF
              refine n_iinc (pc := 95) (ls2 := [.ref 25, .ref 27, .int a2, .int a3, .int a4, .int l5_20, .int l6_21, .int r_11]) e_l6_21 rfl rfl rfl dX2_pointsOf_95 (Nat.le_of_ble_eq_true rfl) ?_
              refine g_goto (pc := 98) (tgt := 6) dX2_pointsOf_98 rfl ?_
              cases hF
              exact g_weak (ih_5 (l5_20, l6_21) rfl) ⟨Or.inr rfl, Or.inr rfl, Or.inr rfl, Or.inr rfl, Or.inr rfl, Or.inr rfl, Or.inr rfl, Or.inl rfl, trivial⟩
            · replace hF := am_yes c_19 hF
              refine g_iconst (pc := 86) (v := (1 : Int32)) dX2_pointsOf_86 rfl ?_
              refine g_goto (pc := 87) (tgt := 92) dX2_pointsOf_87 rfl ?_
              refine g_iadd (pc := 92) dX2_pointsOf_92 ?_
              obtain ⟨l5_22, e_l5_22, hF⟩ := am_let_el hF
              refine n_istore (pc := 93) (ls2 := [.ref 25, .ref 27, .int a2, .int a3, .int a4, .int l5_22, .int l6_2, .int r_11]) e_l5_22 rfl dX2_pointsOf_93 (Nat.le_of_ble_eq_true rfl) ?_
              obtain ⟨l6_23, e_l6_23, hF⟩ := am_let_el hF
              refine n_iinc (pc := 95) (ls2 := [.ref 25, .ref 27, .int a2, .int a3, .int a4, .int l5_22, .int l6_23, .int r_11]) e_l6_23 rfl rfl rfl dX2_pointsOf_95 (Nat.le_of_ble_eq_true rfl) ?_
              refine g_goto (pc := 98) (tgt := 6) dX2_pointsOf_98 rfl ?_
              cases hF
              exact g_weak (ih_5 (l5_22, l6_23) rfl) ⟨Or.inr rfl, Or.inr rfl, Or.inr rfl, Or.inr rfl, Or.inr rfl, Or.inr rfl, Or.inr rfl, Or.inl rfl, trivial⟩
      · replace hF := am_yes c_12 hF
        refine g_iload (pc := 37) dX2_pointsOf_37 rfl ?_
        refine g_iload (pc := 39) dX2_pointsOf_39 rfl ?_
        refine g_aload_n (pc := 41) dX2_pointsOf_41 rfl rfl ?_
        refine g_iload (pc := 42) dX2_pointsOf_42 rfl ?_
        refine g_iconst (pc := 44) (v := (4 : Int32)) dX2_pointsOf_44 rfl ?_
        refine g_imul (pc := 45) dX2_pointsOf_45 ?_
        refine g_iload (pc := 46) dX2_pointsOf_46 rfl ?_
        refine g_iadd (pc := 48) dX2_pointsOf_48 ?_
        obtain ⟨c_24, hF⟩ := am_gd hF
        refine g_iald (pc := 49) (k := 27) rfl (hPl.lt (by decide)) (am_ix_use c_24) dX2_pointsOf_49 ?_
        refine g_imul (pc := 50) dX2_pointsOf_50 ?_
        refine g_iadd (pc := 51) dX2_pointsOf_51 ?_
        obtain ⟨l5_25, e_l5_25, hF⟩ := am_let_el hF
        refine n_istore (pc := 52) (ls2 := [.ref 25, .ref 27, .int a2, .int a3, .int a4, .int l5_25, .int l6_2, .int r_11]) e_l5_25 rfl dX2_pointsOf_52 (Nat.le_of_ble_eq_true rfl) ?_
        refine g_goto (pc := 54) (tgt := 95) dX2_pointsOf_54 rfl ?_
        obtain ⟨l6_26, e_l6_26, hF⟩ := am_let_el hF
        refine n_iinc (pc := 95) (ls2 := [.ref 25, .ref 27, .int a2, .int a3, .int a4, .int l5_25, .int l6_26, .int r_11]) e_l6_26 rfl rfl rfl dX2_pointsOf_95 (Nat.le_of_ble_eq_true rfl) ?_
        refine g_goto (pc := 98) (tgt := 6) dX2_pointsOf_98 rfl ?_
        cases hF
        exact g_weak (ih_5 (l5_25, l6_26) rfl) ⟨Or.inr rfl, Or.inr rfl, Or.inr rfl, Or.inr rfl, Or.inr rfl, Or.inr rfl, Or.inr rfl, Or.inl rfl, trivial⟩
    ) _ _ hL_7
  exact hC
def F_X2_colourOfMost_25_27 (I : am_IT) (a2 : Int32) (a3 : Int32) : Option (Int32) := am_b1 (F_X2_pointsOf_25_27 I a2 a3 (0 : Int32)) (fun (r_2 : Int32) => am_b1 (am_it am_fu (am_u3 (fun (l4_3 : Int32) (l5_4 : Int32) (l6_5 : Int32) => if (I 1 0) ≤ l6_5 then (some (.inr (l4_3))) else (am_b1 (F_X2_pointsOf_25_27 I a2 a3 l6_5) (fun (r_14 : Int32) => if r_14 ≤ l5_4 then (am_let (l6_5 + (1 : Int32)) (fun (l6_16 : Int32) => some (.inl (l4_3, l5_4, l6_16)))) else (am_let (l6_5 + (1 : Int32)) (fun (l6_17 : Int32) => some (.inl (l6_5, r_14, l6_17)))))))) ((0 : Int32), r_2, (1 : Int32))) (fun (l4_6 : Int32) => some l4_6))
set_option maxRecDepth 100000 in
set_option maxHeartbeats 4000000 in
theorem s_X2_colourOfMost_25_27 {l : Launch} {d N : Nat} {P : am_PT} (hPl : am_Pl 94 N P) (hd : 3 ≤ d) {I : am_IT} {a2 : Int32} {a3 : Int32} {r : Int32} (hF : F_X2_colourOfMost_25_27 I a2 a3 = some (r)) : am_C l d 0 0 mX2_colourOfMost [.ref 25, .ref 27, .int a2, .int a3] N P I (am_qi r N P I) := by
  refine am_body (sc := am_sc0) (n := 4) (by decide +kernel) (by decide) rfl ?_
  change G am_sc0 l d 0 0 mX2_colourOfMost (am_qi r N P I) 0 [.ref 25, .ref 27, .int a2, .int a3, .null, .null, .null, .null] [] N P I 0 0
  unfold F_X2_colourOfMost_25_27 at hF
  refine g_iconst (pc := 0) (v := (0 : Int32)) dX2_colourOfMost_0 rfl ?_
  refine n_istore (pc := 1) (ls2 := [.ref 25, .ref 27, .int a2, .int a3, .int (0 : Int32), .null, .null, .null]) rfl rfl dX2_colourOfMost_1 (Nat.le_of_ble_eq_true rfl) ?_
  refine g_aload_n (pc := 3) dX2_colourOfMost_3 rfl rfl ?_
  refine g_aload_n (pc := 4) dX2_colourOfMost_4 rfl rfl ?_
  refine g_iload_n (pc := 5) dX2_colourOfMost_5 rfl rfl ?_
  refine g_iload_n (pc := 6) dX2_colourOfMost_6 rfl rfl ?_
  refine g_iconst (pc := 7) (v := (0 : Int32)) dX2_colourOfMost_7 rfl ?_
  obtain ⟨r_2, h_1, hF⟩ := am_b1_el hF
  refine g_cVi (pc := 8) (k := 25) (As := [.ref 27, .int a2, .int a3, .int (0 : Int32)]) (st := []) ky_X2_pointsOf kl_X2_152 (s_X2_pointsOf_25_27 (d := 2) (hPl) (Nat.le_refl _) h_1) rfl rfl rfl (hPl.lt (by decide)) (Nat.le_trans (by decide) hd) (Nat.le_of_ble_eq_true rfl) (Nat.le_refl _) (Nat.le_refl _) dX2_colourOfMost_8 ?_
  refine n_istore (pc := 11) (ls2 := [.ref 25, .ref 27, .int a2, .int a3, .int (0 : Int32), .int r_2, .null, .null]) rfl rfl dX2_colourOfMost_11 (Nat.le_of_ble_eq_true rfl) ?_
  refine g_iconst (pc := 13) (v := (1 : Int32)) dX2_colourOfMost_13 rfl ?_
  refine n_istore (pc := 14) (ls2 := [.ref 25, .ref 27, .int a2, .int a3, .int (0 : Int32), .int r_2, .int (1 : Int32), .null]) rfl rfl dX2_colourOfMost_14 (Nat.le_of_ble_eq_true rfl) ?_
  obtain ⟨l4_6, hL_10, hF⟩ := am_b1_el hF
  have hX_7 : G am_sc0 l d 0 0 mX2_colourOfMost (am_qi r N P I) 60 [.ref 25, .ref 27, .int a2, .int a3, .int l4_6, .null, .null, .null] [] N P I 0 0 := by
    refine g_iload (pc := 60) dX2_colourOfMost_60 rfl ?_
    cases hF
    exact g_iret (pc := 62) rfl (Nat.le_refl _) (Nat.le_refl _) dX2_colourOfMost_62 ⟨rfl, rfl, rfl, rfl⟩
  clear hF
  have hC := am_loop (C := fun x => G am_sc0 l d 0 0 mX2_colourOfMost (am_qi r N P I) 16 [.ref 25, .ref 27, .int a2, .int a3, .int x.1, .int x.2.1, .int x.2.2, .null] [] N P I 0 0) (by
    rintro ⟨l4_3, l5_4, l6_5⟩ rr hF ih_8 hE_9
    replace hF := am_u3_ap hF
    change G am_sc0 l d 0 0 mX2_colourOfMost (am_qi r N P I) 16 [.ref 25, .ref 27, .int a2, .int a3, .int l4_3, .int l5_4, .int l6_5, .null] [] N P I 0 0
    refine g_iload (pc := 16) dX2_colourOfMost_16 rfl ?_
    refine g_aload_n (pc := 18) dX2_colourOfMost_18 rfl rfl ?_
    refine g_getR (pc := 19) (k := 25) (r := 1) kf_X2_31.r rfl rfl (hPl.get (by decide) rfl) (hPl.lt (by decide)) dX2_colourOfMost_19 ?_
    refine g_getI (pc := 22) (k := 1) kf_X2_64.r rfl rfl (hPl.lt (by decide)) dX2_colourOfMost_22 ?_
    refine g_icmp_ge (pc := 25) (tgt := 60) dX2_colourOfMost_25 rfl (fun c_12 => ?_) (fun c_12 => ?_)
    · replace hF := am_yes c_12 hF
      cases hF
      cases hE_9 _ rfl
      exact g_weak hX_7 ⟨Or.inr rfl, Or.inr rfl, Or.inr rfl, Or.inr rfl, Or.inr rfl, Or.inl rfl, Or.inl rfl, Or.inl rfl, trivial⟩
    · replace hF := am_no c_12 hF
      refine g_aload_n (pc := 28) dX2_colourOfMost_28 rfl rfl ?_
      refine g_aload_n (pc := 29) dX2_colourOfMost_29 rfl rfl ?_
      refine g_iload_n (pc := 30) dX2_colourOfMost_30 rfl rfl ?_
      refine g_iload_n (pc := 31) dX2_colourOfMost_31 rfl rfl ?_
      refine g_iload (pc := 32) dX2_colourOfMost_32 rfl ?_
      obtain ⟨r_14, h_13, hF⟩ := am_b1_el hF
      refine g_cVi (pc := 34) (k := 25) (As := [.ref 27, .int a2, .int a3, .int l6_5]) (st := []) ky_X2_pointsOf kl_X2_152 (s_X2_pointsOf_25_27 (d := 2) (hPl) (Nat.le_refl _) h_13) rfl rfl rfl (hPl.lt (by decide)) (Nat.le_trans (by decide) hd) (Nat.le_of_ble_eq_true rfl) (Nat.le_refl _) (Nat.le_refl _) dX2_colourOfMost_34 ?_
      refine n_istore (pc := 37) (ls2 := [.ref 25, .ref 27, .int a2, .int a3, .int l4_3, .int l5_4, .int l6_5, .int r_14]) rfl rfl dX2_colourOfMost_37 (Nat.le_of_ble_eq_true rfl) ?_
      refine g_iload (pc := 39) dX2_colourOfMost_39 rfl ?_
      refine g_iload (pc := 41) dX2_colourOfMost_41 rfl ?_
      refine g_icmp_le (pc := 43) (tgt := 54) dX2_colourOfMost_43 rfl (fun c_15 => ?_) (fun c_15 => ?_)
      · replace hF := am_yes c_15 hF
        obtain ⟨l6_16, e_l6_16, hF⟩ := am_let_el hF
        refine n_iinc (pc := 54) (ls2 := [.ref 25, .ref 27, .int a2, .int a3, .int l4_3, .int l5_4, .int l6_16, .int r_14]) e_l6_16 rfl rfl rfl dX2_colourOfMost_54 (Nat.le_of_ble_eq_true rfl) ?_
        refine g_goto (pc := 57) (tgt := 16) dX2_colourOfMost_57 rfl ?_
        cases hF
        exact g_weak (ih_8 (l4_3, l5_4, l6_16) rfl) ⟨Or.inr rfl, Or.inr rfl, Or.inr rfl, Or.inr rfl, Or.inr rfl, Or.inr rfl, Or.inr rfl, Or.inl rfl, trivial⟩
      · replace hF := am_no c_15 hF
        refine g_iload (pc := 46) dX2_colourOfMost_46 rfl ?_
        refine n_istore (pc := 48) (ls2 := [.ref 25, .ref 27, .int a2, .int a3, .int l4_3, .int r_14, .int l6_5, .int r_14]) rfl rfl dX2_colourOfMost_48 (Nat.le_of_ble_eq_true rfl) ?_
        refine g_iload (pc := 50) dX2_colourOfMost_50 rfl ?_
        refine n_istore (pc := 52) (ls2 := [.ref 25, .ref 27, .int a2, .int a3, .int l6_5, .int r_14, .int l6_5, .int r_14]) rfl rfl dX2_colourOfMost_52 (Nat.le_of_ble_eq_true rfl) ?_
        obtain ⟨l6_17, e_l6_17, hF⟩ := am_let_el hF
        refine n_iinc (pc := 54) (ls2 := [.ref 25, .ref 27, .int a2, .int a3, .int l6_5, .int r_14, .int l6_17, .int r_14]) e_l6_17 rfl rfl rfl dX2_colourOfMost_54 (Nat.le_of_ble_eq_true rfl) ?_
        refine g_goto (pc := 57) (tgt := 16) dX2_colourOfMost_57 rfl ?_
        cases hF
        exact g_weak (ih_8 (l6_5, r_14, l6_17) rfl) ⟨Or.inr rfl, Or.inr rfl, Or.inr rfl, Or.inr rfl, Or.inr rfl, Or.inr rfl, Or.inr rfl, Or.inl rfl, trivial⟩
    ) _ _ hL_10
  exact hC
