def F_X12_goesBy_55 (I : am_IT) : Option (am_IT) := am_let (up2 I 55 13 ((I 55 13) + (1 : Int32))) (fun (I_1 : am_IT) => am_b1 (F_X12_judges_55 I_1 (7 : Int32)) (fun (I_3 : am_IT) => am_b2 (F_X12_becomes_55 I_3 (7 : Int32)) (fun (r_5 : Int32) (I_6 : am_IT) => if (I_6 55 5) = 0 then (some I_6) else (if (I_6 55 4) = 0 then (some I_6) else (am_b2 (F_X12_draw_55 I_6 (I_6 55 5)) (fun (r_10 : Int32) (I_11 : am_IT) => am_b2 (F_X12_draw_55 I_11 (I_11 55 4)) (fun (r_13 : Int32) (I_14 : am_IT) => if am_ix r_10 7 = true then (if am_ix (((7 : Int32) * (I_14 57 r_10.toNatClampNeg)) + r_13) 56 = true then (if (I_14 83 (((7 : Int32) * (I_14 57 r_10.toNatClampNeg)) + r_13).toNatClampNeg) = 0 then (some I_14) else (am_b1 (am_it am_fu (am_u2 (fun (l3_18 : Int32) (l4_19 : Int32) => if (I_14 55 2) ≤ l4_19 then (some (.inr (l3_18))) else (if am_ix (((4 : Int32) * r_10) + l4_19) 28 = true then (if am_ix (((4 : Int32) * r_10) + l3_18) 28 = true then (if (I_14 63 (((4 : Int32) * r_10) + l4_19).toNatClampNeg) ≤ (I_14 63 (((4 : Int32) * r_10) + l3_18).toNatClampNeg) then (am_let (l4_19 + (1 : Int32)) (fun (l4_30 : Int32) => some (.inl (l3_18, l4_30)))) else (am_let (l4_19 + (1 : Int32)) (fun (l4_31 : Int32) => some (.inl (l4_19, l4_31))))) else none) else none))) ((0 : Int32), (1 : Int32))) (fun (l3_20 : Int32) => if am_ix ((0 : Int32) + r_13) 35 = true then (am_let (up2 I_14 72 ((0 : Int32) + r_13).toNatClampNeg l3_20) (fun (I_33 : am_IT) => some I_33)) else none))) else none) else none)))))))
set_option maxRecDepth 100000 in
set_option maxHeartbeats 4000000 in
theorem s_X12_goesBy_55 {l : Launch} {d N : Nat} {P : am_PT} (hPl : am_Pl 94 N P) (hd : 6 ≤ d) {I : am_IT} {I2 : am_IT} (hF : F_X12_goesBy_55 I = some (I2)) : am_C l d 0 0 mX12_goesBy [.ref 55] N P I (am_qv N P I2) := by
  refine am_body (sc := am_sc0) (n := 4) (by decide +kernel) (by decide) rfl ?_
  change G am_sc0 l d 0 0 mX12_goesBy (am_qv N P I2) 0 [.ref 55, .null, .null, .null, .null] [] N P I 0 0
  unfold F_X12_goesBy_55 at hF
  refine g_aload_n (pc := 0) dX12_goesBy_0 rfl rfl ?_
  refine g_aload_n (pc := 1) dX12_goesBy_1 rfl rfl ?_
  refine g_getI (pc := 2) (k := 55) kf_X12_155.r rfl rfl (hPl.lt (by decide)) dX12_goesBy_2 ?_
  refine g_iconst (pc := 5) (v := (1 : Int32)) dX12_goesBy_5 rfl ?_
  refine g_iadd (pc := 6) dX12_goesBy_6 ?_
  obtain ⟨I_1, e_I_1, hF⟩ := am_let_el hF
  refine n_putI (pc := 7) (k := 55) e_I_1 kf_X12_155 rfl rfl (hPl.lt (by decide)) dX12_goesBy_7 ?_
  refine g_aload_n (pc := 10) dX12_goesBy_10 rfl rfl ?_
  refine g_bipush (pc := 11) (v := (7 : Int32)) dX12_goesBy_11 rfl ?_
  obtain ⟨I_3, h_2, hF⟩ := am_b1_el hF
  refine g_cVv (pc := 13) (k := 55) (As := [.int (7 : Int32)]) (st := []) ky_X12_judges kl_X12_318 (s_X12_judges_55 (d := 5) (hPl) (Nat.le_refl _) h_2) rfl rfl rfl (hPl.lt (by decide)) (Nat.le_trans (by decide) hd) (Nat.le_of_ble_eq_true rfl) (Nat.le_refl _) (Nat.le_refl _) dX12_goesBy_13 ?_
  refine g_aload_n (pc := 16) dX12_goesBy_16 rfl rfl ?_
  refine g_bipush (pc := 17) (v := (7 : Int32)) dX12_goesBy_17 rfl ?_
  obtain ⟨r_5, I_6, h_4, hF⟩ := am_b2_el hF
  refine g_cVi (pc := 19) (k := 55) (As := [.int (7 : Int32)]) (st := []) ky_X12_becomes kl_X12_340 (s_X12_becomes_55 (d := 1) (hPl) (Nat.le_refl _) h_4) rfl rfl rfl (hPl.lt (by decide)) (Nat.le_trans (by decide) hd) (Nat.le_of_ble_eq_true rfl) (Nat.le_refl _) (Nat.le_refl _) dX12_goesBy_19 ?_
  refine g_pop (pc := 22) dX12_goesBy_22 ?_
  refine g_aload_n (pc := 23) dX12_goesBy_23 rfl rfl ?_
  refine g_getI (pc := 24) (k := 55) kf_X12_145.r rfl rfl (hPl.lt (by decide)) dX12_goesBy_24 ?_
  refine g_if_eq (pc := 27) (tgt := 37) dX12_goesBy_27 rfl (fun c_7 => ?_) (fun c_7 => ?_)
  · replace hF := am_yes c_7 hF
    cases hF
    exact g_vret (pc := 37) rfl (Nat.le_refl _) (Nat.le_refl _) dX12_goesBy_37 ⟨rfl, rfl, rfl, rfl⟩
  · replace hF := am_no c_7 hF
    refine g_aload_n (pc := 30) dX12_goesBy_30 rfl rfl ?_
    refine g_getI (pc := 31) (k := 55) kf_X12_142.r rfl rfl (hPl.lt (by decide)) dX12_goesBy_31 ?_
    refine g_if_ne (pc := 34) (tgt := 38) dX12_goesBy_34 rfl (fun c_8 => ?_) (fun c_8 => ?_)
    · replace hF := am_no c_8 hF
      refine g_aload_n (pc := 38) dX12_goesBy_38 rfl rfl ?_
      refine g_aload_n (pc := 39) dX12_goesBy_39 rfl rfl ?_
      refine g_getI (pc := 40) (k := 55) kf_X12_145.r rfl rfl (hPl.lt (by decide)) dX12_goesBy_40 ?_
      obtain ⟨r_10, I_11, h_9, hF⟩ := am_b2_el hF
      refine g_cVi (pc := 43) (k := 55) (As := [.int (I_6 55 5)]) (st := []) ky_X12_draw kl_X12_375 (s_X12_draw_55 (d := 1) (hPl) (Nat.le_refl _) h_9) rfl rfl rfl (hPl.lt (by decide)) (Nat.le_trans (by decide) hd) (Nat.le_of_ble_eq_true rfl) (Nat.le_refl _) (Nat.le_refl _) dX12_goesBy_43 ?_
      refine n_istore_n (pc := 46) (ls2 := [.ref 55, .int r_10, .null, .null, .null]) rfl rfl dX12_goesBy_46 rfl (Nat.le_of_ble_eq_true rfl) ?_
      refine g_aload_n (pc := 47) dX12_goesBy_47 rfl rfl ?_
      refine g_aload_n (pc := 48) dX12_goesBy_48 rfl rfl ?_
      refine g_getI (pc := 49) (k := 55) kf_X12_142.r rfl rfl (hPl.lt (by decide)) dX12_goesBy_49 ?_
      obtain ⟨r_13, I_14, h_12, hF⟩ := am_b2_el hF
      refine g_cVi (pc := 52) (k := 55) (As := [.int (I_11 55 4)]) (st := []) ky_X12_draw kl_X12_375 (s_X12_draw_55 (d := 1) (hPl) (Nat.le_refl _) h_12) rfl rfl rfl (hPl.lt (by decide)) (Nat.le_trans (by decide) hd) (Nat.le_of_ble_eq_true rfl) (Nat.le_refl _) (Nat.le_refl _) dX12_goesBy_52 ?_
      refine n_istore_n (pc := 55) (ls2 := [.ref 55, .int r_10, .int r_13, .null, .null]) rfl rfl dX12_goesBy_55 rfl (Nat.le_of_ble_eq_true rfl) ?_
      refine g_aload_n (pc := 56) dX12_goesBy_56 rfl rfl ?_
      refine g_getR (pc := 57) (k := 55) (r := 83) kf_X12_98.r rfl rfl (hPl.get (by decide) rfl) (hPl.lt (by decide)) dX12_goesBy_57 ?_
      refine g_bipush (pc := 60) (v := (7 : Int32)) dX12_goesBy_60 rfl ?_
      refine g_aload_n (pc := 62) dX12_goesBy_62 rfl rfl ?_
      refine g_getR (pc := 63) (k := 55) (r := 57) kf_X12_17.r rfl rfl (hPl.get (by decide) rfl) (hPl.lt (by decide)) dX12_goesBy_63 ?_
      refine g_iload_n (pc := 66) dX12_goesBy_66 rfl rfl ?_
      obtain ⟨c_15, hF⟩ := am_gd hF
      refine g_iald (pc := 67) (k := 57) rfl (hPl.lt (by decide)) (am_ix_use c_15) dX12_goesBy_67 ?_
      refine g_imul (pc := 68) dX12_goesBy_68 ?_
      refine g_iload_n (pc := 69) dX12_goesBy_69 rfl rfl ?_
      refine g_iadd (pc := 70) dX12_goesBy_70 ?_
      obtain ⟨c_16, hF⟩ := am_gd hF
      refine g_iald (pc := 71) (k := 83) rfl (hPl.lt (by decide)) (am_ix_use c_16) dX12_goesBy_71 ?_
      refine g_if_ne (pc := 72) (tgt := 76) dX12_goesBy_72 rfl (fun c_17 => ?_) (fun c_17 => ?_)
      · replace hF := am_no c_17 hF
        refine g_iconst (pc := 76) (v := (0 : Int32)) dX12_goesBy_76 rfl ?_
        refine n_istore_n (pc := 77) (ls2 := [.ref 55, .int r_10, .int r_13, .int (0 : Int32), .null]) rfl rfl dX12_goesBy_77 rfl (Nat.le_of_ble_eq_true rfl) ?_
        refine g_iconst (pc := 78) (v := (1 : Int32)) dX12_goesBy_78 rfl ?_
        refine n_istore (pc := 79) (ls2 := [.ref 55, .int r_10, .int r_13, .int (0 : Int32), .int (1 : Int32)]) rfl rfl dX12_goesBy_79 (Nat.le_of_ble_eq_true rfl) ?_
        obtain ⟨l3_20, hL_24, hF⟩ := am_b1_el hF
        have hX_21 : G am_sc0 l d 0 0 mX12_goesBy (am_qv N P I2) 123 [.ref 55, .int r_10, .int r_13, .int l3_20, .null] [] N P I_14 0 0 := by
          refine g_aload_n (pc := 123) dX12_goesBy_123 rfl rfl ?_
          refine g_getR (pc := 124) (k := 55) (r := 72) kf_X12_62.r rfl rfl (hPl.get (by decide) rfl) (hPl.lt (by decide)) dX12_goesBy_124 ?_
          refine g_iconst (pc := 127) (v := (0 : Int32)) dX12_goesBy_127 rfl ?_
          refine g_iload_n (pc := 128) dX12_goesBy_128 rfl rfl ?_
          refine g_iadd (pc := 129) dX12_goesBy_129 ?_
          refine g_iload_n (pc := 130) dX12_goesBy_130 rfl rfl ?_
          obtain ⟨c_32, hF⟩ := am_gd hF
          obtain ⟨I_33, e_I_33, hF⟩ := am_let_el hF
          refine n_iast (pc := 131) (k := 72) e_I_33 rfl (hPl.lt (by decide)) (am_ix_use c_32) dX12_goesBy_131 ?_
          cases hF
          exact g_vret (pc := 132) rfl (Nat.le_refl _) (Nat.le_refl _) dX12_goesBy_132 ⟨rfl, rfl, rfl, rfl⟩
        clear hF
        have hC := am_loop (C := fun x => G am_sc0 l d 0 0 mX12_goesBy (am_qv N P I2) 81 [.ref 55, .int r_10, .int r_13, .int x.1, .int x.2] [] N P I_14 0 0) (by
          rintro ⟨l3_18, l4_19⟩ rr hF ih_22 hE_23
          replace hF := am_u2_ap hF
          change G am_sc0 l d 0 0 mX12_goesBy (am_qv N P I2) 81 [.ref 55, .int r_10, .int r_13, .int l3_18, .int l4_19] [] N P I_14 0 0
          refine g_iload (pc := 81) dX12_goesBy_81 rfl ?_
          refine g_aload_n (pc := 83) dX12_goesBy_83 rfl rfl ?_
          refine g_getI (pc := 84) (k := 55) kf_X12_7.r rfl rfl (hPl.lt (by decide)) dX12_goesBy_84 ?_
          refine g_icmp_ge (pc := 87) (tgt := 123) dX12_goesBy_87 rfl (fun c_26 => ?_) (fun c_26 => ?_)
          · replace hF := am_yes c_26 hF
            cases hF
            cases hE_23 _ rfl
            exact g_weak hX_21 ⟨Or.inr rfl, Or.inr rfl, Or.inr rfl, Or.inr rfl, Or.inl rfl, trivial⟩
          · replace hF := am_no c_26 hF
            refine g_aload_n (pc := 90) dX12_goesBy_90 rfl rfl ?_
            refine g_getR (pc := 91) (k := 55) (r := 63) kf_X12_35.r rfl rfl (hPl.get (by decide) rfl) (hPl.lt (by decide)) dX12_goesBy_91 ?_
            refine g_iconst (pc := 94) (v := (4 : Int32)) dX12_goesBy_94 rfl ?_
            refine g_iload_n (pc := 95) dX12_goesBy_95 rfl rfl ?_
            refine g_imul (pc := 96) dX12_goesBy_96 ?_
            refine g_iload (pc := 97) dX12_goesBy_97 rfl ?_
            refine g_iadd (pc := 99) dX12_goesBy_99 ?_
            obtain ⟨c_27, hF⟩ := am_gd hF
            refine g_iald (pc := 100) (k := 63) rfl (hPl.lt (by decide)) (am_ix_use c_27) dX12_goesBy_100 ?_
            refine g_aload_n (pc := 101) dX12_goesBy_101 rfl rfl ?_
            refine g_getR (pc := 102) (k := 55) (r := 63) kf_X12_35.r rfl rfl (hPl.get (by decide) rfl) (hPl.lt (by decide)) dX12_goesBy_102 ?_
            refine g_iconst (pc := 105) (v := (4 : Int32)) dX12_goesBy_105 rfl ?_
            refine g_iload_n (pc := 106) dX12_goesBy_106 rfl rfl ?_
            refine g_imul (pc := 107) dX12_goesBy_107 ?_
            refine g_iload_n (pc := 108) dX12_goesBy_108 rfl rfl ?_
            refine g_iadd (pc := 109) dX12_goesBy_109 ?_
            obtain ⟨c_28, hF⟩ := am_gd hF
            refine g_iald (pc := 110) (k := 63) rfl (hPl.lt (by decide)) (am_ix_use c_28) dX12_goesBy_110 ?_
            refine g_icmp_le (pc := 111) (tgt := 117) dX12_goesBy_111 rfl (fun c_29 => ?_) (fun c_29 => ?_)
            · replace hF := am_yes c_29 hF
              obtain ⟨l4_30, e_l4_30, hF⟩ := am_let_el hF
              refine n_iinc (pc := 117) (ls2 := [.ref 55, .int r_10, .int r_13, .int l3_18, .int l4_30]) e_l4_30 rfl rfl rfl dX12_goesBy_117 (Nat.le_of_ble_eq_true rfl) ?_
              refine g_goto (pc := 120) (tgt := 81) dX12_goesBy_120 rfl ?_
              cases hF
              exact ih_22 (l3_18, l4_30) rfl
            · replace hF := am_no c_29 hF
              refine g_iload (pc := 114) dX12_goesBy_114 rfl ?_
              refine n_istore_n (pc := 116) (ls2 := [.ref 55, .int r_10, .int r_13, .int l4_19, .int l4_19]) rfl rfl dX12_goesBy_116 rfl (Nat.le_of_ble_eq_true rfl) ?_
              obtain ⟨l4_31, e_l4_31, hF⟩ := am_let_el hF
              refine n_iinc (pc := 117) (ls2 := [.ref 55, .int r_10, .int r_13, .int l4_19, .int l4_31]) e_l4_31 rfl rfl rfl dX12_goesBy_117 (Nat.le_of_ble_eq_true rfl) ?_
              refine g_goto (pc := 120) (tgt := 81) dX12_goesBy_120 rfl ?_
              cases hF
              exact ih_22 (l4_19, l4_31) rfl
          ) _ _ hL_24
        exact hC
      · replace hF := am_yes c_17 hF
        cases hF
        exact g_vret (pc := 75) rfl (Nat.le_refl _) (Nat.le_refl _) dX12_goesBy_75 ⟨rfl, rfl, rfl, rfl⟩
    · replace hF := am_yes c_8 hF
      cases hF
      exact g_vret (pc := 37) rfl (Nat.le_refl _) (Nat.le_refl _) dX12_goesBy_37 ⟨rfl, rfl, rfl, rfl⟩
def F_X12_years_55 (I : am_IT) (a1 : Int32) : Option (Int32 × am_IT) := am_let (up2 I 55 0 (0 : Int32)) (fun (I_1 : am_IT) => am_b1 (F_X12_isIn_55 I_1 a1 (1 : Int32) (60 : Int32)) (fun (r_3 : Int32) => if r_3 = 0 then (some ((-1 : Int32), I_1)) else (if ((I_1 55 13) + a1) ≤ (999 : Int32) then (am_b1 (am_it am_fu (am_u2 (fun (l2_7 : Int32) (I_8 : am_IT) => if a1 ≤ l2_7 then (some (.inr (I_8))) else (am_b1 (F_X12_goesBy_55 I_8) (fun (I_17 : am_IT) => am_let (l2_7 + (1 : Int32)) (fun (l2_18 : Int32) => some (.inl (l2_18, I_17))))))) ((0 : Int32), I_1)) (fun (I_9 : am_IT) => some (I_9 55 13, I_9))) else (some ((-1 : Int32), I_1)))))
set_option maxRecDepth 100000 in
set_option maxHeartbeats 4000000 in
theorem s_X12_years_55 {l : Launch} {d N : Nat} {P : am_PT} (hPl : am_Pl 94 N P) (hd : 7 ≤ d) {I : am_IT} {a1 : Int32} {r : Int32} {I2 : am_IT} (hF : F_X12_years_55 I a1 = some (r, I2)) : am_C l d 0 0 mX12_years [.ref 55, .int a1] N P I (am_qi r N P I2) := by
  refine am_body (sc := am_sc0) (n := 1) (by decide +kernel) (by decide) rfl ?_
  change G am_sc0 l d 0 0 mX12_years (am_qi r N P I2) 0 [.ref 55, .int a1, .null] [] N P I 0 0
  unfold F_X12_years_55 at hF
  refine g_aload_n (pc := 0) dX12_years_0 rfl rfl ?_
  refine g_iconst (pc := 1) (v := (0 : Int32)) dX12_years_1 rfl ?_
  obtain ⟨I_1, e_I_1, hF⟩ := am_let_el hF
  refine n_putI (pc := 2) (k := 55) e_I_1 kf_X12_134 rfl rfl (hPl.lt (by decide)) dX12_years_2 ?_
  refine g_aload_n (pc := 5) dX12_years_5 rfl rfl ?_
  refine g_iload_n (pc := 6) dX12_years_6 rfl rfl ?_
  refine g_iconst (pc := 7) (v := (1 : Int32)) dX12_years_7 rfl ?_
  refine g_bipush (pc := 8) (v := (60 : Int32)) dX12_years_8 rfl ?_
  obtain ⟨r_3, h_2, hF⟩ := am_b1_el hF
  refine g_cVz (pc := 10) (k := 55) (As := [.int a1, .int (1 : Int32), .int (60 : Int32)]) (st := []) ky_X12_isIn kl_X12_148 (s_X12_isIn_55 (d := 1) (hPl) (Nat.le_refl _) h_2) rfl rfl rfl (hPl.lt (by decide)) (Nat.le_trans (by decide) hd) (Nat.le_of_ble_eq_true rfl) (Nat.le_refl _) (Nat.le_refl _) dX12_years_10 ?_
  intro z_4
  refine g_if_eq (pc := 13) (tgt := 28) dX12_years_13 rfl (fun c_5 => ?_) (fun c_5 => ?_)
  · replace hF := am_yes c_5 hF
    refine g_iconst (pc := 28) (v := (-1 : Int32)) dX12_years_28 (by decide) ?_
    cases hF
    exact g_iret (pc := 29) rfl (Nat.le_refl _) (Nat.le_refl _) dX12_years_29 ⟨rfl, rfl, rfl, rfl⟩
  · replace hF := am_no c_5 hF
    refine g_aload_n (pc := 16) dX12_years_16 rfl rfl ?_
    refine g_getI (pc := 17) (k := 55) kf_X12_155.r rfl rfl (hPl.lt (by decide)) dX12_years_17 ?_
    refine g_iload_n (pc := 20) dX12_years_20 rfl rfl ?_
    refine g_iadd (pc := 21) dX12_years_21 ?_
    refine g_sipush (pc := 22) (v := (999 : Int32)) dX12_years_22 rfl ?_
    refine g_icmp_le (pc := 25) (tgt := 30) dX12_years_25 rfl (fun c_6 => ?_) (fun c_6 => ?_)
    · replace hF := am_yes c_6 hF
      refine g_iconst (pc := 30) (v := (0 : Int32)) dX12_years_30 rfl ?_
      refine n_istore_n (pc := 31) (ls2 := [.ref 55, .int a1, .int (0 : Int32)]) rfl rfl dX12_years_31 rfl (Nat.le_of_ble_eq_true rfl) ?_
      obtain ⟨I_9, hL_13, hF⟩ := am_b1_el hF
      have hX_10 : G am_sc0 l d 0 0 mX12_years (am_qi r N P I2) 47 [.ref 55, .int a1, .null] [] N P I_9 0 0 := by
        refine g_aload_n (pc := 47) dX12_years_47 rfl rfl ?_
        refine g_getI (pc := 48) (k := 55) kf_X12_155.r rfl rfl (hPl.lt (by decide)) dX12_years_48 ?_
        cases hF
        exact g_iret (pc := 51) rfl (Nat.le_refl _) (Nat.le_refl _) dX12_years_51 ⟨rfl, rfl, rfl, rfl⟩
      clear hF
      have hC := am_loop (C := fun x => G am_sc0 l d 0 0 mX12_years (am_qi r N P I2) 32 [.ref 55, .int a1, .int x.1] [] N P x.2 0 0) (by
        rintro ⟨l2_7, I_8⟩ rr hF ih_11 hE_12
        replace hF := am_u2_ap hF
        change G am_sc0 l d 0 0 mX12_years (am_qi r N P I2) 32 [.ref 55, .int a1, .int l2_7] [] N P I_8 0 0
        refine g_iload_n (pc := 32) dX12_years_32 rfl rfl ?_
        refine g_iload_n (pc := 33) dX12_years_33 rfl rfl ?_
        refine g_icmp_ge (pc := 34) (tgt := 47) dX12_years_34 rfl (fun c_15 => ?_) (fun c_15 => ?_)
        · replace hF := am_yes c_15 hF
          cases hF
          cases hE_12 _ rfl
          exact g_weak hX_10 ⟨Or.inr rfl, Or.inr rfl, Or.inl rfl, trivial⟩
        · replace hF := am_no c_15 hF
          refine g_aload_n (pc := 37) dX12_years_37 rfl rfl ?_
          obtain ⟨I_17, h_16, hF⟩ := am_b1_el hF
          refine g_cVv (pc := 38) (k := 55) (As := []) (st := []) ky_X12_goesBy kl_X12_378 (s_X12_goesBy_55 (d := 6) (hPl) (Nat.le_refl _) h_16) rfl rfl rfl (hPl.lt (by decide)) (Nat.le_trans (by decide) hd) (Nat.le_of_ble_eq_true rfl) (Nat.le_refl _) (Nat.le_refl _) dX12_years_38 ?_
          obtain ⟨l2_18, e_l2_18, hF⟩ := am_let_el hF
          refine n_iinc (pc := 41) (ls2 := [.ref 55, .int a1, .int l2_18]) e_l2_18 rfl rfl rfl dX12_years_41 (Nat.le_of_ble_eq_true rfl) ?_
          refine g_goto (pc := 44) (tgt := 32) dX12_years_44 rfl ?_
          cases hF
          exact ih_11 (l2_18, I_17) rfl
        ) _ _ hL_13
      exact hC
    · replace hF := am_no c_6 hF
      refine g_iconst (pc := 28) (v := (-1 : Int32)) dX12_years_28 (by decide) ?_
      cases hF
      exact g_iret (pc := 29) rfl (Nat.le_refl _) (Nat.le_refl _) dX12_years_29 ⟨rfl, rfl, rfl, rfl⟩
def F_X12_kept_55 (I : am_IT) (a1 : Int32) : Option (Int32 × am_IT) := am_let (up2 I 55 66 ((I 55 66) + (1 : Int32))) (fun (I_1 : am_IT) => if (I_1 55 64) = 0 then (if am_ix ((I_1 55 66) - (1 : Int32)) 1450 = true then (some (I_1 93 ((I_1 55 66) - (1 : Int32)).toNatClampNeg, I_1)) else none) else (if am_ix ((I_1 55 66) - (1 : Int32)) 1450 = true then (am_let (up2 I_1 93 ((I_1 55 66) - (1 : Int32)).toNatClampNeg a1) (fun (I_4 : am_IT) => some (a1, I_4))) else none))
set_option maxRecDepth 100000 in
set_option maxHeartbeats 4000000 in
theorem s_X12_kept_55 {l : Launch} {d N : Nat} {P : am_PT} (hPl : am_Pl 94 N P) (hd : 1 ≤ d) {I : am_IT} {a1 : Int32} {r : Int32} {I2 : am_IT} (hF : F_X12_kept_55 I a1 = some (r, I2)) : am_C l d 0 0 mX12_kept [.ref 55, .int a1] N P I (am_qi r N P I2) := by
  refine am_body (sc := am_sc0) (n := 0) (by decide +kernel) (by decide) rfl ?_
  change G am_sc0 l d 0 0 mX12_kept (am_qi r N P I2) 0 [.ref 55, .int a1] [] N P I 0 0
  unfold F_X12_kept_55 at hF
  refine g_aload_n (pc := 0) dX12_kept_0 rfl rfl ?_
  refine g_aload_n (pc := 1) dX12_kept_1 rfl rfl ?_
  refine g_getI (pc := 2) (k := 55) kf_X12_381.r rfl rfl (hPl.lt (by decide)) dX12_kept_2 ?_
  refine g_iconst (pc := 5) (v := (1 : Int32)) dX12_kept_5 rfl ?_
  refine g_iadd (pc := 6) dX12_kept_6 ?_
  obtain ⟨I_1, e_I_1, hF⟩ := am_let_el hF
  refine n_putI (pc := 7) (k := 55) e_I_1 kf_X12_381 rfl rfl (hPl.lt (by decide)) dX12_kept_7 ?_
  refine g_aload_n (pc := 10) dX12_kept_10 rfl rfl ?_
  refine g_getI (pc := 11) (k := 55) kf_X12_384.r rfl rfl (hPl.lt (by decide)) dX12_kept_11 ?_
  refine g_if_ne (pc := 14) (tgt := 29) dX12_kept_14 rfl (fun c_2 => ?_) (fun c_2 => ?_)
  · replace hF := am_no c_2 hF
    refine g_aload_n (pc := 29) dX12_kept_29 rfl rfl ?_
    refine g_getR (pc := 30) (k := 55) (r := 93) kf_X12_131.r rfl rfl (hPl.get (by decide) rfl) (hPl.lt (by decide)) dX12_kept_30 ?_
    refine g_aload_n (pc := 33) dX12_kept_33 rfl rfl ?_
    refine g_getI (pc := 34) (k := 55) kf_X12_381.r rfl rfl (hPl.lt (by decide)) dX12_kept_34 ?_
    refine g_iconst (pc := 37) (v := (1 : Int32)) dX12_kept_37 rfl ?_
    refine g_isub (pc := 38) dX12_kept_38 ?_
    refine g_iload_n (pc := 39) dX12_kept_39 rfl rfl ?_
    obtain ⟨c_3, hF⟩ := am_gd hF
    obtain ⟨I_4, e_I_4, hF⟩ := am_let_el hF
    refine n_iast (pc := 40) (k := 93) e_I_4 rfl (hPl.lt (by decide)) (am_ix_use c_3) dX12_kept_40 ?_
    refine g_iload_n (pc := 41) dX12_kept_41 rfl rfl ?_
    cases hF
    exact g_iret (pc := 42) rfl (Nat.le_refl _) (Nat.le_refl _) dX12_kept_42 ⟨rfl, rfl, rfl, rfl⟩
  · replace hF := am_yes c_2 hF
    refine g_aload_n (pc := 17) dX12_kept_17 rfl rfl ?_
    refine g_getR (pc := 18) (k := 55) (r := 93) kf_X12_131.r rfl rfl (hPl.get (by decide) rfl) (hPl.lt (by decide)) dX12_kept_18 ?_
    refine g_aload_n (pc := 21) dX12_kept_21 rfl rfl ?_
    refine g_getI (pc := 22) (k := 55) kf_X12_381.r rfl rfl (hPl.lt (by decide)) dX12_kept_22 ?_
    refine g_iconst (pc := 25) (v := (1 : Int32)) dX12_kept_25 rfl ?_
    refine g_isub (pc := 26) dX12_kept_26 ?_
    obtain ⟨c_5, hF⟩ := am_gd hF
    refine g_iald (pc := 27) (k := 93) rfl (hPl.lt (by decide)) (am_ix_use c_5) dX12_kept_27 ?_
    cases hF
    exact g_iret (pc := 28) rfl (Nat.le_refl _) (Nat.le_refl _) dX12_kept_28 ⟨rfl, rfl, rfl, rfl⟩
def F_X12_keepsPeople_55 (I : am_IT) : Option (am_IT) := am_b2 (F_X12_kept_55 I (I 55 5)) (fun (r_2 : Int32) (I_3 : am_IT) => am_let (up2 I_3 55 5 r_2) (fun (I_4 : am_IT) => am_b1 (am_it am_fu (am_u2 (fun (l1_5 : Int32) (I_6 : am_IT) => if (7 : Int32) ≤ l1_5 then (some (.inr (I_6))) else (if am_ix l1_5 7 = true then (am_b2 (F_X12_kept_55 I_6 (I_6 57 l1_5.toNatClampNeg)) (fun (r_16 : Int32) (I_17 : am_IT) => if am_ix l1_5 7 = true then (am_let (up2 I_17 57 l1_5.toNatClampNeg r_16) (fun (I_19 : am_IT) => if am_ix l1_5 7 = true then (am_b2 (F_X12_kept_55 I_19 (I_19 65 l1_5.toNatClampNeg)) (fun (r_22 : Int32) (I_23 : am_IT) => if am_ix l1_5 7 = true then (am_let (up2 I_23 65 l1_5.toNatClampNeg r_22) (fun (I_25 : am_IT) => am_let (l1_5 + (1 : Int32)) (fun (l1_26 : Int32) => some (.inl (l1_26, I_25))))) else none)) else none)) else none)) else none))) ((0 : Int32), I_4)) (fun (I_7 : am_IT) => am_b1 (am_it am_fu (am_u2 (fun (l1_27 : Int32) (I_28 : am_IT) => if (28 : Int32) ≤ l1_27 then (some (.inr (I_28))) else (if am_ix l1_27 28 = true then (am_b2 (F_X12_kept_55 I_28 (I_28 63 l1_27.toNatClampNeg)) (fun (r_38 : Int32) (I_39 : am_IT) => if am_ix l1_27 28 = true then (am_let (up2 I_39 63 l1_27.toNatClampNeg r_38) (fun (I_41 : am_IT) => if am_ix l1_27 28 = true then (am_b2 (F_X12_kept_55 I_41 (I_41 64 l1_27.toNatClampNeg)) (fun (r_44 : Int32) (I_45 : am_IT) => if am_ix l1_27 28 = true then (am_let (up2 I_45 64 l1_27.toNatClampNeg r_44) (fun (I_47 : am_IT) => am_let (l1_27 + (1 : Int32)) (fun (l1_48 : Int32) => some (.inl (l1_48, I_47))))) else none)) else none)) else none)) else none))) ((0 : Int32), I_7)) (fun (I_29 : am_IT) => am_b2 (F_X12_kept_55 I_29 (I_29 55 18)) (fun (r_50 : Int32) (I_51 : am_IT) => am_let (up2 I_51 55 18 r_50) (fun (I_52 : am_IT) => am_b1 (am_it am_fu (am_u2 (fun (l1_53 : Int32) (I_54 : am_IT) => if (40 : Int32) ≤ l1_53 then (some (.inr (I_54))) else (if am_ix l1_53 40 = true then (am_b2 (F_X12_kept_55 I_54 (I_54 67 l1_53.toNatClampNeg)) (fun (r_64 : Int32) (I_65 : am_IT) => if am_ix l1_53 40 = true then (am_let (up2 I_65 67 l1_53.toNatClampNeg r_64) (fun (I_67 : am_IT) => if am_ix l1_53 40 = true then (am_b2 (F_X12_kept_55 I_67 (I_67 68 l1_53.toNatClampNeg)) (fun (r_70 : Int32) (I_71 : am_IT) => if am_ix l1_53 40 = true then (am_let (up2 I_71 68 l1_53.toNatClampNeg r_70) (fun (I_73 : am_IT) => if am_ix l1_53 40 = true then (am_b2 (F_X12_kept_55 I_73 (I_73 69 l1_53.toNatClampNeg)) (fun (r_76 : Int32) (I_77 : am_IT) => if am_ix l1_53 40 = true then (am_let (up2 I_77 69 l1_53.toNatClampNeg r_76) (fun (I_79 : am_IT) => am_let (l1_53 + (1 : Int32)) (fun (l1_80 : Int32) => some (.inl (l1_80, I_79))))) else none)) else none)) else none)) else none)) else none)) else none))) ((0 : Int32), I_52)) (fun (I_55 : am_IT) => some I_55)))))))
set_option maxRecDepth 100000 in
set_option maxHeartbeats 4000000 in
theorem s_X12_keepsPeople_55 {l : Launch} {d N : Nat} {P : am_PT} (hPl : am_Pl 94 N P) (hd : 2 ≤ d) {I : am_IT} {I2 : am_IT} (hF : F_X12_keepsPeople_55 I = some (I2)) : am_C l d 0 0 mX12_keepsPeople [.ref 55] N P I (am_qv N P I2) := by
  refine am_body (sc := am_sc0) (n := 1) (by decide +kernel) (by decide) rfl ?_
  change G am_sc0 l d 0 0 mX12_keepsPeople (am_qv N P I2) 0 [.ref 55, .null] [] N P I 0 0
  unfold F_X12_keepsPeople_55 at hF
  refine g_aload_n (pc := 0) dX12_keepsPeople_0 rfl rfl ?_
  refine g_aload_n (pc := 1) dX12_keepsPeople_1 rfl rfl ?_
  refine g_aload_n (pc := 2) dX12_keepsPeople_2 rfl rfl ?_
  refine g_getI (pc := 3) (k := 55) kf_X12_145.r rfl rfl (hPl.lt (by decide)) dX12_keepsPeople_3 ?_
  obtain ⟨r_2, I_3, h_1, hF⟩ := am_b2_el hF
  refine g_cVi (pc := 6) (k := 55) (As := [.int (I 55 5)]) (st := [.ref 55]) ky_X12_kept kl_X12_388 (s_X12_kept_55 (d := 1) (hPl) (Nat.le_refl _) h_1) rfl rfl rfl (hPl.lt (by decide)) (Nat.le_trans (by decide) hd) (Nat.le_of_ble_eq_true rfl) (Nat.le_refl _) (Nat.le_refl _) dX12_keepsPeople_6 ?_
  obtain ⟨I_4, e_I_4, hF⟩ := am_let_el hF
  refine n_putI (pc := 9) (k := 55) e_I_4 kf_X12_145 rfl rfl (hPl.lt (by decide)) dX12_keepsPeople_9 ?_
  refine g_iconst (pc := 12) (v := (0 : Int32)) dX12_keepsPeople_12 rfl ?_
  refine n_istore_n (pc := 13) (ls2 := [.ref 55, .int (0 : Int32)]) rfl rfl dX12_keepsPeople_13 rfl (Nat.le_of_ble_eq_true rfl) ?_
  obtain ⟨I_7, hL_11, hF⟩ := am_b1_el hF
  have hX_8 : G am_sc0 l d 0 0 mX12_keepsPeople (am_qv N P I2) 58 [.ref 55, .null] [] N P I_7 0 0 := by
    refine g_iconst (pc := 58) (v := (0 : Int32)) dX12_keepsPeople_58 rfl ?_
    refine n_istore_n (pc := 59) (ls2 := [.ref 55, .int (0 : Int32)]) rfl rfl dX12_keepsPeople_59 rfl (Nat.le_of_ble_eq_true rfl) ?_
    obtain ⟨I_29, hL_33, hF⟩ := am_b1_el hF
    have hX_30 : G am_sc0 l d 0 0 mX12_keepsPeople (am_qv N P I2) 104 [.ref 55, .null] [] N P I_29 0 0 := by
      refine g_aload_n (pc := 104) dX12_keepsPeople_104 rfl rfl ?_
      refine g_aload_n (pc := 105) dX12_keepsPeople_105 rfl rfl ?_
      refine g_aload_n (pc := 106) dX12_keepsPeople_106 rfl rfl ?_
      refine g_getI (pc := 107) (k := 55) kf_X12_158.r rfl rfl (hPl.lt (by decide)) dX12_keepsPeople_107 ?_
      obtain ⟨r_50, I_51, h_49, hF⟩ := am_b2_el hF
      refine g_cVi (pc := 110) (k := 55) (As := [.int (I_29 55 18)]) (st := [.ref 55]) ky_X12_kept kl_X12_388 (s_X12_kept_55 (d := 1) (hPl) (Nat.le_refl _) h_49) rfl rfl rfl (hPl.lt (by decide)) (Nat.le_trans (by decide) hd) (Nat.le_of_ble_eq_true rfl) (Nat.le_refl _) (Nat.le_refl _) dX12_keepsPeople_110 ?_
      obtain ⟨I_52, e_I_52, hF⟩ := am_let_el hF
      refine n_putI (pc := 113) (k := 55) e_I_52 kf_X12_158 rfl rfl (hPl.lt (by decide)) dX12_keepsPeople_113 ?_
      refine g_iconst (pc := 116) (v := (0 : Int32)) dX12_keepsPeople_116 rfl ?_
      refine n_istore_n (pc := 117) (ls2 := [.ref 55, .int (0 : Int32)]) rfl rfl dX12_keepsPeople_117 rfl (Nat.le_of_ble_eq_true rfl) ?_
      obtain ⟨I_55, hL_59, hF⟩ := am_b1_el hF
      have hX_56 : G am_sc0 l d 0 0 mX12_keepsPeople (am_qv N P I2) 178 [.ref 55, .null] [] N P I_55 0 0 := by
        cases hF
        exact g_vret (pc := 178) rfl (Nat.le_refl _) (Nat.le_refl _) dX12_keepsPeople_178 ⟨rfl, rfl, rfl, rfl⟩
      clear hF
      have hC := am_loop (C := fun x => G am_sc0 l d 0 0 mX12_keepsPeople (am_qv N P I2) 118 [.ref 55, .int x.1] [] N P x.2 0 0) (by
        rintro ⟨l1_53, I_54⟩ rr hF ih_57 hE_58
        replace hF := am_u2_ap hF
        change G am_sc0 l d 0 0 mX12_keepsPeople (am_qv N P I2) 118 [.ref 55, .int l1_53] [] N P I_54 0 0
        refine g_iload_n (pc := 118) dX12_keepsPeople_118 rfl rfl ?_
        refine g_bipush (pc := 119) (v := (40 : Int32)) dX12_keepsPeople_119 rfl ?_
        refine g_icmp_ge (pc := 121) (tgt := 178) dX12_keepsPeople_121 rfl (fun c_61 => ?_) (fun c_61 => ?_)
        · replace hF := am_yes c_61 hF
          cases hF
          cases hE_58 _ rfl
          exact g_weak hX_56 ⟨Or.inr rfl, Or.inl rfl, trivial⟩
        · replace hF := am_no c_61 hF
          refine g_aload_n (pc := 124) dX12_keepsPeople_124 rfl rfl ?_
          refine g_getR (pc := 125) (k := 55) (r := 67) kf_X12_47.r rfl rfl (hPl.get (by decide) rfl) (hPl.lt (by decide)) dX12_keepsPeople_125 ?_
          refine g_iload_n (pc := 128) dX12_keepsPeople_128 rfl rfl ?_
          refine g_aload_n (pc := 129) dX12_keepsPeople_129 rfl rfl ?_
          refine g_aload_n (pc := 130) dX12_keepsPeople_130 rfl rfl ?_
          refine g_getR (pc := 131) (k := 55) (r := 67) kf_X12_47.r rfl rfl (hPl.get (by decide) rfl) (hPl.lt (by decide)) dX12_keepsPeople_131 ?_
          refine g_iload_n (pc := 134) dX12_keepsPeople_134 rfl rfl ?_
          obtain ⟨c_62, hF⟩ := am_gd hF
          refine g_iald (pc := 135) (k := 67) rfl (hPl.lt (by decide)) (am_ix_use c_62) dX12_keepsPeople_135 ?_
          obtain ⟨r_64, I_65, h_63, hF⟩ := am_b2_el hF
          refine g_cVi (pc := 136) (k := 55) (As := [.int (I_54 67 l1_53.toNatClampNeg)]) (st := [.int l1_53, .ref 67]) ky_X12_kept kl_X12_388 (s_X12_kept_55 (d := 1) (hPl) (Nat.le_refl _) h_63) rfl rfl rfl (hPl.lt (by decide)) (Nat.le_trans (by decide) hd) (Nat.le_of_ble_eq_true rfl) (Nat.le_refl _) (Nat.le_refl _) dX12_keepsPeople_136 ?_
          obtain ⟨c_66, hF⟩ := am_gd hF
          obtain ⟨I_67, e_I_67, hF⟩ := am_let_el hF
          refine n_iast (pc := 139) (k := 67) e_I_67 rfl (hPl.lt (by decide)) (am_ix_use c_66) dX12_keepsPeople_139 ?_
          refine g_aload_n (pc := 140) dX12_keepsPeople_140 rfl rfl ?_
          refine g_getR (pc := 141) (k := 55) (r := 68) kf_X12_50.r rfl rfl (hPl.get (by decide) rfl) (hPl.lt (by decide)) dX12_keepsPeople_141 ?_
          refine g_iload_n (pc := 144) dX12_keepsPeople_144 rfl rfl ?_
          refine g_aload_n (pc := 145) dX12_keepsPeople_145 rfl rfl ?_
          refine g_aload_n (pc := 146) dX12_keepsPeople_146 rfl rfl ?_
          refine g_getR (pc := 147) (k := 55) (r := 68) kf_X12_50.r rfl rfl (hPl.get (by decide) rfl) (hPl.lt (by decide)) dX12_keepsPeople_147 ?_
          refine g_iload_n (pc := 150) dX12_keepsPeople_150 rfl rfl ?_
          obtain ⟨c_68, hF⟩ := am_gd hF
          refine g_iald (pc := 151) (k := 68) rfl (hPl.lt (by decide)) (am_ix_use c_68) dX12_keepsPeople_151 ?_
          obtain ⟨r_70, I_71, h_69, hF⟩ := am_b2_el hF
          refine g_cVi (pc := 152) (k := 55) (As := [.int (I_67 68 l1_53.toNatClampNeg)]) (st := [.int l1_53, .ref 68]) ky_X12_kept kl_X12_388 (s_X12_kept_55 (d := 1) (hPl) (Nat.le_refl _) h_69) rfl rfl rfl (hPl.lt (by decide)) (Nat.le_trans (by decide) hd) (Nat.le_of_ble_eq_true rfl) (Nat.le_refl _) (Nat.le_refl _) dX12_keepsPeople_152 ?_
          obtain ⟨c_72, hF⟩ := am_gd hF
          obtain ⟨I_73, e_I_73, hF⟩ := am_let_el hF
          refine n_iast (pc := 155) (k := 68) e_I_73 rfl (hPl.lt (by decide)) (am_ix_use c_72) dX12_keepsPeople_155 ?_
          refine g_aload_n (pc := 156) dX12_keepsPeople_156 rfl rfl ?_
          refine g_getR (pc := 157) (k := 55) (r := 69) kf_X12_53.r rfl rfl (hPl.get (by decide) rfl) (hPl.lt (by decide)) dX12_keepsPeople_157 ?_
          refine g_iload_n (pc := 160) dX12_keepsPeople_160 rfl rfl ?_
          refine g_aload_n (pc := 161) dX12_keepsPeople_161 rfl rfl ?_
          refine g_aload_n (pc := 162) dX12_keepsPeople_162 rfl rfl ?_
          refine g_getR (pc := 163) (k := 55) (r := 69) kf_X12_53.r rfl rfl (hPl.get (by decide) rfl) (hPl.lt (by decide)) dX12_keepsPeople_163 ?_
          refine g_iload_n (pc := 166) dX12_keepsPeople_166 rfl rfl ?_
          obtain ⟨c_74, hF⟩ := am_gd hF
          refine g_iald (pc := 167) (k := 69) rfl (hPl.lt (by decide)) (am_ix_use c_74) dX12_keepsPeople_167 ?_
          obtain ⟨r_76, I_77, h_75, hF⟩ := am_b2_el hF
          refine g_cVi (pc := 168) (k := 55) (As := [.int (I_73 69 l1_53.toNatClampNeg)]) (st := [.int l1_53, .ref 69]) ky_X12_kept kl_X12_388 (s_X12_kept_55 (d := 1) (hPl) (Nat.le_refl _) h_75) rfl rfl rfl (hPl.lt (by decide)) (Nat.le_trans (by decide) hd) (Nat.le_of_ble_eq_true rfl) (Nat.le_refl _) (Nat.le_refl _) dX12_keepsPeople_168 ?_
          obtain ⟨c_78, hF⟩ := am_gd hF
          obtain ⟨I_79, e_I_79, hF⟩ := am_let_el hF
          refine n_iast (pc := 171) (k := 69) e_I_79 rfl (hPl.lt (by decide)) (am_ix_use c_78) dX12_keepsPeople_171 ?_
          obtain ⟨l1_80, e_l1_80, hF⟩ := am_let_el hF
          refine n_iinc (pc := 172) (ls2 := [.ref 55, .int l1_80]) e_l1_80 rfl rfl rfl dX12_keepsPeople_172 (Nat.le_of_ble_eq_true rfl) ?_
          refine g_goto (pc := 175) (tgt := 118) dX12_keepsPeople_175 rfl ?_
          cases hF
          exact ih_57 (l1_80, I_79) rfl
        ) _ _ hL_59
      exact hC
    clear hF
    have hC := am_loop (C := fun x => G am_sc0 l d 0 0 mX12_keepsPeople (am_qv N P I2) 60 [.ref 55, .int x.1] [] N P x.2 0 0) (by
      rintro ⟨l1_27, I_28⟩ rr hF ih_31 hE_32
      replace hF := am_u2_ap hF
      change G am_sc0 l d 0 0 mX12_keepsPeople (am_qv N P I2) 60 [.ref 55, .int l1_27] [] N P I_28 0 0
      refine g_iload_n (pc := 60) dX12_keepsPeople_60 rfl rfl ?_
      refine g_bipush (pc := 61) (v := (28 : Int32)) dX12_keepsPeople_61 rfl ?_
      refine g_icmp_ge (pc := 63) (tgt := 104) dX12_keepsPeople_63 rfl (fun c_35 => ?_) (fun c_35 => ?_)
      · replace hF := am_yes c_35 hF
        cases hF
        cases hE_32 _ rfl
        exact g_weak hX_30 ⟨Or.inr rfl, Or.inl rfl, trivial⟩
      · replace hF := am_no c_35 hF
        refine g_aload_n (pc := 66) dX12_keepsPeople_66 rfl rfl ?_
        refine g_getR (pc := 67) (k := 55) (r := 63) kf_X12_35.r rfl rfl (hPl.get (by decide) rfl) (hPl.lt (by decide)) dX12_keepsPeople_67 ?_
        refine g_iload_n (pc := 70) dX12_keepsPeople_70 rfl rfl ?_
        refine g_aload_n (pc := 71) dX12_keepsPeople_71 rfl rfl ?_
        refine g_aload_n (pc := 72) dX12_keepsPeople_72 rfl rfl ?_
        refine g_getR (pc := 73) (k := 55) (r := 63) kf_X12_35.r rfl rfl (hPl.get (by decide) rfl) (hPl.lt (by decide)) dX12_keepsPeople_73 ?_
        refine g_iload_n (pc := 76) dX12_keepsPeople_76 rfl rfl ?_
        obtain ⟨c_36, hF⟩ := am_gd hF
        refine g_iald (pc := 77) (k := 63) rfl (hPl.lt (by decide)) (am_ix_use c_36) dX12_keepsPeople_77 ?_
        obtain ⟨r_38, I_39, h_37, hF⟩ := am_b2_el hF
        refine g_cVi (pc := 78) (k := 55) (As := [.int (I_28 63 l1_27.toNatClampNeg)]) (st := [.int l1_27, .ref 63]) ky_X12_kept kl_X12_388 (s_X12_kept_55 (d := 1) (hPl) (Nat.le_refl _) h_37) rfl rfl rfl (hPl.lt (by decide)) (Nat.le_trans (by decide) hd) (Nat.le_of_ble_eq_true rfl) (Nat.le_refl _) (Nat.le_refl _) dX12_keepsPeople_78 ?_
        obtain ⟨c_40, hF⟩ := am_gd hF
        obtain ⟨I_41, e_I_41, hF⟩ := am_let_el hF
        refine n_iast (pc := 81) (k := 63) e_I_41 rfl (hPl.lt (by decide)) (am_ix_use c_40) dX12_keepsPeople_81 ?_
        refine g_aload_n (pc := 82) dX12_keepsPeople_82 rfl rfl ?_
        refine g_getR (pc := 83) (k := 55) (r := 64) kf_X12_38.r rfl rfl (hPl.get (by decide) rfl) (hPl.lt (by decide)) dX12_keepsPeople_83 ?_
        refine g_iload_n (pc := 86) dX12_keepsPeople_86 rfl rfl ?_
        refine g_aload_n (pc := 87) dX12_keepsPeople_87 rfl rfl ?_
        refine g_aload_n (pc := 88) dX12_keepsPeople_88 rfl rfl ?_
        refine g_getR (pc := 89) (k := 55) (r := 64) kf_X12_38.r rfl rfl (hPl.get (by decide) rfl) (hPl.lt (by decide)) dX12_keepsPeople_89 ?_
        refine g_iload_n (pc := 92) dX12_keepsPeople_92 rfl rfl ?_
        obtain ⟨c_42, hF⟩ := am_gd hF
        refine g_iald (pc := 93) (k := 64) rfl (hPl.lt (by decide)) (am_ix_use c_42) dX12_keepsPeople_93 ?_
        obtain ⟨r_44, I_45, h_43, hF⟩ := am_b2_el hF
        refine g_cVi (pc := 94) (k := 55) (As := [.int (I_41 64 l1_27.toNatClampNeg)]) (st := [.int l1_27, .ref 64]) ky_X12_kept kl_X12_388 (s_X12_kept_55 (d := 1) (hPl) (Nat.le_refl _) h_43) rfl rfl rfl (hPl.lt (by decide)) (Nat.le_trans (by decide) hd) (Nat.le_of_ble_eq_true rfl) (Nat.le_refl _) (Nat.le_refl _) dX12_keepsPeople_94 ?_
        obtain ⟨c_46, hF⟩ := am_gd hF
        obtain ⟨I_47, e_I_47, hF⟩ := am_let_el hF
        refine n_iast (pc := 97) (k := 64) e_I_47 rfl (hPl.lt (by decide)) (am_ix_use c_46) dX12_keepsPeople_97 ?_
        obtain ⟨l1_48, e_l1_48, hF⟩ := am_let_el hF
        refine n_iinc (pc := 98) (ls2 := [.ref 55, .int l1_48]) e_l1_48 rfl rfl rfl dX12_keepsPeople_98 (Nat.le_of_ble_eq_true rfl) ?_
        refine g_goto (pc := 101) (tgt := 60) dX12_keepsPeople_101 rfl ?_
        cases hF
        exact ih_31 (l1_48, I_47) rfl
      ) _ _ hL_33
    exact hC
  clear hF
  have hC := am_loop (C := fun x => G am_sc0 l d 0 0 mX12_keepsPeople (am_qv N P I2) 14 [.ref 55, .int x.1] [] N P x.2 0 0) (by
    rintro ⟨l1_5, I_6⟩ rr hF ih_9 hE_10
    replace hF := am_u2_ap hF
    change G am_sc0 l d 0 0 mX12_keepsPeople (am_qv N P I2) 14 [.ref 55, .int l1_5] [] N P I_6 0 0
    refine g_iload_n (pc := 14) dX12_keepsPeople_14 rfl rfl ?_
    refine g_bipush (pc := 15) (v := (7 : Int32)) dX12_keepsPeople_15 rfl ?_
    refine g_icmp_ge (pc := 17) (tgt := 58) dX12_keepsPeople_17 rfl (fun c_13 => ?_) (fun c_13 => ?_)
    · replace hF := am_yes c_13 hF
      cases hF
      cases hE_10 _ rfl
      exact g_weak hX_8 ⟨Or.inr rfl, Or.inl rfl, trivial⟩
    · replace hF := am_no c_13 hF
      refine g_aload_n (pc := 20) dX12_keepsPeople_20 rfl rfl ?_
      refine g_getR (pc := 21) (k := 55) (r := 57) kf_X12_17.r rfl rfl (hPl.get (by decide) rfl) (hPl.lt (by decide)) dX12_keepsPeople_21 ?_
      refine g_iload_n (pc := 24) dX12_keepsPeople_24 rfl rfl ?_
      refine g_aload_n (pc := 25) dX12_keepsPeople_25 rfl rfl ?_
      refine g_aload_n (pc := 26) dX12_keepsPeople_26 rfl rfl ?_
      refine g_getR (pc := 27) (k := 55) (r := 57) kf_X12_17.r rfl rfl (hPl.get (by decide) rfl) (hPl.lt (by decide)) dX12_keepsPeople_27 ?_
      refine g_iload_n (pc := 30) dX12_keepsPeople_30 rfl rfl ?_
      obtain ⟨c_14, hF⟩ := am_gd hF
      refine g_iald (pc := 31) (k := 57) rfl (hPl.lt (by decide)) (am_ix_use c_14) dX12_keepsPeople_31 ?_
      obtain ⟨r_16, I_17, h_15, hF⟩ := am_b2_el hF
      refine g_cVi (pc := 32) (k := 55) (As := [.int (I_6 57 l1_5.toNatClampNeg)]) (st := [.int l1_5, .ref 57]) ky_X12_kept kl_X12_388 (s_X12_kept_55 (d := 1) (hPl) (Nat.le_refl _) h_15) rfl rfl rfl (hPl.lt (by decide)) (Nat.le_trans (by decide) hd) (Nat.le_of_ble_eq_true rfl) (Nat.le_refl _) (Nat.le_refl _) dX12_keepsPeople_32 ?_
      obtain ⟨c_18, hF⟩ := am_gd hF
      obtain ⟨I_19, e_I_19, hF⟩ := am_let_el hF
      refine n_iast (pc := 35) (k := 57) e_I_19 rfl (hPl.lt (by decide)) (am_ix_use c_18) dX12_keepsPeople_35 ?_
      refine g_aload_n (pc := 36) dX12_keepsPeople_36 rfl rfl ?_
      refine g_getR (pc := 37) (k := 55) (r := 65) kf_X12_41.r rfl rfl (hPl.get (by decide) rfl) (hPl.lt (by decide)) dX12_keepsPeople_37 ?_
      refine g_iload_n (pc := 40) dX12_keepsPeople_40 rfl rfl ?_
      refine g_aload_n (pc := 41) dX12_keepsPeople_41 rfl rfl ?_
      refine g_aload_n (pc := 42) dX12_keepsPeople_42 rfl rfl ?_
      refine g_getR (pc := 43) (k := 55) (r := 65) kf_X12_41.r rfl rfl (hPl.get (by decide) rfl) (hPl.lt (by decide)) dX12_keepsPeople_43 ?_
      refine g_iload_n (pc := 46) dX12_keepsPeople_46 rfl rfl ?_
      obtain ⟨c_20, hF⟩ := am_gd hF
      refine g_iald (pc := 47) (k := 65) rfl (hPl.lt (by decide)) (am_ix_use c_20) dX12_keepsPeople_47 ?_
      obtain ⟨r_22, I_23, h_21, hF⟩ := am_b2_el hF
      refine g_cVi (pc := 48) (k := 55) (As := [.int (I_19 65 l1_5.toNatClampNeg)]) (st := [.int l1_5, .ref 65]) ky_X12_kept kl_X12_388 (s_X12_kept_55 (d := 1) (hPl) (Nat.le_refl _) h_21) rfl rfl rfl (hPl.lt (by decide)) (Nat.le_trans (by decide) hd) (Nat.le_of_ble_eq_true rfl) (Nat.le_refl _) (Nat.le_refl _) dX12_keepsPeople_48 ?_
      obtain ⟨c_24, hF⟩ := am_gd hF
      obtain ⟨I_25, e_I_25, hF⟩ := am_let_el hF
      refine n_iast (pc := 51) (k := 65) e_I_25 rfl (hPl.lt (by decide)) (am_ix_use c_24) dX12_keepsPeople_51 ?_
      obtain ⟨l1_26, e_l1_26, hF⟩ := am_let_el hF
      refine n_iinc (pc := 52) (ls2 := [.ref 55, .int l1_26]) e_l1_26 rfl rfl rfl dX12_keepsPeople_52 (Nat.le_of_ble_eq_true rfl) ?_
      refine g_goto (pc := 55) (tgt := 14) dX12_keepsPeople_55 rfl ?_
      cases hF
      exact ih_9 (l1_26, I_25) rfl
    ) _ _ hL_11
  exact hC
def F_X12_keepsRule_55 (I : am_IT) : Option (am_IT) := am_b2 (F_X12_kept_55 I (I 55 32)) (fun (r_2 : Int32) (I_3 : am_IT) => am_let (up2 I_3 55 32 r_2) (fun (I_4 : am_IT) => am_b1 (am_it am_fu (am_u2 (fun (l1_5 : Int32) (I_6 : am_IT) => if (16 : Int32) ≤ l1_5 then (some (.inr (I_6))) else (if am_ix l1_5 32 = true then (am_b2 (F_X12_kept_55 I_6 (I_6 75 l1_5.toNatClampNeg)) (fun (r_16 : Int32) (I_17 : am_IT) => if am_ix l1_5 32 = true then (am_let (up2 I_17 75 l1_5.toNatClampNeg r_16) (fun (I_19 : am_IT) => if am_ix l1_5 32 = true then (am_b2 (F_X12_kept_55 I_19 (I_19 76 l1_5.toNatClampNeg)) (fun (r_22 : Int32) (I_23 : am_IT) => if am_ix l1_5 32 = true then (am_let (up2 I_23 76 l1_5.toNatClampNeg r_22) (fun (I_25 : am_IT) => if am_ix l1_5 32 = true then (am_b2 (F_X12_kept_55 I_25 (I_25 77 l1_5.toNatClampNeg)) (fun (r_28 : Int32) (I_29 : am_IT) => if am_ix l1_5 32 = true then (am_let (up2 I_29 77 l1_5.toNatClampNeg r_28) (fun (I_31 : am_IT) => am_let (l1_5 + (1 : Int32)) (fun (l1_32 : Int32) => some (.inl (l1_32, I_31))))) else none)) else none)) else none)) else none)) else none)) else none))) ((0 : Int32), I_4)) (fun (I_7 : am_IT) => am_b1 (am_it am_fu (am_u2 (fun (l1_33 : Int32) (I_34 : am_IT) => if (400 : Int32) ≤ l1_33 then (some (.inr (I_34))) else (if am_ix l1_33 800 = true then (am_b2 (F_X12_kept_55 I_34 (I_34 78 l1_33.toNatClampNeg)) (fun (r_44 : Int32) (I_45 : am_IT) => if am_ix l1_33 800 = true then (am_let (up2 I_45 78 l1_33.toNatClampNeg r_44) (fun (I_47 : am_IT) => if am_ix l1_33 800 = true then (am_b2 (F_X12_kept_55 I_47 (I_47 79 l1_33.toNatClampNeg)) (fun (r_50 : Int32) (I_51 : am_IT) => if am_ix l1_33 800 = true then (am_let (up2 I_51 79 l1_33.toNatClampNeg r_50) (fun (I_53 : am_IT) => am_let (l1_33 + (1 : Int32)) (fun (l1_54 : Int32) => some (.inl (l1_54, I_53))))) else none)) else none)) else none)) else none))) ((0 : Int32), I_7)) (fun (I_35 : am_IT) => some I_35))))
set_option maxRecDepth 100000 in
set_option maxHeartbeats 4000000 in
theorem s_X12_keepsRule_55 {l : Launch} {d N : Nat} {P : am_PT} (hPl : am_Pl 94 N P) (hd : 2 ≤ d) {I : am_IT} {I2 : am_IT} (hF : F_X12_keepsRule_55 I = some (I2)) : am_C l d 0 0 mX12_keepsRule [.ref 55] N P I (am_qv N P I2) := by
  refine am_body (sc := am_sc0) (n := 1) (by decide +kernel) (by decide) rfl ?_
  change G am_sc0 l d 0 0 mX12_keepsRule (am_qv N P I2) 0 [.ref 55, .null] [] N P I 0 0
  unfold F_X12_keepsRule_55 at hF
  refine g_aload_n (pc := 0) dX12_keepsRule_0 rfl rfl ?_
  refine g_aload_n (pc := 1) dX12_keepsRule_1 rfl rfl ?_
  refine g_aload_n (pc := 2) dX12_keepsRule_2 rfl rfl ?_
  refine g_getI (pc := 3) (k := 55) kf_X12_161.r rfl rfl (hPl.lt (by decide)) dX12_keepsRule_3 ?_
  obtain ⟨r_2, I_3, h_1, hF⟩ := am_b2_el hF
  refine g_cVi (pc := 6) (k := 55) (As := [.int (I 55 32)]) (st := [.ref 55]) ky_X12_kept kl_X12_388 (s_X12_kept_55 (d := 1) (hPl) (Nat.le_refl _) h_1) rfl rfl rfl (hPl.lt (by decide)) (Nat.le_trans (by decide) hd) (Nat.le_of_ble_eq_true rfl) (Nat.le_refl _) (Nat.le_refl _) dX12_keepsRule_6 ?_
  obtain ⟨I_4, e_I_4, hF⟩ := am_let_el hF
  refine n_putI (pc := 9) (k := 55) e_I_4 kf_X12_161 rfl rfl (hPl.lt (by decide)) dX12_keepsRule_9 ?_
  refine g_iconst (pc := 12) (v := (0 : Int32)) dX12_keepsRule_12 rfl ?_
  refine n_istore_n (pc := 13) (ls2 := [.ref 55, .int (0 : Int32)]) rfl rfl dX12_keepsRule_13 rfl (Nat.le_of_ble_eq_true rfl) ?_
  obtain ⟨I_7, hL_11, hF⟩ := am_b1_el hF
  have hX_8 : G am_sc0 l d 0 0 mX12_keepsRule (am_qv N P I2) 74 [.ref 55, .null] [] N P I_7 0 0 := by
    refine g_iconst (pc := 74) (v := (0 : Int32)) dX12_keepsRule_74 rfl ?_
    refine n_istore_n (pc := 75) (ls2 := [.ref 55, .int (0 : Int32)]) rfl rfl dX12_keepsRule_75 rfl (Nat.le_of_ble_eq_true rfl) ?_
    obtain ⟨I_35, hL_39, hF⟩ := am_b1_el hF
    have hX_36 : G am_sc0 l d 0 0 mX12_keepsRule (am_qv N P I2) 121 [.ref 55, .null] [] N P I_35 0 0 := by
      cases hF
      exact g_vret (pc := 121) rfl (Nat.le_refl _) (Nat.le_refl _) dX12_keepsRule_121 ⟨rfl, rfl, rfl, rfl⟩
    clear hF
    have hC := am_loop (C := fun x => G am_sc0 l d 0 0 mX12_keepsRule (am_qv N P I2) 76 [.ref 55, .int x.1] [] N P x.2 0 0) (by
      rintro ⟨l1_33, I_34⟩ rr hF ih_37 hE_38
      replace hF := am_u2_ap hF
      change G am_sc0 l d 0 0 mX12_keepsRule (am_qv N P I2) 76 [.ref 55, .int l1_33] [] N P I_34 0 0
      refine g_iload_n (pc := 76) dX12_keepsRule_76 rfl rfl ?_
      refine g_sipush (pc := 77) (v := (400 : Int32)) dX12_keepsRule_77 rfl ?_
      refine g_icmp_ge (pc := 80) (tgt := 121) dX12_keepsRule_80 rfl (fun c_41 => ?_) (fun c_41 => ?_)
      · replace hF := am_yes c_41 hF
        cases hF
        cases hE_38 _ rfl
        exact g_weak hX_36 ⟨Or.inr rfl, Or.inl rfl, trivial⟩
      · replace hF := am_no c_41 hF
        refine g_aload_n (pc := 83) dX12_keepsRule_83 rfl rfl ?_
        refine g_getR (pc := 84) (k := 55) (r := 78) kf_X12_80.r rfl rfl (hPl.get (by decide) rfl) (hPl.lt (by decide)) dX12_keepsRule_84 ?_
        refine g_iload_n (pc := 87) dX12_keepsRule_87 rfl rfl ?_
        refine g_aload_n (pc := 88) dX12_keepsRule_88 rfl rfl ?_
        refine g_aload_n (pc := 89) dX12_keepsRule_89 rfl rfl ?_
        refine g_getR (pc := 90) (k := 55) (r := 78) kf_X12_80.r rfl rfl (hPl.get (by decide) rfl) (hPl.lt (by decide)) dX12_keepsRule_90 ?_
        refine g_iload_n (pc := 93) dX12_keepsRule_93 rfl rfl ?_
        obtain ⟨c_42, hF⟩ := am_gd hF
        refine g_iald (pc := 94) (k := 78) rfl (hPl.lt (by decide)) (am_ix_use c_42) dX12_keepsRule_94 ?_
        obtain ⟨r_44, I_45, h_43, hF⟩ := am_b2_el hF
        refine g_cVi (pc := 95) (k := 55) (As := [.int (I_34 78 l1_33.toNatClampNeg)]) (st := [.int l1_33, .ref 78]) ky_X12_kept kl_X12_388 (s_X12_kept_55 (d := 1) (hPl) (Nat.le_refl _) h_43) rfl rfl rfl (hPl.lt (by decide)) (Nat.le_trans (by decide) hd) (Nat.le_of_ble_eq_true rfl) (Nat.le_refl _) (Nat.le_refl _) dX12_keepsRule_95 ?_
        obtain ⟨c_46, hF⟩ := am_gd hF
        obtain ⟨I_47, e_I_47, hF⟩ := am_let_el hF
        refine n_iast (pc := 98) (k := 78) e_I_47 rfl (hPl.lt (by decide)) (am_ix_use c_46) dX12_keepsRule_98 ?_
        refine g_aload_n (pc := 99) dX12_keepsRule_99 rfl rfl ?_
        refine g_getR (pc := 100) (k := 55) (r := 79) kf_X12_83.r rfl rfl (hPl.get (by decide) rfl) (hPl.lt (by decide)) dX12_keepsRule_100 ?_
        refine g_iload_n (pc := 103) dX12_keepsRule_103 rfl rfl ?_
        refine g_aload_n (pc := 104) dX12_keepsRule_104 rfl rfl ?_
        refine g_aload_n (pc := 105) dX12_keepsRule_105 rfl rfl ?_
        refine g_getR (pc := 106) (k := 55) (r := 79) kf_X12_83.r rfl rfl (hPl.get (by decide) rfl) (hPl.lt (by decide)) dX12_keepsRule_106 ?_
        refine g_iload_n (pc := 109) dX12_keepsRule_109 rfl rfl ?_
        obtain ⟨c_48, hF⟩ := am_gd hF
        refine g_iald (pc := 110) (k := 79) rfl (hPl.lt (by decide)) (am_ix_use c_48) dX12_keepsRule_110 ?_
        obtain ⟨r_50, I_51, h_49, hF⟩ := am_b2_el hF
        refine g_cVi (pc := 111) (k := 55) (As := [.int (I_47 79 l1_33.toNatClampNeg)]) (st := [.int l1_33, .ref 79]) ky_X12_kept kl_X12_388 (s_X12_kept_55 (d := 1) (hPl) (Nat.le_refl _) h_49) rfl rfl rfl (hPl.lt (by decide)) (Nat.le_trans (by decide) hd) (Nat.le_of_ble_eq_true rfl) (Nat.le_refl _) (Nat.le_refl _) dX12_keepsRule_111 ?_
        obtain ⟨c_52, hF⟩ := am_gd hF
        obtain ⟨I_53, e_I_53, hF⟩ := am_let_el hF
        refine n_iast (pc := 114) (k := 79) e_I_53 rfl (hPl.lt (by decide)) (am_ix_use c_52) dX12_keepsRule_114 ?_
        obtain ⟨l1_54, e_l1_54, hF⟩ := am_let_el hF
        refine n_iinc (pc := 115) (ls2 := [.ref 55, .int l1_54]) e_l1_54 rfl rfl rfl dX12_keepsRule_115 (Nat.le_of_ble_eq_true rfl) ?_
        refine g_goto (pc := 118) (tgt := 76) dX12_keepsRule_118 rfl ?_
        cases hF
        exact ih_37 (l1_54, I_53) rfl
      ) _ _ hL_39
    exact hC
  clear hF
  have hC := am_loop (C := fun x => G am_sc0 l d 0 0 mX12_keepsRule (am_qv N P I2) 14 [.ref 55, .int x.1] [] N P x.2 0 0) (by
    rintro ⟨l1_5, I_6⟩ rr hF ih_9 hE_10
    replace hF := am_u2_ap hF
    change G am_sc0 l d 0 0 mX12_keepsRule (am_qv N P I2) 14 [.ref 55, .int l1_5] [] N P I_6 0 0
    refine g_iload_n (pc := 14) dX12_keepsRule_14 rfl rfl ?_
    refine g_bipush (pc := 15) (v := (16 : Int32)) dX12_keepsRule_15 rfl ?_
    refine g_icmp_ge (pc := 17) (tgt := 74) dX12_keepsRule_17 rfl (fun c_13 => ?_) (fun c_13 => ?_)
    · replace hF := am_yes c_13 hF
      cases hF
      cases hE_10 _ rfl
      exact g_weak hX_8 ⟨Or.inr rfl, Or.inl rfl, trivial⟩
    · replace hF := am_no c_13 hF
      refine g_aload_n (pc := 20) dX12_keepsRule_20 rfl rfl ?_
      refine g_getR (pc := 21) (k := 55) (r := 75) kf_X12_71.r rfl rfl (hPl.get (by decide) rfl) (hPl.lt (by decide)) dX12_keepsRule_21 ?_
      refine g_iload_n (pc := 24) dX12_keepsRule_24 rfl rfl ?_
      refine g_aload_n (pc := 25) dX12_keepsRule_25 rfl rfl ?_
      refine g_aload_n (pc := 26) dX12_keepsRule_26 rfl rfl ?_
      refine g_getR (pc := 27) (k := 55) (r := 75) kf_X12_71.r rfl rfl (hPl.get (by decide) rfl) (hPl.lt (by decide)) dX12_keepsRule_27 ?_
      refine g_iload_n (pc := 30) dX12_keepsRule_30 rfl rfl ?_
      obtain ⟨c_14, hF⟩ := am_gd hF
      refine g_iald (pc := 31) (k := 75) rfl (hPl.lt (by decide)) (am_ix_use c_14) dX12_keepsRule_31 ?_
      obtain ⟨r_16, I_17, h_15, hF⟩ := am_b2_el hF
      refine g_cVi (pc := 32) (k := 55) (As := [.int (I_6 75 l1_5.toNatClampNeg)]) (st := [.int l1_5, .ref 75]) ky_X12_kept kl_X12_388 (s_X12_kept_55 (d := 1) (hPl) (Nat.le_refl _) h_15) rfl rfl rfl (hPl.lt (by decide)) (Nat.le_trans (by decide) hd) (Nat.le_of_ble_eq_true rfl) (Nat.le_refl _) (Nat.le_refl _) dX12_keepsRule_32 ?_
      obtain ⟨c_18, hF⟩ := am_gd hF
      obtain ⟨I_19, e_I_19, hF⟩ := am_let_el hF
      refine n_iast (pc := 35) (k := 75) e_I_19 rfl (hPl.lt (by decide)) (am_ix_use c_18) dX12_keepsRule_35 ?_
      refine g_aload_n (pc := 36) dX12_keepsRule_36 rfl rfl ?_
      refine g_getR (pc := 37) (k := 55) (r := 76) kf_X12_74.r rfl rfl (hPl.get (by decide) rfl) (hPl.lt (by decide)) dX12_keepsRule_37 ?_
      refine g_iload_n (pc := 40) dX12_keepsRule_40 rfl rfl ?_
      refine g_aload_n (pc := 41) dX12_keepsRule_41 rfl rfl ?_
      refine g_aload_n (pc := 42) dX12_keepsRule_42 rfl rfl ?_
      refine g_getR (pc := 43) (k := 55) (r := 76) kf_X12_74.r rfl rfl (hPl.get (by decide) rfl) (hPl.lt (by decide)) dX12_keepsRule_43 ?_
      refine g_iload_n (pc := 46) dX12_keepsRule_46 rfl rfl ?_
      obtain ⟨c_20, hF⟩ := am_gd hF
      refine g_iald (pc := 47) (k := 76) rfl (hPl.lt (by decide)) (am_ix_use c_20) dX12_keepsRule_47 ?_
      obtain ⟨r_22, I_23, h_21, hF⟩ := am_b2_el hF
      refine g_cVi (pc := 48) (k := 55) (As := [.int (I_19 76 l1_5.toNatClampNeg)]) (st := [.int l1_5, .ref 76]) ky_X12_kept kl_X12_388 (s_X12_kept_55 (d := 1) (hPl) (Nat.le_refl _) h_21) rfl rfl rfl (hPl.lt (by decide)) (Nat.le_trans (by decide) hd) (Nat.le_of_ble_eq_true rfl) (Nat.le_refl _) (Nat.le_refl _) dX12_keepsRule_48 ?_
      obtain ⟨c_24, hF⟩ := am_gd hF
      obtain ⟨I_25, e_I_25, hF⟩ := am_let_el hF
      refine n_iast (pc := 51) (k := 76) e_I_25 rfl (hPl.lt (by decide)) (am_ix_use c_24) dX12_keepsRule_51 ?_
      refine g_aload_n (pc := 52) dX12_keepsRule_52 rfl rfl ?_
      refine g_getR (pc := 53) (k := 55) (r := 77) kf_X12_77.r rfl rfl (hPl.get (by decide) rfl) (hPl.lt (by decide)) dX12_keepsRule_53 ?_
      refine g_iload_n (pc := 56) dX12_keepsRule_56 rfl rfl ?_
      refine g_aload_n (pc := 57) dX12_keepsRule_57 rfl rfl ?_
      refine g_aload_n (pc := 58) dX12_keepsRule_58 rfl rfl ?_
      refine g_getR (pc := 59) (k := 55) (r := 77) kf_X12_77.r rfl rfl (hPl.get (by decide) rfl) (hPl.lt (by decide)) dX12_keepsRule_59 ?_
      refine g_iload_n (pc := 62) dX12_keepsRule_62 rfl rfl ?_
      obtain ⟨c_26, hF⟩ := am_gd hF
      refine g_iald (pc := 63) (k := 77) rfl (hPl.lt (by decide)) (am_ix_use c_26) dX12_keepsRule_63 ?_
      obtain ⟨r_28, I_29, h_27, hF⟩ := am_b2_el hF
      refine g_cVi (pc := 64) (k := 55) (As := [.int (I_25 77 l1_5.toNatClampNeg)]) (st := [.int l1_5, .ref 77]) ky_X12_kept kl_X12_388 (s_X12_kept_55 (d := 1) (hPl) (Nat.le_refl _) h_27) rfl rfl rfl (hPl.lt (by decide)) (Nat.le_trans (by decide) hd) (Nat.le_of_ble_eq_true rfl) (Nat.le_refl _) (Nat.le_refl _) dX12_keepsRule_64 ?_
      obtain ⟨c_30, hF⟩ := am_gd hF
      obtain ⟨I_31, e_I_31, hF⟩ := am_let_el hF
      refine n_iast (pc := 67) (k := 77) e_I_31 rfl (hPl.lt (by decide)) (am_ix_use c_30) dX12_keepsRule_67 ?_
      obtain ⟨l1_32, e_l1_32, hF⟩ := am_let_el hF
      refine n_iinc (pc := 68) (ls2 := [.ref 55, .int l1_32]) e_l1_32 rfl rfl rfl dX12_keepsRule_68 (Nat.le_of_ble_eq_true rfl) ?_
      refine g_goto (pc := 71) (tgt := 14) dX12_keepsRule_71 rfl ?_
      cases hF
      exact ih_9 (l1_32, I_31) rfl
    ) _ _ hL_11
  exact hC
def F_X12_image_55 (I : am_IT) (a1 : Int32) : Option (Int32 × am_IT) := am_let (up2 I 55 0 (0 : Int32)) (fun (I_1 : am_IT) => if a1 = 0 then (if (I_1 55 65) = 0 then (some ((0 : Int32), I_1)) else (if a1 = 0 ∨ a1 = 1 then (am_let (up2 I_1 55 64 a1) (fun (I_153 : am_IT) => am_let (up2 I_153 55 65 (1 : Int32)) (fun (I_154 : am_IT) => am_let (up2 I_154 55 66 (0 : Int32)) (fun (I_155 : am_IT) => am_b2 (F_X12_kept_55 I_155 (I_155 55 1)) (fun (r_157 : Int32) (I_158 : am_IT) => am_let (up2 I_158 55 1 r_157) (fun (I_159 : am_IT) => am_b2 (F_X12_kept_55 I_159 (I_159 55 2)) (fun (r_161 : Int32) (I_162 : am_IT) => am_let (up2 I_162 55 2 r_161) (fun (I_163 : am_IT) => am_b2 (F_X12_kept_55 I_163 (I_163 55 13)) (fun (r_165 : Int32) (I_166 : am_IT) => am_let (up2 I_166 55 13 r_165) (fun (I_167 : am_IT) => am_b2 (F_X12_kept_55 I_167 (I_167 55 4)) (fun (r_169 : Int32) (I_170 : am_IT) => am_let (up2 I_170 55 4 r_169) (fun (I_171 : am_IT) => am_b1 (am_it am_fu (am_u2 (fun (l2_172 : Int32) (I_173 : am_IT) => if (7 : Int32) ≤ l2_172 then (some (.inr (I_173))) else (if am_ix ((0 : Int32) + l2_172) 35 = true then (am_b2 (F_X12_kept_55 I_173 (I_173 72 ((0 : Int32) + l2_172).toNatClampNeg)) (fun (r_183 : Int32) (I_184 : am_IT) => if am_ix ((0 : Int32) + l2_172) 35 = true then (am_let (up2 I_184 72 ((0 : Int32) + l2_172).toNatClampNeg r_183) (fun (I_186 : am_IT) => am_let (l2_172 + (1 : Int32)) (fun (l2_187 : Int32) => some (.inl (l2_187, I_186))))) else none)) else none))) ((0 : Int32), I_171)) (fun (I_174 : am_IT) => am_b1 (am_it am_fu (am_u2 (fun (l2_188 : Int32) (I_189 : am_IT) => if (4 : Int32) ≤ l2_188 then (some (.inr (I_189))) else (if am_ix l2_188 4 = true then (am_b2 (F_X12_kept_55 I_189 (I_189 56 l2_188.toNatClampNeg)) (fun (r_199 : Int32) (I_200 : am_IT) => if am_ix l2_188 4 = true then (am_let (up2 I_200 56 l2_188.toNatClampNeg r_199) (fun (I_202 : am_IT) => am_let (l2_188 + (1 : Int32)) (fun (l2_203 : Int32) => some (.inl (l2_203, I_202))))) else none)) else none))) ((0 : Int32), I_174)) (fun (I_190 : am_IT) => am_b1 (am_it am_fu (am_u2 (fun (l2_204 : Int32) (I_205 : am_IT) => if (56 : Int32) ≤ l2_204 then (some (.inr (I_205))) else (if am_ix l2_204 56 = true then (am_b2 (F_X12_kept_55 I_205 (I_205 58 l2_204.toNatClampNeg)) (fun (r_215 : Int32) (I_216 : am_IT) => if am_ix l2_204 56 = true then (am_let (up2 I_216 58 l2_204.toNatClampNeg r_215) (fun (I_218 : am_IT) => am_let (l2_204 + (1 : Int32)) (fun (l2_219 : Int32) => some (.inl (l2_219, I_218))))) else none)) else none))) ((0 : Int32), I_190)) (fun (I_206 : am_IT) => am_b1 (am_it am_fu (am_u2 (fun (l2_220 : Int32) (I_221 : am_IT) => if (49 : Int32) ≤ l2_220 then (some (.inr (I_221))) else (if am_ix l2_220 49 = true then (am_b2 (F_X12_kept_55 I_221 (I_221 66 l2_220.toNatClampNeg)) (fun (r_231 : Int32) (I_232 : am_IT) => if am_ix l2_220 49 = true then (am_let (up2 I_232 66 l2_220.toNatClampNeg r_231) (fun (I_234 : am_IT) => am_let (l2_220 + (1 : Int32)) (fun (l2_235 : Int32) => some (.inl (l2_235, I_234))))) else none)) else none))) ((0 : Int32), I_206)) (fun (I_222 : am_IT) => am_b2 (F_X12_kept_55 I_222 (I_222 55 8)) (fun (r_237 : Int32) (I_238 : am_IT) => am_let (up2 I_238 55 8 r_237) (fun (I_239 : am_IT) => am_b1 (am_it am_fu (am_u2 (fun (l2_240 : Int32) (I_241 : am_IT) => if (20 : Int32) ≤ l2_240 then (some (.inr (I_241))) else (if am_ix l2_240 20 = true then (am_b2 (F_X12_kept_55 I_241 (I_241 59 l2_240.toNatClampNeg)) (fun (r_251 : Int32) (I_252 : am_IT) => if am_ix l2_240 20 = true then (am_let (up2 I_252 59 l2_240.toNatClampNeg r_251) (fun (I_254 : am_IT) => if am_ix l2_240 20 = true then (am_b2 (F_X12_kept_55 I_254 (I_254 60 l2_240.toNatClampNeg)) (fun (r_257 : Int32) (I_258 : am_IT) => if am_ix l2_240 20 = true then (am_let (up2 I_258 60 l2_240.toNatClampNeg r_257) (fun (I_260 : am_IT) => if am_ix l2_240 20 = true then (am_b2 (F_X12_kept_55 I_260 (I_260 61 l2_240.toNatClampNeg)) (fun (r_263 : Int32) (I_264 : am_IT) => if am_ix l2_240 20 = true then (am_let (up2 I_264 61 l2_240.toNatClampNeg r_263) (fun (I_266 : am_IT) => if am_ix l2_240 20 = true then (am_b2 (F_X12_kept_55 I_266 (I_266 62 l2_240.toNatClampNeg)) (fun (r_269 : Int32) (I_270 : am_IT) => if am_ix l2_240 20 = true then (am_let (up2 I_270 62 l2_240.toNatClampNeg r_269) (fun (I_272 : am_IT) => am_let (l2_240 + (1 : Int32)) (fun (l2_273 : Int32) => some (.inl (l2_273, I_272))))) else none)) else none)) else none)) else none)) else none)) else none)) else none)) else none))) ((0 : Int32), I_239)) (fun (I_242 : am_IT) => am_b1 (am_it am_fu (am_u2 (fun (l2_274 : Int32) (I_275 : am_IT) => if (9 : Int32) ≤ l2_274 then (some (.inr (I_275))) else (if am_ix l2_274 9 = true then (am_b2 (F_X12_kept_55 I_275 (I_275 70 l2_274.toNatClampNeg)) (fun (r_285 : Int32) (I_286 : am_IT) => if am_ix l2_274 9 = true then (am_let (up2 I_286 70 l2_274.toNatClampNeg r_285) (fun (I_288 : am_IT) => if am_ix l2_274 9 = true then (am_b2 (F_X12_kept_55 I_288 (I_288 71 l2_274.toNatClampNeg)) (fun (r_291 : Int32) (I_292 : am_IT) => if am_ix l2_274 9 = true then (am_let (up2 I_292 71 l2_274.toNatClampNeg r_291) (fun (I_294 : am_IT) => am_let (l2_274 + (1 : Int32)) (fun (l2_295 : Int32) => some (.inl (l2_295, I_294))))) else none)) else none)) else none)) else none))) ((0 : Int32), I_242)) (fun (I_276 : am_IT) => am_b1 (F_X12_keepsPeople_55 I_276) (fun (I_297 : am_IT) => am_b1 (F_X12_keepsRule_55 I_297) (fun (I_299 : am_IT) => some ((1 : Int32), I_299))))))))))))))))))))))) else none)) else (if a1 = 0 ∨ a1 = 1 then (am_let (up2 I_1 55 64 a1) (fun (I_4 : am_IT) => am_let (up2 I_4 55 65 (1 : Int32)) (fun (I_5 : am_IT) => am_let (up2 I_5 55 66 (0 : Int32)) (fun (I_6 : am_IT) => am_b2 (F_X12_kept_55 I_6 (I_6 55 1)) (fun (r_8 : Int32) (I_9 : am_IT) => am_let (up2 I_9 55 1 r_8) (fun (I_10 : am_IT) => am_b2 (F_X12_kept_55 I_10 (I_10 55 2)) (fun (r_12 : Int32) (I_13 : am_IT) => am_let (up2 I_13 55 2 r_12) (fun (I_14 : am_IT) => am_b2 (F_X12_kept_55 I_14 (I_14 55 13)) (fun (r_16 : Int32) (I_17 : am_IT) => am_let (up2 I_17 55 13 r_16) (fun (I_18 : am_IT) => am_b2 (F_X12_kept_55 I_18 (I_18 55 4)) (fun (r_20 : Int32) (I_21 : am_IT) => am_let (up2 I_21 55 4 r_20) (fun (I_22 : am_IT) => am_b1 (am_it am_fu (am_u2 (fun (l2_23 : Int32) (I_24 : am_IT) => if (7 : Int32) ≤ l2_23 then (some (.inr (I_24))) else (if am_ix ((0 : Int32) + l2_23) 35 = true then (am_b2 (F_X12_kept_55 I_24 (I_24 72 ((0 : Int32) + l2_23).toNatClampNeg)) (fun (r_34 : Int32) (I_35 : am_IT) => if am_ix ((0 : Int32) + l2_23) 35 = true then (am_let (up2 I_35 72 ((0 : Int32) + l2_23).toNatClampNeg r_34) (fun (I_37 : am_IT) => am_let (l2_23 + (1 : Int32)) (fun (l2_38 : Int32) => some (.inl (l2_38, I_37))))) else none)) else none))) ((0 : Int32), I_22)) (fun (I_25 : am_IT) => am_b1 (am_it am_fu (am_u2 (fun (l2_39 : Int32) (I_40 : am_IT) => if (4 : Int32) ≤ l2_39 then (some (.inr (I_40))) else (if am_ix l2_39 4 = true then (am_b2 (F_X12_kept_55 I_40 (I_40 56 l2_39.toNatClampNeg)) (fun (r_50 : Int32) (I_51 : am_IT) => if am_ix l2_39 4 = true then (am_let (up2 I_51 56 l2_39.toNatClampNeg r_50) (fun (I_53 : am_IT) => am_let (l2_39 + (1 : Int32)) (fun (l2_54 : Int32) => some (.inl (l2_54, I_53))))) else none)) else none))) ((0 : Int32), I_25)) (fun (I_41 : am_IT) => am_b1 (am_it am_fu (am_u2 (fun (l2_55 : Int32) (I_56 : am_IT) => if (56 : Int32) ≤ l2_55 then (some (.inr (I_56))) else (if am_ix l2_55 56 = true then (am_b2 (F_X12_kept_55 I_56 (I_56 58 l2_55.toNatClampNeg)) (fun (r_66 : Int32) (I_67 : am_IT) => if am_ix l2_55 56 = true then (am_let (up2 I_67 58 l2_55.toNatClampNeg r_66) (fun (I_69 : am_IT) => am_let (l2_55 + (1 : Int32)) (fun (l2_70 : Int32) => some (.inl (l2_70, I_69))))) else none)) else none))) ((0 : Int32), I_41)) (fun (I_57 : am_IT) => am_b1 (am_it am_fu (am_u2 (fun (l2_71 : Int32) (I_72 : am_IT) => if (49 : Int32) ≤ l2_71 then (some (.inr (I_72))) else (if am_ix l2_71 49 = true then (am_b2 (F_X12_kept_55 I_72 (I_72 66 l2_71.toNatClampNeg)) (fun (r_82 : Int32) (I_83 : am_IT) => if am_ix l2_71 49 = true then (am_let (up2 I_83 66 l2_71.toNatClampNeg r_82) (fun (I_85 : am_IT) => am_let (l2_71 + (1 : Int32)) (fun (l2_86 : Int32) => some (.inl (l2_86, I_85))))) else none)) else none))) ((0 : Int32), I_57)) (fun (I_73 : am_IT) => am_b2 (F_X12_kept_55 I_73 (I_73 55 8)) (fun (r_88 : Int32) (I_89 : am_IT) => am_let (up2 I_89 55 8 r_88) (fun (I_90 : am_IT) => am_b1 (am_it am_fu (am_u2 (fun (l2_91 : Int32) (I_92 : am_IT) => if (20 : Int32) ≤ l2_91 then (some (.inr (I_92))) else (if am_ix l2_91 20 = true then (am_b2 (F_X12_kept_55 I_92 (I_92 59 l2_91.toNatClampNeg)) (fun (r_102 : Int32) (I_103 : am_IT) => if am_ix l2_91 20 = true then (am_let (up2 I_103 59 l2_91.toNatClampNeg r_102) (fun (I_105 : am_IT) => if am_ix l2_91 20 = true then (am_b2 (F_X12_kept_55 I_105 (I_105 60 l2_91.toNatClampNeg)) (fun (r_108 : Int32) (I_109 : am_IT) => if am_ix l2_91 20 = true then (am_let (up2 I_109 60 l2_91.toNatClampNeg r_108) (fun (I_111 : am_IT) => if am_ix l2_91 20 = true then (am_b2 (F_X12_kept_55 I_111 (I_111 61 l2_91.toNatClampNeg)) (fun (r_114 : Int32) (I_115 : am_IT) => if am_ix l2_91 20 = true then (am_let (up2 I_115 61 l2_91.toNatClampNeg r_114) (fun (I_117 : am_IT) => if am_ix l2_91 20 = true then (am_b2 (F_X12_kept_55 I_117 (I_117 62 l2_91.toNatClampNeg)) (fun (r_120 : Int32) (I_121 : am_IT) => if am_ix l2_91 20 = true then (am_let (up2 I_121 62 l2_91.toNatClampNeg r_120) (fun (I_123 : am_IT) => am_let (l2_91 + (1 : Int32)) (fun (l2_124 : Int32) => some (.inl (l2_124, I_123))))) else none)) else none)) else none)) else none)) else none)) else none)) else none)) else none))) ((0 : Int32), I_90)) (fun (I_93 : am_IT) => am_b1 (am_it am_fu (am_u2 (fun (l2_125 : Int32) (I_126 : am_IT) => if (9 : Int32) ≤ l2_125 then (some (.inr (I_126))) else (if am_ix l2_125 9 = true then (am_b2 (F_X12_kept_55 I_126 (I_126 70 l2_125.toNatClampNeg)) (fun (r_136 : Int32) (I_137 : am_IT) => if am_ix l2_125 9 = true then (am_let (up2 I_137 70 l2_125.toNatClampNeg r_136) (fun (I_139 : am_IT) => if am_ix l2_125 9 = true then (am_b2 (F_X12_kept_55 I_139 (I_139 71 l2_125.toNatClampNeg)) (fun (r_142 : Int32) (I_143 : am_IT) => if am_ix l2_125 9 = true then (am_let (up2 I_143 71 l2_125.toNatClampNeg r_142) (fun (I_145 : am_IT) => am_let (l2_125 + (1 : Int32)) (fun (l2_146 : Int32) => some (.inl (l2_146, I_145))))) else none)) else none)) else none)) else none))) ((0 : Int32), I_93)) (fun (I_127 : am_IT) => am_b1 (F_X12_keepsPeople_55 I_127) (fun (I_148 : am_IT) => am_b1 (F_X12_keepsRule_55 I_148) (fun (I_150 : am_IT) => some ((1 : Int32), I_150))))))))))))))))))))))) else none))
set_option maxRecDepth 100000 in
set_option maxHeartbeats 4000000 in
theorem s_X12_image_55 {l : Launch} {d N : Nat} {P : am_PT} (hPl : am_Pl 94 N P) (hd : 3 ≤ d) {I : am_IT} {a1 : Int32} {r : Int32} {I2 : am_IT} (hF : F_X12_image_55 I a1 = some (r, I2)) : am_C l d 0 0 mX12_image [.ref 55, .int a1] N P I (am_qz r N P I2) := by
  refine am_body (sc := am_sc0) (n := 1) (by decide +kernel) (by decide) rfl ?_
  change G am_sc0 l d 0 0 mX12_image (am_qz r N P I2) 0 [.ref 55, .int a1, .null] [] N P I 0 0
  unfold F_X12_image_55 at hF
  refine g_aload_n (pc := 0) dX12_image_0 rfl rfl ?_
  refine g_iconst (pc := 1) (v := (0 : Int32)) dX12_image_1 rfl ?_
  obtain ⟨I_1, e_I_1, hF⟩ := am_let_el hF
  refine n_putI (pc := 2) (k := 55) e_I_1 kf_X12_134 rfl rfl (hPl.lt (by decide)) dX12_image_2 ?_
  refine g_iload_n (pc := 5) dX12_image_5 rfl rfl ?_
  refine g_if_ne (pc := 6) (tgt := 18) dX12_image_6 rfl (fun c_2 => ?_) (fun c_2 => ?_)
  · replace hF := am_no c_2 hF
    refine g_aload_n (pc := 18) dX12_image_18 rfl rfl ?_
    refine g_iload_n (pc := 19) dX12_image_19 rfl rfl ?_
    obtain ⟨c_3, hF⟩ := am_gd hF
    obtain ⟨I_4, e_I_4, hF⟩ := am_let_el hF
    refine n_putZ (pc := 20) (k := 55) e_I_4 kf_X12_384 rfl rfl (hPl.lt (by decide)) c_3 dX12_image_20 ?_
    refine g_aload_n (pc := 23) dX12_image_23 rfl rfl ?_
    refine g_iconst (pc := 24) (v := (1 : Int32)) dX12_image_24 rfl ?_
    obtain ⟨I_5, e_I_5, hF⟩ := am_let_el hF
    refine n_putZ (pc := 25) (k := 55) e_I_5 kf_X12_391 rfl rfl (hPl.lt (by decide)) (Or.inr rfl) dX12_image_25 ?_
    refine g_aload_n (pc := 28) dX12_image_28 rfl rfl ?_
    refine g_iconst (pc := 29) (v := (0 : Int32)) dX12_image_29 rfl ?_
    obtain ⟨I_6, e_I_6, hF⟩ := am_let_el hF
    refine n_putI (pc := 30) (k := 55) e_I_6 kf_X12_381 rfl rfl (hPl.lt (by decide)) dX12_image_30 ?_
    refine g_aload_n (pc := 33) dX12_image_33 rfl rfl ?_
    refine g_aload_n (pc := 34) dX12_image_34 rfl rfl ?_
    refine g_aload_n (pc := 35) dX12_image_35 rfl rfl ?_
    refine g_getI (pc := 36) (k := 55) kf_X12_137.r rfl rfl (hPl.lt (by decide)) dX12_image_36 ?_
    obtain ⟨r_8, I_9, h_7, hF⟩ := am_b2_el hF
    refine g_cVi (pc := 39) (k := 55) (As := [.int (I_6 55 1)]) (st := [.ref 55]) ky_X12_kept kl_X12_388 (s_X12_kept_55 (d := 1) (hPl) (Nat.le_refl _) h_7) rfl rfl rfl (hPl.lt (by decide)) (Nat.le_trans (by decide) hd) (Nat.le_of_ble_eq_true rfl) (Nat.le_refl _) (Nat.le_refl _) dX12_image_39 ?_
    obtain ⟨I_10, e_I_10, hF⟩ := am_let_el hF
    refine n_putI (pc := 42) (k := 55) e_I_10 kf_X12_137 rfl rfl (hPl.lt (by decide)) dX12_image_42 ?_
    refine g_aload_n (pc := 45) dX12_image_45 rfl rfl ?_
    refine g_aload_n (pc := 46) dX12_image_46 rfl rfl ?_
    refine g_aload_n (pc := 47) dX12_image_47 rfl rfl ?_
    refine g_getI (pc := 48) (k := 55) kf_X12_7.r rfl rfl (hPl.lt (by decide)) dX12_image_48 ?_
    obtain ⟨r_12, I_13, h_11, hF⟩ := am_b2_el hF
    refine g_cVi (pc := 51) (k := 55) (As := [.int (I_10 55 2)]) (st := [.ref 55]) ky_X12_kept kl_X12_388 (s_X12_kept_55 (d := 1) (hPl) (Nat.le_refl _) h_11) rfl rfl rfl (hPl.lt (by decide)) (Nat.le_trans (by decide) hd) (Nat.le_of_ble_eq_true rfl) (Nat.le_refl _) (Nat.le_refl _) dX12_image_51 ?_
    obtain ⟨I_14, e_I_14, hF⟩ := am_let_el hF
    refine n_putI (pc := 54) (k := 55) e_I_14 kf_X12_7 rfl rfl (hPl.lt (by decide)) dX12_image_54 ?_
    refine g_aload_n (pc := 57) dX12_image_57 rfl rfl ?_
    refine g_aload_n (pc := 58) dX12_image_58 rfl rfl ?_
    refine g_aload_n (pc := 59) dX12_image_59 rfl rfl ?_
    refine g_getI (pc := 60) (k := 55) kf_X12_155.r rfl rfl (hPl.lt (by decide)) dX12_image_60 ?_
    obtain ⟨r_16, I_17, h_15, hF⟩ := am_b2_el hF
    refine g_cVi (pc := 63) (k := 55) (As := [.int (I_14 55 13)]) (st := [.ref 55]) ky_X12_kept kl_X12_388 (s_X12_kept_55 (d := 1) (hPl) (Nat.le_refl _) h_15) rfl rfl rfl (hPl.lt (by decide)) (Nat.le_trans (by decide) hd) (Nat.le_of_ble_eq_true rfl) (Nat.le_refl _) (Nat.le_refl _) dX12_image_63 ?_
    obtain ⟨I_18, e_I_18, hF⟩ := am_let_el hF
    refine n_putI (pc := 66) (k := 55) e_I_18 kf_X12_155 rfl rfl (hPl.lt (by decide)) dX12_image_66 ?_
    refine g_aload_n (pc := 69) dX12_image_69 rfl rfl ?_
    refine g_aload_n (pc := 70) dX12_image_70 rfl rfl ?_
    refine g_aload_n (pc := 71) dX12_image_71 rfl rfl ?_
    refine g_getI (pc := 72) (k := 55) kf_X12_142.r rfl rfl (hPl.lt (by decide)) dX12_image_72 ?_
    obtain ⟨r_20, I_21, h_19, hF⟩ := am_b2_el hF
    refine g_cVi (pc := 75) (k := 55) (As := [.int (I_18 55 4)]) (st := [.ref 55]) ky_X12_kept kl_X12_388 (s_X12_kept_55 (d := 1) (hPl) (Nat.le_refl _) h_19) rfl rfl rfl (hPl.lt (by decide)) (Nat.le_trans (by decide) hd) (Nat.le_of_ble_eq_true rfl) (Nat.le_refl _) (Nat.le_refl _) dX12_image_75 ?_
    obtain ⟨I_22, e_I_22, hF⟩ := am_let_el hF
    refine n_putI (pc := 78) (k := 55) e_I_22 kf_X12_142 rfl rfl (hPl.lt (by decide)) dX12_image_78 ?_
    refine g_iconst (pc := 81) (v := (0 : Int32)) dX12_image_81 rfl ?_
    refine n_istore_n (pc := 82) (ls2 := [.ref 55, .int a1, .int (0 : Int32)]) rfl rfl dX12_image_82 rfl (Nat.le_of_ble_eq_true rfl) ?_
    obtain ⟨I_25, hL_29, hF⟩ := am_b1_el hF
    have hX_26 : G am_sc0 l d 0 0 mX12_image (am_qz r N P I2) 115 [.ref 55, .int a1, .null] [] N P I_25 0 0 := by
      refine g_iconst (pc := 115) (v := (0 : Int32)) dX12_image_115 rfl ?_
      refine n_istore_n (pc := 116) (ls2 := [.ref 55, .int a1, .int (0 : Int32)]) rfl rfl dX12_image_116 rfl (Nat.le_of_ble_eq_true rfl) ?_
      obtain ⟨I_41, hL_45, hF⟩ := am_b1_el hF
      have hX_42 : G am_sc0 l d 0 0 mX12_image (am_qz r N P I2) 144 [.ref 55, .int a1, .null] [] N P I_41 0 0 := by
        refine g_iconst (pc := 144) (v := (0 : Int32)) dX12_image_144 rfl ?_
        refine n_istore_n (pc := 145) (ls2 := [.ref 55, .int a1, .int (0 : Int32)]) rfl rfl dX12_image_145 rfl (Nat.le_of_ble_eq_true rfl) ?_
        obtain ⟨I_57, hL_61, hF⟩ := am_b1_el hF
        have hX_58 : G am_sc0 l d 0 0 mX12_image (am_qz r N P I2) 174 [.ref 55, .int a1, .null] [] N P I_57 0 0 := by
          refine g_iconst (pc := 174) (v := (0 : Int32)) dX12_image_174 rfl ?_
          refine n_istore_n (pc := 175) (ls2 := [.ref 55, .int a1, .int (0 : Int32)]) rfl rfl dX12_image_175 rfl (Nat.le_of_ble_eq_true rfl) ?_
          obtain ⟨I_73, hL_77, hF⟩ := am_b1_el hF
          have hX_74 : G am_sc0 l d 0 0 mX12_image (am_qz r N P I2) 204 [.ref 55, .int a1, .null] [] N P I_73 0 0 := by
            refine g_aload_n (pc := 204) dX12_image_204 rfl rfl ?_
            refine g_aload_n (pc := 205) dX12_image_205 rfl rfl ?_
            refine g_aload_n (pc := 206) dX12_image_206 rfl rfl ?_
            refine g_getI (pc := 207) (k := 55) kf_X12_152.r rfl rfl (hPl.lt (by decide)) dX12_image_207 ?_
            obtain ⟨r_88, I_89, h_87, hF⟩ := am_b2_el hF
            refine g_cVi (pc := 210) (k := 55) (As := [.int (I_73 55 8)]) (st := [.ref 55]) ky_X12_kept kl_X12_388 (s_X12_kept_55 (d := 1) (hPl) (Nat.le_refl _) h_87) rfl rfl rfl (hPl.lt (by decide)) (Nat.le_trans (by decide) hd) (Nat.le_of_ble_eq_true rfl) (Nat.le_refl _) (Nat.le_refl _) dX12_image_210 ?_
            obtain ⟨I_90, e_I_90, hF⟩ := am_let_el hF
            refine n_putI (pc := 213) (k := 55) e_I_90 kf_X12_152 rfl rfl (hPl.lt (by decide)) dX12_image_213 ?_
            refine g_iconst (pc := 216) (v := (0 : Int32)) dX12_image_216 rfl ?_
            refine n_istore_n (pc := 217) (ls2 := [.ref 55, .int a1, .int (0 : Int32)]) rfl rfl dX12_image_217 rfl (Nat.le_of_ble_eq_true rfl) ?_
            obtain ⟨I_93, hL_97, hF⟩ := am_b1_el hF
            have hX_94 : G am_sc0 l d 0 0 mX12_image (am_qz r N P I2) 294 [.ref 55, .int a1, .null] [] N P I_93 0 0 := by
              refine g_iconst (pc := 294) (v := (0 : Int32)) dX12_image_294 rfl ?_
              refine n_istore_n (pc := 295) (ls2 := [.ref 55, .int a1, .int (0 : Int32)]) rfl rfl dX12_image_295 rfl (Nat.le_of_ble_eq_true rfl) ?_
              obtain ⟨I_127, hL_131, hF⟩ := am_b1_el hF
              have hX_128 : G am_sc0 l d 0 0 mX12_image (am_qz r N P I2) 340 [.ref 55, .int a1, .null] [] N P I_127 0 0 := by
                refine g_aload_n (pc := 340) dX12_image_340 rfl rfl ?_
                obtain ⟨I_148, h_147, hF⟩ := am_b1_el hF
                refine g_cVv (pc := 341) (k := 55) (As := []) (st := []) ky_X12_keepsPeople kl_X12_394 (s_X12_keepsPeople_55 (d := 2) (hPl) (Nat.le_refl _) h_147) rfl rfl rfl (hPl.lt (by decide)) (Nat.le_trans (by decide) hd) (Nat.le_of_ble_eq_true rfl) (Nat.le_refl _) (Nat.le_refl _) dX12_image_341 ?_
                refine g_aload_n (pc := 344) dX12_image_344 rfl rfl ?_
                obtain ⟨I_150, h_149, hF⟩ := am_b1_el hF
                refine g_cVv (pc := 345) (k := 55) (As := []) (st := []) ky_X12_keepsRule kl_X12_397 (s_X12_keepsRule_55 (d := 2) (hPl) (Nat.le_refl _) h_149) rfl rfl rfl (hPl.lt (by decide)) (Nat.le_trans (by decide) hd) (Nat.le_of_ble_eq_true rfl) (Nat.le_refl _) (Nat.le_refl _) dX12_image_345 ?_
                refine g_iconst (pc := 348) (v := (1 : Int32)) dX12_image_348 rfl ?_
                cases hF
                exact g_zret (pc := 349) rfl (Or.inr rfl) (Nat.le_refl _) (Nat.le_refl _) dX12_image_349 ⟨(Or.inr rfl), rfl, rfl, rfl, rfl⟩
              clear hF
              have hC := am_loop (C := fun x => G am_sc0 l d 0 0 mX12_image (am_qz r N P I2) 296 [.ref 55, .int a1, .int x.1] [] N P x.2 0 0) (by
                rintro ⟨l2_125, I_126⟩ rr hF ih_129 hE_130
                replace hF := am_u2_ap hF
                change G am_sc0 l d 0 0 mX12_image (am_qz r N P I2) 296 [.ref 55, .int a1, .int l2_125] [] N P I_126 0 0
                refine g_iload_n (pc := 296) dX12_image_296 rfl rfl ?_
                refine g_bipush (pc := 297) (v := (9 : Int32)) dX12_image_297 rfl ?_
                refine g_icmp_ge (pc := 299) (tgt := 340) dX12_image_299 rfl (fun c_133 => ?_) (fun c_133 => ?_)
                · replace hF := am_yes c_133 hF
                  cases hF
                  cases hE_130 _ rfl
                  exact g_weak hX_128 ⟨Or.inr rfl, Or.inr rfl, Or.inl rfl, trivial⟩
                · replace hF := am_no c_133 hF
                  refine g_aload_n (pc := 302) dX12_image_302 rfl rfl ?_
                  refine g_getR (pc := 303) (k := 55) (r := 70) kf_X12_56.r rfl rfl (hPl.get (by decide) rfl) (hPl.lt (by decide)) dX12_image_303 ?_
                  refine g_iload_n (pc := 306) dX12_image_306 rfl rfl ?_
                  refine g_aload_n (pc := 307) dX12_image_307 rfl rfl ?_
                  refine g_aload_n (pc := 308) dX12_image_308 rfl rfl ?_
                  refine g_getR (pc := 309) (k := 55) (r := 70) kf_X12_56.r rfl rfl (hPl.get (by decide) rfl) (hPl.lt (by decide)) dX12_image_309 ?_
                  refine g_iload_n (pc := 312) dX12_image_312 rfl rfl ?_
                  obtain ⟨c_134, hF⟩ := am_gd hF
                  refine g_iald (pc := 313) (k := 70) rfl (hPl.lt (by decide)) (am_ix_use c_134) dX12_image_313 ?_
                  obtain ⟨r_136, I_137, h_135, hF⟩ := am_b2_el hF
                  refine g_cVi (pc := 314) (k := 55) (As := [.int (I_126 70 l2_125.toNatClampNeg)]) (st := [.int l2_125, .ref 70]) ky_X12_kept kl_X12_388 (s_X12_kept_55 (d := 1) (hPl) (Nat.le_refl _) h_135) rfl rfl rfl (hPl.lt (by decide)) (Nat.le_trans (by decide) hd) (Nat.le_of_ble_eq_true rfl) (Nat.le_refl _) (Nat.le_refl _) dX12_image_314 ?_
                  obtain ⟨c_138, hF⟩ := am_gd hF
                  obtain ⟨I_139, e_I_139, hF⟩ := am_let_el hF
                  refine n_iast (pc := 317) (k := 70) e_I_139 rfl (hPl.lt (by decide)) (am_ix_use c_138) dX12_image_317 ?_
                  refine g_aload_n (pc := 318) dX12_image_318 rfl rfl ?_
                  refine g_getR (pc := 319) (k := 55) (r := 71) kf_X12_59.r rfl rfl (hPl.get (by decide) rfl) (hPl.lt (by decide)) dX12_image_319 ?_
                  refine g_iload_n (pc := 322) dX12_image_322 rfl rfl ?_
                  refine g_aload_n (pc := 323) dX12_image_323 rfl rfl ?_
                  refine g_aload_n (pc := 324) dX12_image_324 rfl rfl ?_
                  refine g_getR (pc := 325) (k := 55) (r := 71) kf_X12_59.r rfl rfl (hPl.get (by decide) rfl) (hPl.lt (by decide)) dX12_image_325 ?_
                  refine g_iload_n (pc := 328) dX12_image_328 rfl rfl ?_
                  obtain ⟨c_140, hF⟩ := am_gd hF
                  refine g_iald (pc := 329) (k := 71) rfl (hPl.lt (by decide)) (am_ix_use c_140) dX12_image_329 ?_
                  obtain ⟨r_142, I_143, h_141, hF⟩ := am_b2_el hF
                  refine g_cVi (pc := 330) (k := 55) (As := [.int (I_139 71 l2_125.toNatClampNeg)]) (st := [.int l2_125, .ref 71]) ky_X12_kept kl_X12_388 (s_X12_kept_55 (d := 1) (hPl) (Nat.le_refl _) h_141) rfl rfl rfl (hPl.lt (by decide)) (Nat.le_trans (by decide) hd) (Nat.le_of_ble_eq_true rfl) (Nat.le_refl _) (Nat.le_refl _) dX12_image_330 ?_
                  obtain ⟨c_144, hF⟩ := am_gd hF
                  obtain ⟨I_145, e_I_145, hF⟩ := am_let_el hF
                  refine n_iast (pc := 333) (k := 71) e_I_145 rfl (hPl.lt (by decide)) (am_ix_use c_144) dX12_image_333 ?_
                  obtain ⟨l2_146, e_l2_146, hF⟩ := am_let_el hF
                  refine n_iinc (pc := 334) (ls2 := [.ref 55, .int a1, .int l2_146]) e_l2_146 rfl rfl rfl dX12_image_334 (Nat.le_of_ble_eq_true rfl) ?_
                  refine g_goto (pc := 337) (tgt := 296) dX12_image_337 rfl ?_
                  cases hF
                  exact ih_129 (l2_146, I_145) rfl
                ) _ _ hL_131
              exact hC
            clear hF
            have hC := am_loop (C := fun x => G am_sc0 l d 0 0 mX12_image (am_qz r N P I2) 218 [.ref 55, .int a1, .int x.1] [] N P x.2 0 0) (by
              rintro ⟨l2_91, I_92⟩ rr hF ih_95 hE_96
              replace hF := am_u2_ap hF
              change G am_sc0 l d 0 0 mX12_image (am_qz r N P I2) 218 [.ref 55, .int a1, .int l2_91] [] N P I_92 0 0
              refine g_iload_n (pc := 218) dX12_image_218 rfl rfl ?_
              refine g_bipush (pc := 219) (v := (20 : Int32)) dX12_image_219 rfl ?_
              refine g_icmp_ge (pc := 221) (tgt := 294) dX12_image_221 rfl (fun c_99 => ?_) (fun c_99 => ?_)
              · replace hF := am_yes c_99 hF
                cases hF
                cases hE_96 _ rfl
                exact g_weak hX_94 ⟨Or.inr rfl, Or.inr rfl, Or.inl rfl, trivial⟩
              · replace hF := am_no c_99 hF
                refine g_aload_n (pc := 224) dX12_image_224 rfl rfl ?_
                refine g_getR (pc := 225) (k := 55) (r := 59) kf_X12_23.r rfl rfl (hPl.get (by decide) rfl) (hPl.lt (by decide)) dX12_image_225 ?_
                refine g_iload_n (pc := 228) dX12_image_228 rfl rfl ?_
                refine g_aload_n (pc := 229) dX12_image_229 rfl rfl ?_
                refine g_aload_n (pc := 230) dX12_image_230 rfl rfl ?_
                refine g_getR (pc := 231) (k := 55) (r := 59) kf_X12_23.r rfl rfl (hPl.get (by decide) rfl) (hPl.lt (by decide)) dX12_image_231 ?_
                refine g_iload_n (pc := 234) dX12_image_234 rfl rfl ?_
                obtain ⟨c_100, hF⟩ := am_gd hF
                refine g_iald (pc := 235) (k := 59) rfl (hPl.lt (by decide)) (am_ix_use c_100) dX12_image_235 ?_
                obtain ⟨r_102, I_103, h_101, hF⟩ := am_b2_el hF
                refine g_cVi (pc := 236) (k := 55) (As := [.int (I_92 59 l2_91.toNatClampNeg)]) (st := [.int l2_91, .ref 59]) ky_X12_kept kl_X12_388 (s_X12_kept_55 (d := 1) (hPl) (Nat.le_refl _) h_101) rfl rfl rfl (hPl.lt (by decide)) (Nat.le_trans (by decide) hd) (Nat.le_of_ble_eq_true rfl) (Nat.le_refl _) (Nat.le_refl _) dX12_image_236 ?_
                obtain ⟨c_104, hF⟩ := am_gd hF
                obtain ⟨I_105, e_I_105, hF⟩ := am_let_el hF
                refine n_iast (pc := 239) (k := 59) e_I_105 rfl (hPl.lt (by decide)) (am_ix_use c_104) dX12_image_239 ?_
                refine g_aload_n (pc := 240) dX12_image_240 rfl rfl ?_
                refine g_getR (pc := 241) (k := 55) (r := 60) kf_X12_26.r rfl rfl (hPl.get (by decide) rfl) (hPl.lt (by decide)) dX12_image_241 ?_
                refine g_iload_n (pc := 244) dX12_image_244 rfl rfl ?_
                refine g_aload_n (pc := 245) dX12_image_245 rfl rfl ?_
                refine g_aload_n (pc := 246) dX12_image_246 rfl rfl ?_
                refine g_getR (pc := 247) (k := 55) (r := 60) kf_X12_26.r rfl rfl (hPl.get (by decide) rfl) (hPl.lt (by decide)) dX12_image_247 ?_
                refine g_iload_n (pc := 250) dX12_image_250 rfl rfl ?_
                obtain ⟨c_106, hF⟩ := am_gd hF
                refine g_iald (pc := 251) (k := 60) rfl (hPl.lt (by decide)) (am_ix_use c_106) dX12_image_251 ?_
                obtain ⟨r_108, I_109, h_107, hF⟩ := am_b2_el hF
                refine g_cVi (pc := 252) (k := 55) (As := [.int (I_105 60 l2_91.toNatClampNeg)]) (st := [.int l2_91, .ref 60]) ky_X12_kept kl_X12_388 (s_X12_kept_55 (d := 1) (hPl) (Nat.le_refl _) h_107) rfl rfl rfl (hPl.lt (by decide)) (Nat.le_trans (by decide) hd) (Nat.le_of_ble_eq_true rfl) (Nat.le_refl _) (Nat.le_refl _) dX12_image_252 ?_
                obtain ⟨c_110, hF⟩ := am_gd hF
                obtain ⟨I_111, e_I_111, hF⟩ := am_let_el hF
                refine n_iast (pc := 255) (k := 60) e_I_111 rfl (hPl.lt (by decide)) (am_ix_use c_110) dX12_image_255 ?_
                refine g_aload_n (pc := 256) dX12_image_256 rfl rfl ?_
                refine g_getR (pc := 257) (k := 55) (r := 61) kf_X12_29.r rfl rfl (hPl.get (by decide) rfl) (hPl.lt (by decide)) dX12_image_257 ?_
                refine g_iload_n (pc := 260) dX12_image_260 rfl rfl ?_
                refine g_aload_n (pc := 261) dX12_image_261 rfl rfl ?_
                refine g_aload_n (pc := 262) dX12_image_262 rfl rfl ?_
                refine g_getR (pc := 263) (k := 55) (r := 61) kf_X12_29.r rfl rfl (hPl.get (by decide) rfl) (hPl.lt (by decide)) dX12_image_263 ?_
                refine g_iload_n (pc := 266) dX12_image_266 rfl rfl ?_
                obtain ⟨c_112, hF⟩ := am_gd hF
                refine g_iald (pc := 267) (k := 61) rfl (hPl.lt (by decide)) (am_ix_use c_112) dX12_image_267 ?_
                obtain ⟨r_114, I_115, h_113, hF⟩ := am_b2_el hF
                refine g_cVi (pc := 268) (k := 55) (As := [.int (I_111 61 l2_91.toNatClampNeg)]) (st := [.int l2_91, .ref 61]) ky_X12_kept kl_X12_388 (s_X12_kept_55 (d := 1) (hPl) (Nat.le_refl _) h_113) rfl rfl rfl (hPl.lt (by decide)) (Nat.le_trans (by decide) hd) (Nat.le_of_ble_eq_true rfl) (Nat.le_refl _) (Nat.le_refl _) dX12_image_268 ?_
                obtain ⟨c_116, hF⟩ := am_gd hF
                obtain ⟨I_117, e_I_117, hF⟩ := am_let_el hF
                refine n_iast (pc := 271) (k := 61) e_I_117 rfl (hPl.lt (by decide)) (am_ix_use c_116) dX12_image_271 ?_
                refine g_aload_n (pc := 272) dX12_image_272 rfl rfl ?_
                refine g_getR (pc := 273) (k := 55) (r := 62) kf_X12_32.r rfl rfl (hPl.get (by decide) rfl) (hPl.lt (by decide)) dX12_image_273 ?_
                refine g_iload_n (pc := 276) dX12_image_276 rfl rfl ?_
                refine g_aload_n (pc := 277) dX12_image_277 rfl rfl ?_
                refine g_aload_n (pc := 278) dX12_image_278 rfl rfl ?_
                refine g_getR (pc := 279) (k := 55) (r := 62) kf_X12_32.r rfl rfl (hPl.get (by decide) rfl) (hPl.lt (by decide)) dX12_image_279 ?_
                refine g_iload_n (pc := 282) dX12_image_282 rfl rfl ?_
                obtain ⟨c_118, hF⟩ := am_gd hF
                refine g_iald (pc := 283) (k := 62) rfl (hPl.lt (by decide)) (am_ix_use c_118) dX12_image_283 ?_
                obtain ⟨r_120, I_121, h_119, hF⟩ := am_b2_el hF
                refine g_cVi (pc := 284) (k := 55) (As := [.int (I_117 62 l2_91.toNatClampNeg)]) (st := [.int l2_91, .ref 62]) ky_X12_kept kl_X12_388 (s_X12_kept_55 (d := 1) (hPl) (Nat.le_refl _) h_119) rfl rfl rfl (hPl.lt (by decide)) (Nat.le_trans (by decide) hd) (Nat.le_of_ble_eq_true rfl) (Nat.le_refl _) (Nat.le_refl _) dX12_image_284 ?_
                obtain ⟨c_122, hF⟩ := am_gd hF
                obtain ⟨I_123, e_I_123, hF⟩ := am_let_el hF
                refine n_iast (pc := 287) (k := 62) e_I_123 rfl (hPl.lt (by decide)) (am_ix_use c_122) dX12_image_287 ?_
                obtain ⟨l2_124, e_l2_124, hF⟩ := am_let_el hF
                refine n_iinc (pc := 288) (ls2 := [.ref 55, .int a1, .int l2_124]) e_l2_124 rfl rfl rfl dX12_image_288 (Nat.le_of_ble_eq_true rfl) ?_
                refine g_goto (pc := 291) (tgt := 218) dX12_image_291 rfl ?_
                cases hF
                exact ih_95 (l2_124, I_123) rfl
              ) _ _ hL_97
            exact hC
          clear hF
          have hC := am_loop (C := fun x => G am_sc0 l d 0 0 mX12_image (am_qz r N P I2) 176 [.ref 55, .int a1, .int x.1] [] N P x.2 0 0) (by
            rintro ⟨l2_71, I_72⟩ rr hF ih_75 hE_76
            replace hF := am_u2_ap hF
            change G am_sc0 l d 0 0 mX12_image (am_qz r N P I2) 176 [.ref 55, .int a1, .int l2_71] [] N P I_72 0 0
            refine g_iload_n (pc := 176) dX12_image_176 rfl rfl ?_
            refine g_bipush (pc := 177) (v := (49 : Int32)) dX12_image_177 rfl ?_
            refine g_icmp_ge (pc := 179) (tgt := 204) dX12_image_179 rfl (fun c_79 => ?_) (fun c_79 => ?_)
            · replace hF := am_yes c_79 hF
              cases hF
              cases hE_76 _ rfl
              exact g_weak hX_74 ⟨Or.inr rfl, Or.inr rfl, Or.inl rfl, trivial⟩
            · replace hF := am_no c_79 hF
              refine g_aload_n (pc := 182) dX12_image_182 rfl rfl ?_
              refine g_getR (pc := 183) (k := 55) (r := 66) kf_X12_44.r rfl rfl (hPl.get (by decide) rfl) (hPl.lt (by decide)) dX12_image_183 ?_
              refine g_iload_n (pc := 186) dX12_image_186 rfl rfl ?_
              refine g_aload_n (pc := 187) dX12_image_187 rfl rfl ?_
              refine g_aload_n (pc := 188) dX12_image_188 rfl rfl ?_
              refine g_getR (pc := 189) (k := 55) (r := 66) kf_X12_44.r rfl rfl (hPl.get (by decide) rfl) (hPl.lt (by decide)) dX12_image_189 ?_
              refine g_iload_n (pc := 192) dX12_image_192 rfl rfl ?_
              obtain ⟨c_80, hF⟩ := am_gd hF
              refine g_iald (pc := 193) (k := 66) rfl (hPl.lt (by decide)) (am_ix_use c_80) dX12_image_193 ?_
              obtain ⟨r_82, I_83, h_81, hF⟩ := am_b2_el hF
              refine g_cVi (pc := 194) (k := 55) (As := [.int (I_72 66 l2_71.toNatClampNeg)]) (st := [.int l2_71, .ref 66]) ky_X12_kept kl_X12_388 (s_X12_kept_55 (d := 1) (hPl) (Nat.le_refl _) h_81) rfl rfl rfl (hPl.lt (by decide)) (Nat.le_trans (by decide) hd) (Nat.le_of_ble_eq_true rfl) (Nat.le_refl _) (Nat.le_refl _) dX12_image_194 ?_
              obtain ⟨c_84, hF⟩ := am_gd hF
              obtain ⟨I_85, e_I_85, hF⟩ := am_let_el hF
              refine n_iast (pc := 197) (k := 66) e_I_85 rfl (hPl.lt (by decide)) (am_ix_use c_84) dX12_image_197 ?_
              obtain ⟨l2_86, e_l2_86, hF⟩ := am_let_el hF
              refine n_iinc (pc := 198) (ls2 := [.ref 55, .int a1, .int l2_86]) e_l2_86 rfl rfl rfl dX12_image_198 (Nat.le_of_ble_eq_true rfl) ?_
              refine g_goto (pc := 201) (tgt := 176) dX12_image_201 rfl ?_
              cases hF
              exact ih_75 (l2_86, I_85) rfl
            ) _ _ hL_77
          exact hC
        clear hF
        have hC := am_loop (C := fun x => G am_sc0 l d 0 0 mX12_image (am_qz r N P I2) 146 [.ref 55, .int a1, .int x.1] [] N P x.2 0 0) (by
          rintro ⟨l2_55, I_56⟩ rr hF ih_59 hE_60
          replace hF := am_u2_ap hF
          change G am_sc0 l d 0 0 mX12_image (am_qz r N P I2) 146 [.ref 55, .int a1, .int l2_55] [] N P I_56 0 0
          refine g_iload_n (pc := 146) dX12_image_146 rfl rfl ?_
          refine g_bipush (pc := 147) (v := (56 : Int32)) dX12_image_147 rfl ?_
          refine g_icmp_ge (pc := 149) (tgt := 174) dX12_image_149 rfl (fun c_63 => ?_) (fun c_63 => ?_)
          · replace hF := am_yes c_63 hF
            cases hF
            cases hE_60 _ rfl
            exact g_weak hX_58 ⟨Or.inr rfl, Or.inr rfl, Or.inl rfl, trivial⟩
          · replace hF := am_no c_63 hF
            refine g_aload_n (pc := 152) dX12_image_152 rfl rfl ?_
            refine g_getR (pc := 153) (k := 55) (r := 58) kf_X12_20.r rfl rfl (hPl.get (by decide) rfl) (hPl.lt (by decide)) dX12_image_153 ?_
            refine g_iload_n (pc := 156) dX12_image_156 rfl rfl ?_
            refine g_aload_n (pc := 157) dX12_image_157 rfl rfl ?_
            refine g_aload_n (pc := 158) dX12_image_158 rfl rfl ?_
            refine g_getR (pc := 159) (k := 55) (r := 58) kf_X12_20.r rfl rfl (hPl.get (by decide) rfl) (hPl.lt (by decide)) dX12_image_159 ?_
            refine g_iload_n (pc := 162) dX12_image_162 rfl rfl ?_
            obtain ⟨c_64, hF⟩ := am_gd hF
            refine g_iald (pc := 163) (k := 58) rfl (hPl.lt (by decide)) (am_ix_use c_64) dX12_image_163 ?_
            obtain ⟨r_66, I_67, h_65, hF⟩ := am_b2_el hF
            refine g_cVi (pc := 164) (k := 55) (As := [.int (I_56 58 l2_55.toNatClampNeg)]) (st := [.int l2_55, .ref 58]) ky_X12_kept kl_X12_388 (s_X12_kept_55 (d := 1) (hPl) (Nat.le_refl _) h_65) rfl rfl rfl (hPl.lt (by decide)) (Nat.le_trans (by decide) hd) (Nat.le_of_ble_eq_true rfl) (Nat.le_refl _) (Nat.le_refl _) dX12_image_164 ?_
            obtain ⟨c_68, hF⟩ := am_gd hF
            obtain ⟨I_69, e_I_69, hF⟩ := am_let_el hF
            refine n_iast (pc := 167) (k := 58) e_I_69 rfl (hPl.lt (by decide)) (am_ix_use c_68) dX12_image_167 ?_
            obtain ⟨l2_70, e_l2_70, hF⟩ := am_let_el hF
            refine n_iinc (pc := 168) (ls2 := [.ref 55, .int a1, .int l2_70]) e_l2_70 rfl rfl rfl dX12_image_168 (Nat.le_of_ble_eq_true rfl) ?_
            refine g_goto (pc := 171) (tgt := 146) dX12_image_171 rfl ?_
            cases hF
            exact ih_59 (l2_70, I_69) rfl
          ) _ _ hL_61
        exact hC
      clear hF
      have hC := am_loop (C := fun x => G am_sc0 l d 0 0 mX12_image (am_qz r N P I2) 117 [.ref 55, .int a1, .int x.1] [] N P x.2 0 0) (by
        rintro ⟨l2_39, I_40⟩ rr hF ih_43 hE_44
        replace hF := am_u2_ap hF
        change G am_sc0 l d 0 0 mX12_image (am_qz r N P I2) 117 [.ref 55, .int a1, .int l2_39] [] N P I_40 0 0
        refine g_iload_n (pc := 117) dX12_image_117 rfl rfl ?_
        refine g_iconst (pc := 118) (v := (4 : Int32)) dX12_image_118 rfl ?_
        refine g_icmp_ge (pc := 119) (tgt := 144) dX12_image_119 rfl (fun c_47 => ?_) (fun c_47 => ?_)
        · replace hF := am_yes c_47 hF
          cases hF
          cases hE_44 _ rfl
          exact g_weak hX_42 ⟨Or.inr rfl, Or.inr rfl, Or.inl rfl, trivial⟩
        · replace hF := am_no c_47 hF
          refine g_aload_n (pc := 122) dX12_image_122 rfl rfl ?_
          refine g_getR (pc := 123) (k := 55) (r := 56) kf_X12_13.r rfl rfl (hPl.get (by decide) rfl) (hPl.lt (by decide)) dX12_image_123 ?_
          refine g_iload_n (pc := 126) dX12_image_126 rfl rfl ?_
          refine g_aload_n (pc := 127) dX12_image_127 rfl rfl ?_
          refine g_aload_n (pc := 128) dX12_image_128 rfl rfl ?_
          refine g_getR (pc := 129) (k := 55) (r := 56) kf_X12_13.r rfl rfl (hPl.get (by decide) rfl) (hPl.lt (by decide)) dX12_image_129 ?_
          refine g_iload_n (pc := 132) dX12_image_132 rfl rfl ?_
          obtain ⟨c_48, hF⟩ := am_gd hF
          refine g_iald (pc := 133) (k := 56) rfl (hPl.lt (by decide)) (am_ix_use c_48) dX12_image_133 ?_
          obtain ⟨r_50, I_51, h_49, hF⟩ := am_b2_el hF
          refine g_cVi (pc := 134) (k := 55) (As := [.int (I_40 56 l2_39.toNatClampNeg)]) (st := [.int l2_39, .ref 56]) ky_X12_kept kl_X12_388 (s_X12_kept_55 (d := 1) (hPl) (Nat.le_refl _) h_49) rfl rfl rfl (hPl.lt (by decide)) (Nat.le_trans (by decide) hd) (Nat.le_of_ble_eq_true rfl) (Nat.le_refl _) (Nat.le_refl _) dX12_image_134 ?_
          obtain ⟨c_52, hF⟩ := am_gd hF
          obtain ⟨I_53, e_I_53, hF⟩ := am_let_el hF
          refine n_iast (pc := 137) (k := 56) e_I_53 rfl (hPl.lt (by decide)) (am_ix_use c_52) dX12_image_137 ?_
          obtain ⟨l2_54, e_l2_54, hF⟩ := am_let_el hF
          refine n_iinc (pc := 138) (ls2 := [.ref 55, .int a1, .int l2_54]) e_l2_54 rfl rfl rfl dX12_image_138 (Nat.le_of_ble_eq_true rfl) ?_
          refine g_goto (pc := 141) (tgt := 117) dX12_image_141 rfl ?_
          cases hF
          exact ih_43 (l2_54, I_53) rfl
        ) _ _ hL_45
      exact hC
    clear hF
    have hC := am_loop (C := fun x => G am_sc0 l d 0 0 mX12_image (am_qz r N P I2) 83 [.ref 55, .int a1, .int x.1] [] N P x.2 0 0) (by
      rintro ⟨l2_23, I_24⟩ rr hF ih_27 hE_28
      replace hF := am_u2_ap hF
      change G am_sc0 l d 0 0 mX12_image (am_qz r N P I2) 83 [.ref 55, .int a1, .int l2_23] [] N P I_24 0 0
      refine g_iload_n (pc := 83) dX12_image_83 rfl rfl ?_
      refine g_bipush (pc := 84) (v := (7 : Int32)) dX12_image_84 rfl ?_
      refine g_icmp_ge (pc := 86) (tgt := 115) dX12_image_86 rfl (fun c_31 => ?_) (fun c_31 => ?_)
      · replace hF := am_yes c_31 hF
        cases hF
        cases hE_28 _ rfl
        exact g_weak hX_26 ⟨Or.inr rfl, Or.inr rfl, Or.inl rfl, trivial⟩
      · replace hF := am_no c_31 hF
        refine g_aload_n (pc := 89) dX12_image_89 rfl rfl ?_
        refine g_getR (pc := 90) (k := 55) (r := 72) kf_X12_62.r rfl rfl (hPl.get (by decide) rfl) (hPl.lt (by decide)) dX12_image_90 ?_
        refine g_iconst (pc := 93) (v := (0 : Int32)) dX12_image_93 rfl ?_
        refine g_iload_n (pc := 94) dX12_image_94 rfl rfl ?_
        refine g_iadd (pc := 95) dX12_image_95 ?_
        refine g_aload_n (pc := 96) dX12_image_96 rfl rfl ?_
        refine g_aload_n (pc := 97) dX12_image_97 rfl rfl ?_
        refine g_getR (pc := 98) (k := 55) (r := 72) kf_X12_62.r rfl rfl (hPl.get (by decide) rfl) (hPl.lt (by decide)) dX12_image_98 ?_
        refine g_iconst (pc := 101) (v := (0 : Int32)) dX12_image_101 rfl ?_
        refine g_iload_n (pc := 102) dX12_image_102 rfl rfl ?_
        refine g_iadd (pc := 103) dX12_image_103 ?_
        obtain ⟨c_32, hF⟩ := am_gd hF
        refine g_iald (pc := 104) (k := 72) rfl (hPl.lt (by decide)) (am_ix_use c_32) dX12_image_104 ?_
        obtain ⟨r_34, I_35, h_33, hF⟩ := am_b2_el hF
        refine g_cVi (pc := 105) (k := 55) (As := [.int (I_24 72 ((0 : Int32) + l2_23).toNatClampNeg)]) (st := [.int ((0 : Int32) + l2_23), .ref 72]) ky_X12_kept kl_X12_388 (s_X12_kept_55 (d := 1) (hPl) (Nat.le_refl _) h_33) rfl rfl rfl (hPl.lt (by decide)) (Nat.le_trans (by decide) hd) (Nat.le_of_ble_eq_true rfl) (Nat.le_refl _) (Nat.le_refl _) dX12_image_105 ?_
        obtain ⟨c_36, hF⟩ := am_gd hF
        obtain ⟨I_37, e_I_37, hF⟩ := am_let_el hF
        refine n_iast (pc := 108) (k := 72) e_I_37 rfl (hPl.lt (by decide)) (am_ix_use c_36) dX12_image_108 ?_
        obtain ⟨l2_38, e_l2_38, hF⟩ := am_let_el hF
        refine n_iinc (pc := 109) (ls2 := [.ref 55, .int a1, .int l2_38]) e_l2_38 rfl rfl rfl dX12_image_109 (Nat.le_of_ble_eq_true rfl) ?_
        refine g_goto (pc := 112) (tgt := 83) dX12_image_112 rfl ?_
        cases hF
        exact ih_27 (l2_38, I_37) rfl
      ) _ _ hL_29
    exact hC
  · replace hF := am_yes c_2 hF
    refine g_aload_n (pc := 9) dX12_image_9 rfl rfl ?_
    refine g_getI (pc := 10) (k := 55) kf_X12_391.r rfl rfl (hPl.lt (by decide)) dX12_image_10 ?_
    refine g_if_ne (pc := 13) (tgt := 18) dX12_image_13 rfl (fun c_151 => ?_) (fun c_151 => ?_)
    · replace hF := am_no c_151 hF
      refine g_aload_n (pc := 18) dX12_image_18 rfl rfl ?_
      refine g_iload_n (pc := 19) dX12_image_19 rfl rfl ?_
      obtain ⟨c_152, hF⟩ := am_gd hF
      obtain ⟨I_153, e_I_153, hF⟩ := am_let_el hF
      refine n_putZ (pc := 20) (k := 55) e_I_153 kf_X12_384 rfl rfl (hPl.lt (by decide)) c_152 dX12_image_20 ?_
      refine g_aload_n (pc := 23) dX12_image_23 rfl rfl ?_
      refine g_iconst (pc := 24) (v := (1 : Int32)) dX12_image_24 rfl ?_
      obtain ⟨I_154, e_I_154, hF⟩ := am_let_el hF
      refine n_putZ (pc := 25) (k := 55) e_I_154 kf_X12_391 rfl rfl (hPl.lt (by decide)) (Or.inr rfl) dX12_image_25 ?_
      refine g_aload_n (pc := 28) dX12_image_28 rfl rfl ?_
      refine g_iconst (pc := 29) (v := (0 : Int32)) dX12_image_29 rfl ?_
      obtain ⟨I_155, e_I_155, hF⟩ := am_let_el hF
      refine n_putI (pc := 30) (k := 55) e_I_155 kf_X12_381 rfl rfl (hPl.lt (by decide)) dX12_image_30 ?_
      refine g_aload_n (pc := 33) dX12_image_33 rfl rfl ?_
      refine g_aload_n (pc := 34) dX12_image_34 rfl rfl ?_
      refine g_aload_n (pc := 35) dX12_image_35 rfl rfl ?_
      refine g_getI (pc := 36) (k := 55) kf_X12_137.r rfl rfl (hPl.lt (by decide)) dX12_image_36 ?_
      obtain ⟨r_157, I_158, h_156, hF⟩ := am_b2_el hF
      refine g_cVi (pc := 39) (k := 55) (As := [.int (I_155 55 1)]) (st := [.ref 55]) ky_X12_kept kl_X12_388 (s_X12_kept_55 (d := 1) (hPl) (Nat.le_refl _) h_156) rfl rfl rfl (hPl.lt (by decide)) (Nat.le_trans (by decide) hd) (Nat.le_of_ble_eq_true rfl) (Nat.le_refl _) (Nat.le_refl _) dX12_image_39 ?_
      obtain ⟨I_159, e_I_159, hF⟩ := am_let_el hF
      refine n_putI (pc := 42) (k := 55) e_I_159 kf_X12_137 rfl rfl (hPl.lt (by decide)) dX12_image_42 ?_
      refine g_aload_n (pc := 45) dX12_image_45 rfl rfl ?_
      refine g_aload_n (pc := 46) dX12_image_46 rfl rfl ?_
      refine g_aload_n (pc := 47) dX12_image_47 rfl rfl ?_
      refine g_getI (pc := 48) (k := 55) kf_X12_7.r rfl rfl (hPl.lt (by decide)) dX12_image_48 ?_
      obtain ⟨r_161, I_162, h_160, hF⟩ := am_b2_el hF
      refine g_cVi (pc := 51) (k := 55) (As := [.int (I_159 55 2)]) (st := [.ref 55]) ky_X12_kept kl_X12_388 (s_X12_kept_55 (d := 1) (hPl) (Nat.le_refl _) h_160) rfl rfl rfl (hPl.lt (by decide)) (Nat.le_trans (by decide) hd) (Nat.le_of_ble_eq_true rfl) (Nat.le_refl _) (Nat.le_refl _) dX12_image_51 ?_
      obtain ⟨I_163, e_I_163, hF⟩ := am_let_el hF
      refine n_putI (pc := 54) (k := 55) e_I_163 kf_X12_7 rfl rfl (hPl.lt (by decide)) dX12_image_54 ?_
      refine g_aload_n (pc := 57) dX12_image_57 rfl rfl ?_
      refine g_aload_n (pc := 58) dX12_image_58 rfl rfl ?_
      refine g_aload_n (pc := 59) dX12_image_59 rfl rfl ?_
      refine g_getI (pc := 60) (k := 55) kf_X12_155.r rfl rfl (hPl.lt (by decide)) dX12_image_60 ?_
      obtain ⟨r_165, I_166, h_164, hF⟩ := am_b2_el hF
      refine g_cVi (pc := 63) (k := 55) (As := [.int (I_163 55 13)]) (st := [.ref 55]) ky_X12_kept kl_X12_388 (s_X12_kept_55 (d := 1) (hPl) (Nat.le_refl _) h_164) rfl rfl rfl (hPl.lt (by decide)) (Nat.le_trans (by decide) hd) (Nat.le_of_ble_eq_true rfl) (Nat.le_refl _) (Nat.le_refl _) dX12_image_63 ?_
      obtain ⟨I_167, e_I_167, hF⟩ := am_let_el hF
      refine n_putI (pc := 66) (k := 55) e_I_167 kf_X12_155 rfl rfl (hPl.lt (by decide)) dX12_image_66 ?_
      refine g_aload_n (pc := 69) dX12_image_69 rfl rfl ?_
      refine g_aload_n (pc := 70) dX12_image_70 rfl rfl ?_
      refine g_aload_n (pc := 71) dX12_image_71 rfl rfl ?_
      refine g_getI (pc := 72) (k := 55) kf_X12_142.r rfl rfl (hPl.lt (by decide)) dX12_image_72 ?_
      obtain ⟨r_169, I_170, h_168, hF⟩ := am_b2_el hF
      refine g_cVi (pc := 75) (k := 55) (As := [.int (I_167 55 4)]) (st := [.ref 55]) ky_X12_kept kl_X12_388 (s_X12_kept_55 (d := 1) (hPl) (Nat.le_refl _) h_168) rfl rfl rfl (hPl.lt (by decide)) (Nat.le_trans (by decide) hd) (Nat.le_of_ble_eq_true rfl) (Nat.le_refl _) (Nat.le_refl _) dX12_image_75 ?_
      obtain ⟨I_171, e_I_171, hF⟩ := am_let_el hF
      refine n_putI (pc := 78) (k := 55) e_I_171 kf_X12_142 rfl rfl (hPl.lt (by decide)) dX12_image_78 ?_
      refine g_iconst (pc := 81) (v := (0 : Int32)) dX12_image_81 rfl ?_
      refine n_istore_n (pc := 82) (ls2 := [.ref 55, .int a1, .int (0 : Int32)]) rfl rfl dX12_image_82 rfl (Nat.le_of_ble_eq_true rfl) ?_
      obtain ⟨I_174, hL_178, hF⟩ := am_b1_el hF
      have hX_175 : G am_sc0 l d 0 0 mX12_image (am_qz r N P I2) 115 [.ref 55, .int a1, .null] [] N P I_174 0 0 := by
        refine g_iconst (pc := 115) (v := (0 : Int32)) dX12_image_115 rfl ?_
        refine n_istore_n (pc := 116) (ls2 := [.ref 55, .int a1, .int (0 : Int32)]) rfl rfl dX12_image_116 rfl (Nat.le_of_ble_eq_true rfl) ?_
        obtain ⟨I_190, hL_194, hF⟩ := am_b1_el hF
        have hX_191 : G am_sc0 l d 0 0 mX12_image (am_qz r N P I2) 144 [.ref 55, .int a1, .null] [] N P I_190 0 0 := by
          refine g_iconst (pc := 144) (v := (0 : Int32)) dX12_image_144 rfl ?_
          refine n_istore_n (pc := 145) (ls2 := [.ref 55, .int a1, .int (0 : Int32)]) rfl rfl dX12_image_145 rfl (Nat.le_of_ble_eq_true rfl) ?_
          obtain ⟨I_206, hL_210, hF⟩ := am_b1_el hF
          have hX_207 : G am_sc0 l d 0 0 mX12_image (am_qz r N P I2) 174 [.ref 55, .int a1, .null] [] N P I_206 0 0 := by
            refine g_iconst (pc := 174) (v := (0 : Int32)) dX12_image_174 rfl ?_
            refine n_istore_n (pc := 175) (ls2 := [.ref 55, .int a1, .int (0 : Int32)]) rfl rfl dX12_image_175 rfl (Nat.le_of_ble_eq_true rfl) ?_
            obtain ⟨I_222, hL_226, hF⟩ := am_b1_el hF
            have hX_223 : G am_sc0 l d 0 0 mX12_image (am_qz r N P I2) 204 [.ref 55, .int a1, .null] [] N P I_222 0 0 := by
              refine g_aload_n (pc := 204) dX12_image_204 rfl rfl ?_
              refine g_aload_n (pc := 205) dX12_image_205 rfl rfl ?_
              refine g_aload_n (pc := 206) dX12_image_206 rfl rfl ?_
              refine g_getI (pc := 207) (k := 55) kf_X12_152.r rfl rfl (hPl.lt (by decide)) dX12_image_207 ?_
              obtain ⟨r_237, I_238, h_236, hF⟩ := am_b2_el hF
              refine g_cVi (pc := 210) (k := 55) (As := [.int (I_222 55 8)]) (st := [.ref 55]) ky_X12_kept kl_X12_388 (s_X12_kept_55 (d := 1) (hPl) (Nat.le_refl _) h_236) rfl rfl rfl (hPl.lt (by decide)) (Nat.le_trans (by decide) hd) (Nat.le_of_ble_eq_true rfl) (Nat.le_refl _) (Nat.le_refl _) dX12_image_210 ?_
              obtain ⟨I_239, e_I_239, hF⟩ := am_let_el hF
              refine n_putI (pc := 213) (k := 55) e_I_239 kf_X12_152 rfl rfl (hPl.lt (by decide)) dX12_image_213 ?_
              refine g_iconst (pc := 216) (v := (0 : Int32)) dX12_image_216 rfl ?_
              refine n_istore_n (pc := 217) (ls2 := [.ref 55, .int a1, .int (0 : Int32)]) rfl rfl dX12_image_217 rfl (Nat.le_of_ble_eq_true rfl) ?_
              obtain ⟨I_242, hL_246, hF⟩ := am_b1_el hF
              have hX_243 : G am_sc0 l d 0 0 mX12_image (am_qz r N P I2) 294 [.ref 55, .int a1, .null] [] N P I_242 0 0 := by
                refine g_iconst (pc := 294) (v := (0 : Int32)) dX12_image_294 rfl ?_
                refine n_istore_n (pc := 295) (ls2 := [.ref 55, .int a1, .int (0 : Int32)]) rfl rfl dX12_image_295 rfl (Nat.le_of_ble_eq_true rfl) ?_
                obtain ⟨I_276, hL_280, hF⟩ := am_b1_el hF
                have hX_277 : G am_sc0 l d 0 0 mX12_image (am_qz r N P I2) 340 [.ref 55, .int a1, .null] [] N P I_276 0 0 := by
                  refine g_aload_n (pc := 340) dX12_image_340 rfl rfl ?_
                  obtain ⟨I_297, h_296, hF⟩ := am_b1_el hF
                  refine g_cVv (pc := 341) (k := 55) (As := []) (st := []) ky_X12_keepsPeople kl_X12_394 (s_X12_keepsPeople_55 (d := 2) (hPl) (Nat.le_refl _) h_296) rfl rfl rfl (hPl.lt (by decide)) (Nat.le_trans (by decide) hd) (Nat.le_of_ble_eq_true rfl) (Nat.le_refl _) (Nat.le_refl _) dX12_image_341 ?_
                  refine g_aload_n (pc := 344) dX12_image_344 rfl rfl ?_
                  obtain ⟨I_299, h_298, hF⟩ := am_b1_el hF
                  refine g_cVv (pc := 345) (k := 55) (As := []) (st := []) ky_X12_keepsRule kl_X12_397 (s_X12_keepsRule_55 (d := 2) (hPl) (Nat.le_refl _) h_298) rfl rfl rfl (hPl.lt (by decide)) (Nat.le_trans (by decide) hd) (Nat.le_of_ble_eq_true rfl) (Nat.le_refl _) (Nat.le_refl _) dX12_image_345 ?_
                  refine g_iconst (pc := 348) (v := (1 : Int32)) dX12_image_348 rfl ?_
                  cases hF
                  exact g_zret (pc := 349) rfl (Or.inr rfl) (Nat.le_refl _) (Nat.le_refl _) dX12_image_349 ⟨(Or.inr rfl), rfl, rfl, rfl, rfl⟩
                clear hF
                have hC := am_loop (C := fun x => G am_sc0 l d 0 0 mX12_image (am_qz r N P I2) 296 [.ref 55, .int a1, .int x.1] [] N P x.2 0 0) (by
                  rintro ⟨l2_274, I_275⟩ rr hF ih_278 hE_279
                  replace hF := am_u2_ap hF
                  change G am_sc0 l d 0 0 mX12_image (am_qz r N P I2) 296 [.ref 55, .int a1, .int l2_274] [] N P I_275 0 0
                  refine g_iload_n (pc := 296) dX12_image_296 rfl rfl ?_
                  refine g_bipush (pc := 297) (v := (9 : Int32)) dX12_image_297 rfl ?_
                  refine g_icmp_ge (pc := 299) (tgt := 340) dX12_image_299 rfl (fun c_282 => ?_) (fun c_282 => ?_)
                  · replace hF := am_yes c_282 hF
                    cases hF
                    cases hE_279 _ rfl
                    exact g_weak hX_277 ⟨Or.inr rfl, Or.inr rfl, Or.inl rfl, trivial⟩
                  · replace hF := am_no c_282 hF
                    refine g_aload_n (pc := 302) dX12_image_302 rfl rfl ?_
                    refine g_getR (pc := 303) (k := 55) (r := 70) kf_X12_56.r rfl rfl (hPl.get (by decide) rfl) (hPl.lt (by decide)) dX12_image_303 ?_
                    refine g_iload_n (pc := 306) dX12_image_306 rfl rfl ?_
                    refine g_aload_n (pc := 307) dX12_image_307 rfl rfl ?_
                    refine g_aload_n (pc := 308) dX12_image_308 rfl rfl ?_
                    refine g_getR (pc := 309) (k := 55) (r := 70) kf_X12_56.r rfl rfl (hPl.get (by decide) rfl) (hPl.lt (by decide)) dX12_image_309 ?_
                    refine g_iload_n (pc := 312) dX12_image_312 rfl rfl ?_
                    obtain ⟨c_283, hF⟩ := am_gd hF
                    refine g_iald (pc := 313) (k := 70) rfl (hPl.lt (by decide)) (am_ix_use c_283) dX12_image_313 ?_
                    obtain ⟨r_285, I_286, h_284, hF⟩ := am_b2_el hF
                    refine g_cVi (pc := 314) (k := 55) (As := [.int (I_275 70 l2_274.toNatClampNeg)]) (st := [.int l2_274, .ref 70]) ky_X12_kept kl_X12_388 (s_X12_kept_55 (d := 1) (hPl) (Nat.le_refl _) h_284) rfl rfl rfl (hPl.lt (by decide)) (Nat.le_trans (by decide) hd) (Nat.le_of_ble_eq_true rfl) (Nat.le_refl _) (Nat.le_refl _) dX12_image_314 ?_
                    obtain ⟨c_287, hF⟩ := am_gd hF
                    obtain ⟨I_288, e_I_288, hF⟩ := am_let_el hF
                    refine n_iast (pc := 317) (k := 70) e_I_288 rfl (hPl.lt (by decide)) (am_ix_use c_287) dX12_image_317 ?_
                    refine g_aload_n (pc := 318) dX12_image_318 rfl rfl ?_
                    refine g_getR (pc := 319) (k := 55) (r := 71) kf_X12_59.r rfl rfl (hPl.get (by decide) rfl) (hPl.lt (by decide)) dX12_image_319 ?_
                    refine g_iload_n (pc := 322) dX12_image_322 rfl rfl ?_
                    refine g_aload_n (pc := 323) dX12_image_323 rfl rfl ?_
                    refine g_aload_n (pc := 324) dX12_image_324 rfl rfl ?_
                    refine g_getR (pc := 325) (k := 55) (r := 71) kf_X12_59.r rfl rfl (hPl.get (by decide) rfl) (hPl.lt (by decide)) dX12_image_325 ?_
                    refine g_iload_n (pc := 328) dX12_image_328 rfl rfl ?_
                    obtain ⟨c_289, hF⟩ := am_gd hF
                    refine g_iald (pc := 329) (k := 71) rfl (hPl.lt (by decide)) (am_ix_use c_289) dX12_image_329 ?_
                    obtain ⟨r_291, I_292, h_290, hF⟩ := am_b2_el hF
                    refine g_cVi (pc := 330) (k := 55) (As := [.int (I_288 71 l2_274.toNatClampNeg)]) (st := [.int l2_274, .ref 71]) ky_X12_kept kl_X12_388 (s_X12_kept_55 (d := 1) (hPl) (Nat.le_refl _) h_290) rfl rfl rfl (hPl.lt (by decide)) (Nat.le_trans (by decide) hd) (Nat.le_of_ble_eq_true rfl) (Nat.le_refl _) (Nat.le_refl _) dX12_image_330 ?_
                    obtain ⟨c_293, hF⟩ := am_gd hF
                    obtain ⟨I_294, e_I_294, hF⟩ := am_let_el hF
                    refine n_iast (pc := 333) (k := 71) e_I_294 rfl (hPl.lt (by decide)) (am_ix_use c_293) dX12_image_333 ?_
                    obtain ⟨l2_295, e_l2_295, hF⟩ := am_let_el hF
                    refine n_iinc (pc := 334) (ls2 := [.ref 55, .int a1, .int l2_295]) e_l2_295 rfl rfl rfl dX12_image_334 (Nat.le_of_ble_eq_true rfl) ?_
                    refine g_goto (pc := 337) (tgt := 296) dX12_image_337 rfl ?_
                    cases hF
                    exact ih_278 (l2_295, I_294) rfl
                  ) _ _ hL_280
                exact hC
              clear hF
              have hC := am_loop (C := fun x => G am_sc0 l d 0 0 mX12_image (am_qz r N P I2) 218 [.ref 55, .int a1, .int x.1] [] N P x.2 0 0) (by
                rintro ⟨l2_240, I_241⟩ rr hF ih_244 hE_245
                replace hF := am_u2_ap hF
                change G am_sc0 l d 0 0 mX12_image (am_qz r N P I2) 218 [.ref 55, .int a1, .int l2_240] [] N P I_241 0 0
                refine g_iload_n (pc := 218) dX12_image_218 rfl rfl ?_
                refine g_bipush (pc := 219) (v := (20 : Int32)) dX12_image_219 rfl ?_
                refine g_icmp_ge (pc := 221) (tgt := 294) dX12_image_221 rfl (fun c_248 => ?_) (fun c_248 => ?_)
                · replace hF := am_yes c_248 hF
                  cases hF
                  cases hE_245 _ rfl
                  exact g_weak hX_243 ⟨Or.inr rfl, Or.inr rfl, Or.inl rfl, trivial⟩
                · replace hF := am_no c_248 hF
                  refine g_aload_n (pc := 224) dX12_image_224 rfl rfl ?_
                  refine g_getR (pc := 225) (k := 55) (r := 59) kf_X12_23.r rfl rfl (hPl.get (by decide) rfl) (hPl.lt (by decide)) dX12_image_225 ?_
                  refine g_iload_n (pc := 228) dX12_image_228 rfl rfl ?_
                  refine g_aload_n (pc := 229) dX12_image_229 rfl rfl ?_
                  refine g_aload_n (pc := 230) dX12_image_230 rfl rfl ?_
                  refine g_getR (pc := 231) (k := 55) (r := 59) kf_X12_23.r rfl rfl (hPl.get (by decide) rfl) (hPl.lt (by decide)) dX12_image_231 ?_
                  refine g_iload_n (pc := 234) dX12_image_234 rfl rfl ?_
                  obtain ⟨c_249, hF⟩ := am_gd hF
                  refine g_iald (pc := 235) (k := 59) rfl (hPl.lt (by decide)) (am_ix_use c_249) dX12_image_235 ?_
                  obtain ⟨r_251, I_252, h_250, hF⟩ := am_b2_el hF
                  refine g_cVi (pc := 236) (k := 55) (As := [.int (I_241 59 l2_240.toNatClampNeg)]) (st := [.int l2_240, .ref 59]) ky_X12_kept kl_X12_388 (s_X12_kept_55 (d := 1) (hPl) (Nat.le_refl _) h_250) rfl rfl rfl (hPl.lt (by decide)) (Nat.le_trans (by decide) hd) (Nat.le_of_ble_eq_true rfl) (Nat.le_refl _) (Nat.le_refl _) dX12_image_236 ?_
                  obtain ⟨c_253, hF⟩ := am_gd hF
                  obtain ⟨I_254, e_I_254, hF⟩ := am_let_el hF
                  refine n_iast (pc := 239) (k := 59) e_I_254 rfl (hPl.lt (by decide)) (am_ix_use c_253) dX12_image_239 ?_
                  refine g_aload_n (pc := 240) dX12_image_240 rfl rfl ?_
                  refine g_getR (pc := 241) (k := 55) (r := 60) kf_X12_26.r rfl rfl (hPl.get (by decide) rfl) (hPl.lt (by decide)) dX12_image_241 ?_
                  refine g_iload_n (pc := 244) dX12_image_244 rfl rfl ?_
                  refine g_aload_n (pc := 245) dX12_image_245 rfl rfl ?_
                  refine g_aload_n (pc := 246) dX12_image_246 rfl rfl ?_
                  refine g_getR (pc := 247) (k := 55) (r := 60) kf_X12_26.r rfl rfl (hPl.get (by decide) rfl) (hPl.lt (by decide)) dX12_image_247 ?_
                  refine g_iload_n (pc := 250) dX12_image_250 rfl rfl ?_
                  obtain ⟨c_255, hF⟩ := am_gd hF
                  refine g_iald (pc := 251) (k := 60) rfl (hPl.lt (by decide)) (am_ix_use c_255) dX12_image_251 ?_
                  obtain ⟨r_257, I_258, h_256, hF⟩ := am_b2_el hF
                  refine g_cVi (pc := 252) (k := 55) (As := [.int (I_254 60 l2_240.toNatClampNeg)]) (st := [.int l2_240, .ref 60]) ky_X12_kept kl_X12_388 (s_X12_kept_55 (d := 1) (hPl) (Nat.le_refl _) h_256) rfl rfl rfl (hPl.lt (by decide)) (Nat.le_trans (by decide) hd) (Nat.le_of_ble_eq_true rfl) (Nat.le_refl _) (Nat.le_refl _) dX12_image_252 ?_
                  obtain ⟨c_259, hF⟩ := am_gd hF
                  obtain ⟨I_260, e_I_260, hF⟩ := am_let_el hF
                  refine n_iast (pc := 255) (k := 60) e_I_260 rfl (hPl.lt (by decide)) (am_ix_use c_259) dX12_image_255 ?_
                  refine g_aload_n (pc := 256) dX12_image_256 rfl rfl ?_
                  refine g_getR (pc := 257) (k := 55) (r := 61) kf_X12_29.r rfl rfl (hPl.get (by decide) rfl) (hPl.lt (by decide)) dX12_image_257 ?_
                  refine g_iload_n (pc := 260) dX12_image_260 rfl rfl ?_
                  refine g_aload_n (pc := 261) dX12_image_261 rfl rfl ?_
                  refine g_aload_n (pc := 262) dX12_image_262 rfl rfl ?_
                  refine g_getR (pc := 263) (k := 55) (r := 61) kf_X12_29.r rfl rfl (hPl.get (by decide) rfl) (hPl.lt (by decide)) dX12_image_263 ?_
                  refine g_iload_n (pc := 266) dX12_image_266 rfl rfl ?_
                  obtain ⟨c_261, hF⟩ := am_gd hF
                  refine g_iald (pc := 267) (k := 61) rfl (hPl.lt (by decide)) (am_ix_use c_261) dX12_image_267 ?_
                  obtain ⟨r_263, I_264, h_262, hF⟩ := am_b2_el hF
                  refine g_cVi (pc := 268) (k := 55) (As := [.int (I_260 61 l2_240.toNatClampNeg)]) (st := [.int l2_240, .ref 61]) ky_X12_kept kl_X12_388 (s_X12_kept_55 (d := 1) (hPl) (Nat.le_refl _) h_262) rfl rfl rfl (hPl.lt (by decide)) (Nat.le_trans (by decide) hd) (Nat.le_of_ble_eq_true rfl) (Nat.le_refl _) (Nat.le_refl _) dX12_image_268 ?_
                  obtain ⟨c_265, hF⟩ := am_gd hF
                  obtain ⟨I_266, e_I_266, hF⟩ := am_let_el hF
                  refine n_iast (pc := 271) (k := 61) e_I_266 rfl (hPl.lt (by decide)) (am_ix_use c_265) dX12_image_271 ?_
                  refine g_aload_n (pc := 272) dX12_image_272 rfl rfl ?_
                  refine g_getR (pc := 273) (k := 55) (r := 62) kf_X12_32.r rfl rfl (hPl.get (by decide) rfl) (hPl.lt (by decide)) dX12_image_273 ?_
                  refine g_iload_n (pc := 276) dX12_image_276 rfl rfl ?_
                  refine g_aload_n (pc := 277) dX12_image_277 rfl rfl ?_
                  refine g_aload_n (pc := 278) dX12_image_278 rfl rfl ?_
                  refine g_getR (pc := 279) (k := 55) (r := 62) kf_X12_32.r rfl rfl (hPl.get (by decide) rfl) (hPl.lt (by decide)) dX12_image_279 ?_
                  refine g_iload_n (pc := 282) dX12_image_282 rfl rfl ?_
                  obtain ⟨c_267, hF⟩ := am_gd hF
                  refine g_iald (pc := 283) (k := 62) rfl (hPl.lt (by decide)) (am_ix_use c_267) dX12_image_283 ?_
                  obtain ⟨r_269, I_270, h_268, hF⟩ := am_b2_el hF
                  refine g_cVi (pc := 284) (k := 55) (As := [.int (I_266 62 l2_240.toNatClampNeg)]) (st := [.int l2_240, .ref 62]) ky_X12_kept kl_X12_388 (s_X12_kept_55 (d := 1) (hPl) (Nat.le_refl _) h_268) rfl rfl rfl (hPl.lt (by decide)) (Nat.le_trans (by decide) hd) (Nat.le_of_ble_eq_true rfl) (Nat.le_refl _) (Nat.le_refl _) dX12_image_284 ?_
                  obtain ⟨c_271, hF⟩ := am_gd hF
                  obtain ⟨I_272, e_I_272, hF⟩ := am_let_el hF
                  refine n_iast (pc := 287) (k := 62) e_I_272 rfl (hPl.lt (by decide)) (am_ix_use c_271) dX12_image_287 ?_
                  obtain ⟨l2_273, e_l2_273, hF⟩ := am_let_el hF
                  refine n_iinc (pc := 288) (ls2 := [.ref 55, .int a1, .int l2_273]) e_l2_273 rfl rfl rfl dX12_image_288 (Nat.le_of_ble_eq_true rfl) ?_
                  refine g_goto (pc := 291) (tgt := 218) dX12_image_291 rfl ?_
                  cases hF
                  exact ih_244 (l2_273, I_272) rfl
                ) _ _ hL_246
              exact hC
            clear hF
            have hC := am_loop (C := fun x => G am_sc0 l d 0 0 mX12_image (am_qz r N P I2) 176 [.ref 55, .int a1, .int x.1] [] N P x.2 0 0) (by
              rintro ⟨l2_220, I_221⟩ rr hF ih_224 hE_225
              replace hF := am_u2_ap hF
              change G am_sc0 l d 0 0 mX12_image (am_qz r N P I2) 176 [.ref 55, .int a1, .int l2_220] [] N P I_221 0 0
              refine g_iload_n (pc := 176) dX12_image_176 rfl rfl ?_
              refine g_bipush (pc := 177) (v := (49 : Int32)) dX12_image_177 rfl ?_
              refine g_icmp_ge (pc := 179) (tgt := 204) dX12_image_179 rfl (fun c_228 => ?_) (fun c_228 => ?_)
              · replace hF := am_yes c_228 hF
                cases hF
                cases hE_225 _ rfl
                exact g_weak hX_223 ⟨Or.inr rfl, Or.inr rfl, Or.inl rfl, trivial⟩
              · replace hF := am_no c_228 hF
                refine g_aload_n (pc := 182) dX12_image_182 rfl rfl ?_
                refine g_getR (pc := 183) (k := 55) (r := 66) kf_X12_44.r rfl rfl (hPl.get (by decide) rfl) (hPl.lt (by decide)) dX12_image_183 ?_
                refine g_iload_n (pc := 186) dX12_image_186 rfl rfl ?_
                refine g_aload_n (pc := 187) dX12_image_187 rfl rfl ?_
                refine g_aload_n (pc := 188) dX12_image_188 rfl rfl ?_
                refine g_getR (pc := 189) (k := 55) (r := 66) kf_X12_44.r rfl rfl (hPl.get (by decide) rfl) (hPl.lt (by decide)) dX12_image_189 ?_
                refine g_iload_n (pc := 192) dX12_image_192 rfl rfl ?_
                obtain ⟨c_229, hF⟩ := am_gd hF
                refine g_iald (pc := 193) (k := 66) rfl (hPl.lt (by decide)) (am_ix_use c_229) dX12_image_193 ?_
                obtain ⟨r_231, I_232, h_230, hF⟩ := am_b2_el hF
                refine g_cVi (pc := 194) (k := 55) (As := [.int (I_221 66 l2_220.toNatClampNeg)]) (st := [.int l2_220, .ref 66]) ky_X12_kept kl_X12_388 (s_X12_kept_55 (d := 1) (hPl) (Nat.le_refl _) h_230) rfl rfl rfl (hPl.lt (by decide)) (Nat.le_trans (by decide) hd) (Nat.le_of_ble_eq_true rfl) (Nat.le_refl _) (Nat.le_refl _) dX12_image_194 ?_
                obtain ⟨c_233, hF⟩ := am_gd hF
                obtain ⟨I_234, e_I_234, hF⟩ := am_let_el hF
                refine n_iast (pc := 197) (k := 66) e_I_234 rfl (hPl.lt (by decide)) (am_ix_use c_233) dX12_image_197 ?_
                obtain ⟨l2_235, e_l2_235, hF⟩ := am_let_el hF
                refine n_iinc (pc := 198) (ls2 := [.ref 55, .int a1, .int l2_235]) e_l2_235 rfl rfl rfl dX12_image_198 (Nat.le_of_ble_eq_true rfl) ?_
                refine g_goto (pc := 201) (tgt := 176) dX12_image_201 rfl ?_
                cases hF
                exact ih_224 (l2_235, I_234) rfl
              ) _ _ hL_226
            exact hC
          clear hF
          have hC := am_loop (C := fun x => G am_sc0 l d 0 0 mX12_image (am_qz r N P I2) 146 [.ref 55, .int a1, .int x.1] [] N P x.2 0 0) (by
            rintro ⟨l2_204, I_205⟩ rr hF ih_208 hE_209
            replace hF := am_u2_ap hF
            change G am_sc0 l d 0 0 mX12_image (am_qz r N P I2) 146 [.ref 55, .int a1, .int l2_204] [] N P I_205 0 0
            refine g_iload_n (pc := 146) dX12_image_146 rfl rfl ?_
            refine g_bipush (pc := 147) (v := (56 : Int32)) dX12_image_147 rfl ?_
            refine g_icmp_ge (pc := 149) (tgt := 174) dX12_image_149 rfl (fun c_212 => ?_) (fun c_212 => ?_)
            · replace hF := am_yes c_212 hF
              cases hF
              cases hE_209 _ rfl
              exact g_weak hX_207 ⟨Or.inr rfl, Or.inr rfl, Or.inl rfl, trivial⟩
            · replace hF := am_no c_212 hF
              refine g_aload_n (pc := 152) dX12_image_152 rfl rfl ?_
              refine g_getR (pc := 153) (k := 55) (r := 58) kf_X12_20.r rfl rfl (hPl.get (by decide) rfl) (hPl.lt (by decide)) dX12_image_153 ?_
              refine g_iload_n (pc := 156) dX12_image_156 rfl rfl ?_
              refine g_aload_n (pc := 157) dX12_image_157 rfl rfl ?_
              refine g_aload_n (pc := 158) dX12_image_158 rfl rfl ?_
              refine g_getR (pc := 159) (k := 55) (r := 58) kf_X12_20.r rfl rfl (hPl.get (by decide) rfl) (hPl.lt (by decide)) dX12_image_159 ?_
              refine g_iload_n (pc := 162) dX12_image_162 rfl rfl ?_
              obtain ⟨c_213, hF⟩ := am_gd hF
              refine g_iald (pc := 163) (k := 58) rfl (hPl.lt (by decide)) (am_ix_use c_213) dX12_image_163 ?_
              obtain ⟨r_215, I_216, h_214, hF⟩ := am_b2_el hF
              refine g_cVi (pc := 164) (k := 55) (As := [.int (I_205 58 l2_204.toNatClampNeg)]) (st := [.int l2_204, .ref 58]) ky_X12_kept kl_X12_388 (s_X12_kept_55 (d := 1) (hPl) (Nat.le_refl _) h_214) rfl rfl rfl (hPl.lt (by decide)) (Nat.le_trans (by decide) hd) (Nat.le_of_ble_eq_true rfl) (Nat.le_refl _) (Nat.le_refl _) dX12_image_164 ?_
              obtain ⟨c_217, hF⟩ := am_gd hF
              obtain ⟨I_218, e_I_218, hF⟩ := am_let_el hF
              refine n_iast (pc := 167) (k := 58) e_I_218 rfl (hPl.lt (by decide)) (am_ix_use c_217) dX12_image_167 ?_
              obtain ⟨l2_219, e_l2_219, hF⟩ := am_let_el hF
              refine n_iinc (pc := 168) (ls2 := [.ref 55, .int a1, .int l2_219]) e_l2_219 rfl rfl rfl dX12_image_168 (Nat.le_of_ble_eq_true rfl) ?_
              refine g_goto (pc := 171) (tgt := 146) dX12_image_171 rfl ?_
              cases hF
              exact ih_208 (l2_219, I_218) rfl
            ) _ _ hL_210
          exact hC
        clear hF
        have hC := am_loop (C := fun x => G am_sc0 l d 0 0 mX12_image (am_qz r N P I2) 117 [.ref 55, .int a1, .int x.1] [] N P x.2 0 0) (by
          rintro ⟨l2_188, I_189⟩ rr hF ih_192 hE_193
          replace hF := am_u2_ap hF
          change G am_sc0 l d 0 0 mX12_image (am_qz r N P I2) 117 [.ref 55, .int a1, .int l2_188] [] N P I_189 0 0
          refine g_iload_n (pc := 117) dX12_image_117 rfl rfl ?_
          refine g_iconst (pc := 118) (v := (4 : Int32)) dX12_image_118 rfl ?_
          refine g_icmp_ge (pc := 119) (tgt := 144) dX12_image_119 rfl (fun c_196 => ?_) (fun c_196 => ?_)
          · replace hF := am_yes c_196 hF
            cases hF
            cases hE_193 _ rfl
            exact g_weak hX_191 ⟨Or.inr rfl, Or.inr rfl, Or.inl rfl, trivial⟩
          · replace hF := am_no c_196 hF
            refine g_aload_n (pc := 122) dX12_image_122 rfl rfl ?_
            refine g_getR (pc := 123) (k := 55) (r := 56) kf_X12_13.r rfl rfl (hPl.get (by decide) rfl) (hPl.lt (by decide)) dX12_image_123 ?_
            refine g_iload_n (pc := 126) dX12_image_126 rfl rfl ?_
            refine g_aload_n (pc := 127) dX12_image_127 rfl rfl ?_
            refine g_aload_n (pc := 128) dX12_image_128 rfl rfl ?_
            refine g_getR (pc := 129) (k := 55) (r := 56) kf_X12_13.r rfl rfl (hPl.get (by decide) rfl) (hPl.lt (by decide)) dX12_image_129 ?_
            refine g_iload_n (pc := 132) dX12_image_132 rfl rfl ?_
            obtain ⟨c_197, hF⟩ := am_gd hF
            refine g_iald (pc := 133) (k := 56) rfl (hPl.lt (by decide)) (am_ix_use c_197) dX12_image_133 ?_
            obtain ⟨r_199, I_200, h_198, hF⟩ := am_b2_el hF
            refine g_cVi (pc := 134) (k := 55) (As := [.int (I_189 56 l2_188.toNatClampNeg)]) (st := [.int l2_188, .ref 56]) ky_X12_kept kl_X12_388 (s_X12_kept_55 (d := 1) (hPl) (Nat.le_refl _) h_198) rfl rfl rfl (hPl.lt (by decide)) (Nat.le_trans (by decide) hd) (Nat.le_of_ble_eq_true rfl) (Nat.le_refl _) (Nat.le_refl _) dX12_image_134 ?_
            obtain ⟨c_201, hF⟩ := am_gd hF
            obtain ⟨I_202, e_I_202, hF⟩ := am_let_el hF
            refine n_iast (pc := 137) (k := 56) e_I_202 rfl (hPl.lt (by decide)) (am_ix_use c_201) dX12_image_137 ?_
            obtain ⟨l2_203, e_l2_203, hF⟩ := am_let_el hF
            refine n_iinc (pc := 138) (ls2 := [.ref 55, .int a1, .int l2_203]) e_l2_203 rfl rfl rfl dX12_image_138 (Nat.le_of_ble_eq_true rfl) ?_
            refine g_goto (pc := 141) (tgt := 117) dX12_image_141 rfl ?_
            cases hF
            exact ih_192 (l2_203, I_202) rfl
          ) _ _ hL_194
        exact hC
      clear hF
      have hC := am_loop (C := fun x => G am_sc0 l d 0 0 mX12_image (am_qz r N P I2) 83 [.ref 55, .int a1, .int x.1] [] N P x.2 0 0) (by
        rintro ⟨l2_172, I_173⟩ rr hF ih_176 hE_177
        replace hF := am_u2_ap hF
        change G am_sc0 l d 0 0 mX12_image (am_qz r N P I2) 83 [.ref 55, .int a1, .int l2_172] [] N P I_173 0 0
        refine g_iload_n (pc := 83) dX12_image_83 rfl rfl ?_
        refine g_bipush (pc := 84) (v := (7 : Int32)) dX12_image_84 rfl ?_
        refine g_icmp_ge (pc := 86) (tgt := 115) dX12_image_86 rfl (fun c_180 => ?_) (fun c_180 => ?_)
        · replace hF := am_yes c_180 hF
          cases hF
          cases hE_177 _ rfl
          exact g_weak hX_175 ⟨Or.inr rfl, Or.inr rfl, Or.inl rfl, trivial⟩
        · replace hF := am_no c_180 hF
          refine g_aload_n (pc := 89) dX12_image_89 rfl rfl ?_
          refine g_getR (pc := 90) (k := 55) (r := 72) kf_X12_62.r rfl rfl (hPl.get (by decide) rfl) (hPl.lt (by decide)) dX12_image_90 ?_
          refine g_iconst (pc := 93) (v := (0 : Int32)) dX12_image_93 rfl ?_
          refine g_iload_n (pc := 94) dX12_image_94 rfl rfl ?_
          refine g_iadd (pc := 95) dX12_image_95 ?_
          refine g_aload_n (pc := 96) dX12_image_96 rfl rfl ?_
          refine g_aload_n (pc := 97) dX12_image_97 rfl rfl ?_
          refine g_getR (pc := 98) (k := 55) (r := 72) kf_X12_62.r rfl rfl (hPl.get (by decide) rfl) (hPl.lt (by decide)) dX12_image_98 ?_
          refine g_iconst (pc := 101) (v := (0 : Int32)) dX12_image_101 rfl ?_
          refine g_iload_n (pc := 102) dX12_image_102 rfl rfl ?_
          refine g_iadd (pc := 103) dX12_image_103 ?_
          obtain ⟨c_181, hF⟩ := am_gd hF
          refine g_iald (pc := 104) (k := 72) rfl (hPl.lt (by decide)) (am_ix_use c_181) dX12_image_104 ?_
          obtain ⟨r_183, I_184, h_182, hF⟩ := am_b2_el hF
          refine g_cVi (pc := 105) (k := 55) (As := [.int (I_173 72 ((0 : Int32) + l2_172).toNatClampNeg)]) (st := [.int ((0 : Int32) + l2_172), .ref 72]) ky_X12_kept kl_X12_388 (s_X12_kept_55 (d := 1) (hPl) (Nat.le_refl _) h_182) rfl rfl rfl (hPl.lt (by decide)) (Nat.le_trans (by decide) hd) (Nat.le_of_ble_eq_true rfl) (Nat.le_refl _) (Nat.le_refl _) dX12_image_105 ?_
          obtain ⟨c_185, hF⟩ := am_gd hF
          obtain ⟨I_186, e_I_186, hF⟩ := am_let_el hF
          refine n_iast (pc := 108) (k := 72) e_I_186 rfl (hPl.lt (by decide)) (am_ix_use c_185) dX12_image_108 ?_
          obtain ⟨l2_187, e_l2_187, hF⟩ := am_let_el hF
          refine n_iinc (pc := 109) (ls2 := [.ref 55, .int a1, .int l2_187]) e_l2_187 rfl rfl rfl dX12_image_109 (Nat.le_of_ble_eq_true rfl) ?_
          refine g_goto (pc := 112) (tgt := 83) dX12_image_112 rfl ?_
          cases hF
          exact ih_176 (l2_187, I_186) rfl
        ) _ _ hL_178
      exact hC
    · replace hF := am_yes c_151 hF
      refine g_iconst (pc := 16) (v := (0 : Int32)) dX12_image_16 rfl ?_
      cases hF
      exact g_zret (pc := 17) rfl (Or.inl rfl) (Nat.le_refl _) (Nat.le_refl _) dX12_image_17 ⟨(Or.inl rfl), rfl, rfl, rfl, rfl⟩
def F_X12_look_55 (I : am_IT) (a1 : Int32) : Option (Int32 × am_IT) := am_let (up2 I 55 0 (0 : Int32)) (fun (I_1 : am_IT) => if a1 = 0 then (some (I_1 55 2, I_1)) else (if a1 = (1 : Int32) then (some (I_1 55 4, I_1)) else (if a1 = (2 : Int32) then (some (I_1 55 5, I_1)) else (if a1 = (3 : Int32) then (some (I_1 55 8, I_1)) else (if a1 = (4 : Int32) then (some (I_1 55 32, I_1)) else (if a1 = (5 : Int32) then (some (I_1 55 13, I_1)) else (if a1 = (6 : Int32) then (some (I_1 55 1, I_1)) else (if a1 = (7 : Int32) then (some (I_1 55 18, I_1)) else (am_b1 (F_X12_isIn_55 I_1 a1 (10 : Int32) ((9 : Int32) + (I_1 55 5))) (fun (r_11 : Int32) => if r_11 = 0 then (am_b1 (F_X12_isIn_55 I_1 a1 (20 : Int32) ((19 : Int32) + (I_1 55 2))) (fun (r_15 : Int32) => if r_15 = 0 then (some ((-1 : Int32), I_1)) else (if am_ix (a1 - (20 : Int32)) 4 = true then (some (I_1 56 (a1 - (20 : Int32)).toNatClampNeg, I_1)) else none))) else (if am_ix (a1 - (10 : Int32)) 7 = true then (some (I_1 57 (a1 - (10 : Int32)).toNatClampNeg, I_1)) else none)))))))))))
set_option maxRecDepth 100000 in
set_option maxHeartbeats 4000000 in
theorem s_X12_look_55 {l : Launch} {d N : Nat} {P : am_PT} (hPl : am_Pl 94 N P) (hd : 2 ≤ d) {I : am_IT} {a1 : Int32} {r : Int32} {I2 : am_IT} (hF : F_X12_look_55 I a1 = some (r, I2)) : am_C l d 0 0 mX12_look [.ref 55, .int a1] N P I (am_qi r N P I2) := by
  refine am_body (sc := am_sc0) (n := 0) (by decide +kernel) (by decide) rfl ?_
  change G am_sc0 l d 0 0 mX12_look (am_qi r N P I2) 0 [.ref 55, .int a1] [] N P I 0 0
  unfold F_X12_look_55 at hF
  refine g_aload_n (pc := 0) dX12_look_0 rfl rfl ?_
  refine g_iconst (pc := 1) (v := (0 : Int32)) dX12_look_1 rfl ?_
  obtain ⟨I_1, e_I_1, hF⟩ := am_let_el hF
  refine n_putI (pc := 2) (k := 55) e_I_1 kf_X12_134 rfl rfl (hPl.lt (by decide)) dX12_look_2 ?_
  refine g_iload_n (pc := 5) dX12_look_5 rfl rfl ?_
  refine g_if_ne (pc := 6) (tgt := 14) dX12_look_6 rfl (fun c_2 => ?_) (fun c_2 => ?_)
  · replace hF := am_no c_2 hF
    refine g_iload_n (pc := 14) dX12_look_14 rfl rfl ?_
    refine g_iconst (pc := 15) (v := (1 : Int32)) dX12_look_15 rfl ?_
    refine g_icmp_ne (pc := 16) (tgt := 24) dX12_look_16 rfl (fun c_3 => ?_) (fun c_3 => ?_)
    · replace hF := am_no c_3 hF
      refine g_iload_n (pc := 24) dX12_look_24 rfl rfl ?_
      refine g_iconst (pc := 25) (v := (2 : Int32)) dX12_look_25 rfl ?_
      refine g_icmp_ne (pc := 26) (tgt := 34) dX12_look_26 rfl (fun c_4 => ?_) (fun c_4 => ?_)
      · replace hF := am_no c_4 hF
        refine g_iload_n (pc := 34) dX12_look_34 rfl rfl ?_
        refine g_iconst (pc := 35) (v := (3 : Int32)) dX12_look_35 rfl ?_
        refine g_icmp_ne (pc := 36) (tgt := 44) dX12_look_36 rfl (fun c_5 => ?_) (fun c_5 => ?_)
        · replace hF := am_no c_5 hF
          refine g_iload_n (pc := 44) dX12_look_44 rfl rfl ?_
          refine g_iconst (pc := 45) (v := (4 : Int32)) dX12_look_45 rfl ?_
          refine g_icmp_ne (pc := 46) (tgt := 54) dX12_look_46 rfl (fun c_6 => ?_) (fun c_6 => ?_)
          · replace hF := am_no c_6 hF
            refine g_iload_n (pc := 54) dX12_look_54 rfl rfl ?_
            refine g_iconst (pc := 55) (v := (5 : Int32)) dX12_look_55 rfl ?_
            refine g_icmp_ne (pc := 56) (tgt := 64) dX12_look_56 rfl (fun c_7 => ?_) (fun c_7 => ?_)
            · replace hF := am_no c_7 hF
              refine g_iload_n (pc := 64) dX12_look_64 rfl rfl ?_
              refine g_bipush (pc := 65) (v := (6 : Int32)) dX12_look_65 rfl ?_
              refine g_icmp_ne (pc := 67) (tgt := 75) dX12_look_67 rfl (fun c_8 => ?_) (fun c_8 => ?_)
              · replace hF := am_no c_8 hF
                refine g_iload_n (pc := 75) dX12_look_75 rfl rfl ?_
                refine g_bipush (pc := 76) (v := (7 : Int32)) dX12_look_76 rfl ?_
                refine g_icmp_ne (pc := 78) (tgt := 86) dX12_look_78 rfl (fun c_9 => ?_) (fun c_9 => ?_)
                · replace hF := am_no c_9 hF
                  refine g_aload_n (pc := 86) dX12_look_86 rfl rfl ?_
                  refine g_iload_n (pc := 87) dX12_look_87 rfl rfl ?_
                  refine g_bipush (pc := 88) (v := (10 : Int32)) dX12_look_88 rfl ?_
                  refine g_bipush (pc := 90) (v := (9 : Int32)) dX12_look_90 rfl ?_
                  refine g_aload_n (pc := 92) dX12_look_92 rfl rfl ?_
                  refine g_getI (pc := 93) (k := 55) kf_X12_145.r rfl rfl (hPl.lt (by decide)) dX12_look_93 ?_
                  refine g_iadd (pc := 96) dX12_look_96 ?_
                  obtain ⟨r_11, h_10, hF⟩ := am_b1_el hF
                  refine g_cVz (pc := 97) (k := 55) (As := [.int a1, .int (10 : Int32), .int ((9 : Int32) + (I_1 55 5))]) (st := []) ky_X12_isIn kl_X12_148 (s_X12_isIn_55 (d := 1) (hPl) (Nat.le_refl _) h_10) rfl rfl rfl (hPl.lt (by decide)) (Nat.le_trans (by decide) hd) (Nat.le_of_ble_eq_true rfl) (Nat.le_refl _) (Nat.le_refl _) dX12_look_97 ?_
                  intro z_12
                  refine g_if_eq (pc := 100) (tgt := 113) dX12_look_100 rfl (fun c_13 => ?_) (fun c_13 => ?_)
                  · replace hF := am_yes c_13 hF
                    refine g_aload_n (pc := 113) dX12_look_113 rfl rfl ?_
                    refine g_iload_n (pc := 114) dX12_look_114 rfl rfl ?_
                    refine g_bipush (pc := 115) (v := (20 : Int32)) dX12_look_115 rfl ?_
                    refine g_bipush (pc := 117) (v := (19 : Int32)) dX12_look_117 rfl ?_
                    refine g_aload_n (pc := 119) dX12_look_119 rfl rfl ?_
                    refine g_getI (pc := 120) (k := 55) kf_X12_7.r rfl rfl (hPl.lt (by decide)) dX12_look_120 ?_
                    refine g_iadd (pc := 123) dX12_look_123 ?_
                    obtain ⟨r_15, h_14, hF⟩ := am_b1_el hF
                    refine g_cVz (pc := 124) (k := 55) (As := [.int a1, .int (20 : Int32), .int ((19 : Int32) + (I_1 55 2))]) (st := []) ky_X12_isIn kl_X12_148 (s_X12_isIn_55 (d := 1) (hPl) (Nat.le_refl _) h_14) rfl rfl rfl (hPl.lt (by decide)) (Nat.le_trans (by decide) hd) (Nat.le_of_ble_eq_true rfl) (Nat.le_refl _) (Nat.le_refl _) dX12_look_124 ?_
                    intro z_16
                    refine g_if_eq (pc := 127) (tgt := 142) dX12_look_127 rfl (fun c_17 => ?_) (fun c_17 => ?_)
                    · replace hF := am_yes c_17 hF
                      refine g_iconst (pc := 142) (v := (-1 : Int32)) dX12_look_142 (by decide) ?_
                      cases hF
                      exact g_iret (pc := 143) rfl (Nat.le_refl _) (Nat.le_refl _) dX12_look_143 ⟨rfl, rfl, rfl, rfl⟩
                    · replace hF := am_no c_17 hF
                      refine g_aload_n (pc := 130) dX12_look_130 rfl rfl ?_
                      refine g_getR (pc := 131) (k := 55) (r := 56) kf_X12_13.r rfl rfl (hPl.get (by decide) rfl) (hPl.lt (by decide)) dX12_look_131 ?_
                      refine g_iload_n (pc := 134) dX12_look_134 rfl rfl ?_
                      refine g_bipush (pc := 135) (v := (20 : Int32)) dX12_look_135 rfl ?_
                      refine g_isub (pc := 137) dX12_look_137 ?_
                      obtain ⟨c_18, hF⟩ := am_gd hF
                      refine g_iald (pc := 138) (k := 56) rfl (hPl.lt (by decide)) (am_ix_use c_18) dX12_look_138 ?_
                      refine g_goto (pc := 139) (tgt := 143) dX12_look_139 rfl ?_
                      cases hF
                      exact g_iret (pc := 143) rfl (Nat.le_refl _) (Nat.le_refl _) dX12_look_143 ⟨rfl, rfl, rfl, rfl⟩
                  · replace hF := am_no c_13 hF
                    refine g_aload_n (pc := 103) dX12_look_103 rfl rfl ?_
                    refine g_getR (pc := 104) (k := 55) (r := 57) kf_X12_17.r rfl rfl (hPl.get (by decide) rfl) (hPl.lt (by decide)) dX12_look_104 ?_
                    refine g_iload_n (pc := 107) dX12_look_107 rfl rfl ?_
                    refine g_bipush (pc := 108) (v := (10 : Int32)) dX12_look_108 rfl ?_
                    refine g_isub (pc := 110) dX12_look_110 ?_
                    obtain ⟨c_19, hF⟩ := am_gd hF
                    refine g_iald (pc := 111) (k := 57) rfl (hPl.lt (by decide)) (am_ix_use c_19) dX12_look_111 ?_
                    cases hF
                    exact g_iret (pc := 112) rfl (Nat.le_refl _) (Nat.le_refl _) dX12_look_112 ⟨rfl, rfl, rfl, rfl⟩
                · replace hF := am_yes c_9 hF
                  refine g_aload_n (pc := 81) dX12_look_81 rfl rfl ?_
                  refine g_getI (pc := 82) (k := 55) kf_X12_158.r rfl rfl (hPl.lt (by decide)) dX12_look_82 ?_
                  cases hF
                  exact g_iret (pc := 85) rfl (Nat.le_refl _) (Nat.le_refl _) dX12_look_85 ⟨rfl, rfl, rfl, rfl⟩
              · replace hF := am_yes c_8 hF
                refine g_aload_n (pc := 70) dX12_look_70 rfl rfl ?_
                refine g_getI (pc := 71) (k := 55) kf_X12_137.r rfl rfl (hPl.lt (by decide)) dX12_look_71 ?_
                cases hF
                exact g_iret (pc := 74) rfl (Nat.le_refl _) (Nat.le_refl _) dX12_look_74 ⟨rfl, rfl, rfl, rfl⟩
            · replace hF := am_yes c_7 hF
              refine g_aload_n (pc := 59) dX12_look_59 rfl rfl ?_
              refine g_getI (pc := 60) (k := 55) kf_X12_155.r rfl rfl (hPl.lt (by decide)) dX12_look_60 ?_
              cases hF
              exact g_iret (pc := 63) rfl (Nat.le_refl _) (Nat.le_refl _) dX12_look_63 ⟨rfl, rfl, rfl, rfl⟩
          · replace hF := am_yes c_6 hF
            refine g_aload_n (pc := 49) dX12_look_49 rfl rfl ?_
            refine g_getI (pc := 50) (k := 55) kf_X12_161.r rfl rfl (hPl.lt (by decide)) dX12_look_50 ?_
            cases hF
            exact g_iret (pc := 53) rfl (Nat.le_refl _) (Nat.le_refl _) dX12_look_53 ⟨rfl, rfl, rfl, rfl⟩
        · replace hF := am_yes c_5 hF
          refine g_aload_n (pc := 39) dX12_look_39 rfl rfl ?_
          refine g_getI (pc := 40) (k := 55) kf_X12_152.r rfl rfl (hPl.lt (by decide)) dX12_look_40 ?_
          cases hF
          exact g_iret (pc := 43) rfl (Nat.le_refl _) (Nat.le_refl _) dX12_look_43 ⟨rfl, rfl, rfl, rfl⟩
      · replace hF := am_yes c_4 hF
        refine g_aload_n (pc := 29) dX12_look_29 rfl rfl ?_
        refine g_getI (pc := 30) (k := 55) kf_X12_145.r rfl rfl (hPl.lt (by decide)) dX12_look_30 ?_
        cases hF
        exact g_iret (pc := 33) rfl (Nat.le_refl _) (Nat.le_refl _) dX12_look_33 ⟨rfl, rfl, rfl, rfl⟩
    · replace hF := am_yes c_3 hF
      refine g_aload_n (pc := 19) dX12_look_19 rfl rfl ?_
      refine g_getI (pc := 20) (k := 55) kf_X12_142.r rfl rfl (hPl.lt (by decide)) dX12_look_20 ?_
      cases hF
      exact g_iret (pc := 23) rfl (Nat.le_refl _) (Nat.le_refl _) dX12_look_23 ⟨rfl, rfl, rfl, rfl⟩
  · replace hF := am_yes c_2 hF
    refine g_aload_n (pc := 9) dX12_look_9 rfl rfl ?_
    refine g_getI (pc := 10) (k := 55) kf_X12_7.r rfl rfl (hPl.lt (by decide)) dX12_look_10 ?_
    cases hF
    exact g_iret (pc := 13) rfl (Nat.le_refl _) (Nat.le_refl _) dX12_look_13 ⟨rfl, rfl, rfl, rfl⟩
