def F_X12_goesBy_55 (I : am_IT) : Option (am_IT) := am_let (up2 I 55 13 ((I 55 13) + (1 : Int32))) (fun (I_1 : am_IT) => am_b1 (F_X12_judges_55 I_1 (7 : Int32)) (fun (I_3 : am_IT) => am_b2 (F_X12_becomes_55 I_3 (7 : Int32)) (fun (r_5 : Int32) (I_6 : am_IT) => if (I_6 55 5) = 0 then (some I_6) else (if (I_6 55 4) = 0 then (some I_6) else (am_b2 (F_X12_draw_55 I_6 (I_6 55 5)) (fun (r_10 : Int32) (I_11 : am_IT) => am_b2 (F_X12_draw_55 I_11 (I_11 55 4)) (fun (r_13 : Int32) (I_14 : am_IT) => if am_ix r_10 7 = true then (if am_ix (((7 : Int32) * (I_14 57 r_10.toNatClampNeg)) + r_13) 56 = true then (if (I_14 83 (((7 : Int32) * (I_14 57 r_10.toNatClampNeg)) + r_13).toNatClampNeg) = 0 then (some I_14) else (am_b1 (am_it am_fu (am_u2 (fun (l3_18 : Int32) (l4_19 : Int32) => if (I_14 55 2) ≤ l4_19 then (some (.inr (l3_18))) else (if am_ix (((4 : Int32) * r_10) + l4_19) 28 = true then (if am_ix (((4 : Int32) * r_10) + l3_18) 28 = true then (if (I_14 63 (((4 : Int32) * r_10) + l4_19).toNatClampNeg) ≤ (I_14 63 (((4 : Int32) * r_10) + l3_18).toNatClampNeg) then (am_let (l4_19 + (1 : Int32)) (fun (l4_30 : Int32) => some (.inl (l3_18, l4_30)))) else (am_let (l4_19 + (1 : Int32)) (fun (l4_31 : Int32) => some (.inl (l4_19, l4_31))))) else none) else none))) ((0 : Int32), (1 : Int32))) (fun (l3_20 : Int32) => if am_ix ((0 : Int32) + r_13) 35 = true then (am_let (up2 I_14 72 ((0 : Int32) + r_13).toNatClampNeg l3_20) (fun (I_33 : am_IT) => some I_33)) else none))) else none) else none)))))))
set_option maxRecDepth 100000 in
set_option maxHeartbeats 4000000 in
theorem s_X12_goesBy_55 {l : Launch} {d N : Nat} {P : am_PT} (hPl : am_Pl 94 N P) (hd : 6 ≤ d) {I : am_IT} {I2 : am_IT} (hF : F_X12_goesBy_55 I = some (I2)) : am_C l d 0 0 mX12_goesBy [.ref 55] N P I (am_qv N P I2) := by
  refine am_body (sc := am_sc0) (n := 4) (by decide +kernel) (by decide) rfl ?_
  change G am_sc0 l d 0 0 mX12_goesBy (am_qv N P I2) 0 [.ref 55, .null, .null, .null, .null] [] N P I 0 0
  unfold F_X12_goesBy_55 at hF
  refine g_aload_n (pc := 0) dX12_goesBy_0 rfl rfl ?_
  refine g_aload_n (pc := 1) dX12_goesBy_1 rfl rfl ?_
  refine g_getI (pc := 2) (k := 55) kf_X12_155.r rfl rfl (hPl.lt (by decide)) dX12_goesBy_2 ?_
  refine g_iconst (pc := 5) (v := (1 : Int32)) dX12_goesBy_5 rfl ?_
  refine g_iadd (pc := 6) dX12_goesBy_6 ?_
  obtain ⟨I_1, e_I_1, hF⟩ := am_let_el hF
  refine n_putI (pc := 7) (k := 55) e_I_1 kf_X12_155 rfl rfl (hPl.lt (by decide)) dX12_goesBy_7 ?_
  refine g_aload_n (pc := 10) dX12_goesBy_10 rfl rfl ?_
  refine g_bipush (pc := 11) (v := (7 : Int32)) dX12_goesBy_11 rfl ?_
  obtain ⟨I_3, h_2, hF⟩ := am_b1_el hF
  refine g_cVv (pc := 13) (k := 55) (As := [.int (7 : Int32)]) (st := []) ky_X12_judges kl_X12_318 (s_X12_judges_55 (d := 5) (hPl) (Nat.le_refl _) h_2) rfl rfl rfl (hPl.lt (by decide)) (Nat.le_trans (by decide) hd) (Nat.le_of_ble_eq_true rfl) (Nat.le_refl _) (Nat.le_refl _) dX12_goesBy_13 ?_
  refine g_aload_n (pc := 16) dX12_goesBy_16 rfl rfl ?_
  refine g_bipush (pc := 17) (v := (7 : Int32)) dX12_goesBy_17 rfl ?_
  obtain ⟨r_5, I_6, h_4, hF⟩ := am_b2_el hF
  refine g_cVi (pc := 19) (k := 55) (As := [.int (7 : Int32)]) (st := []) ky_X12_becomes kl_X12_340 (s_X12_becomes_55 (d := 1) (hPl) (Nat.le_refl _) h_4) rfl rfl rfl (hPl.lt (by decide)) (Nat.le_trans (by decide) hd) (Nat.le_of_ble_eq_true rfl) (Nat.le_refl _) (Nat.le_refl _) dX12_goesBy_19 ?_
  refine g_pop (pc := 22) dX12_goesBy_22 ?_
  refine g_aload_n (pc := 23) dX12_goesBy_23 rfl rfl ?_
  refine g_getI (pc := 24) (k := 55) kf_X12_145.r rfl rfl (hPl.lt (by decide)) dX12_goesBy_24 ?_
  refine g_if_eq (pc := 27) (tgt := 37) dX12_goesBy_27 rfl (fun c_7 => ?_) (fun c_7 => ?_)
  · replace hF := am_yes c_7 hF
    cases hF
    exact g_vret (pc := 37) rfl (Nat.le_refl _) (Nat.le_refl _) dX12_goesBy_37 ⟨rfl, rfl, rfl, rfl⟩
  · replace hF := am_no c_7 hF
    refine g_aload_n (pc := 30) dX12_goesBy_30 rfl rfl ?_
    refine g_getI (pc := 31) (k := 55) kf_X12_142.r rfl rfl (hPl.lt (by decide)) dX12_goesBy_31 ?_
    refine g_if_ne (pc := 34) (tgt := 38) dX12_goesBy_34 rfl (fun c_8 => ?_) (fun c_8 => ?_)
    · replace hF := am_no c_8 hF
      refine g_aload_n (pc := 38) dX12_goesBy_38 rfl rfl ?_
      refine g_aload_n (pc := 39) dX12_goesBy_39 rfl rfl ?_
      refine g_getI (pc := 40) (k := 55) kf_X12_145.r rfl rfl (hPl.lt (by decide)) dX12_goesBy_40 ?_
      obtain ⟨r_10, I_11, h_9, hF⟩ := am_b2_el hF
      refine g_cVi (pc := 43) (k := 55) (As := [.int (I_6 55 5)]) (st := []) ky_X12_draw kl_X12_375 (s_X12_draw_55 (d := 1) (hPl) (Nat.le_refl _) h_9) rfl rfl rfl (hPl.lt (by decide)) (Nat.le_trans (by decide) hd) (Nat.le_of_ble_eq_true rfl) (Nat.le_refl _) (Nat.le_refl _) dX12_goesBy_43 ?_
      refine n_istore_n (pc := 46) (ls2 := [.ref 55, .int r_10, .null, .null, .null]) rfl rfl dX12_goesBy_46 rfl (Nat.le_of_ble_eq_true rfl) ?_
      refine g_aload_n (pc := 47) dX12_goesBy_47 rfl rfl ?_
      refine g_aload_n (pc := 48) dX12_goesBy_48 rfl rfl ?_
      refine g_getI (pc := 49) (k := 55) kf_X12_142.r rfl rfl (hPl.lt (by decide)) dX12_goesBy_49 ?_
      obtain ⟨r_13, I_14, h_12, hF⟩ := am_b2_el hF
      refine g_cVi (pc := 52) (k := 55) (As := [.int (I_11 55 4)]) (st := []) ky_X12_draw kl_X12_375 (s_X12_draw_55 (d := 1) (hPl) (Nat.le_refl _) h_12) rfl rfl rfl (hPl.lt (by decide)) (Nat.le_trans (by decide) hd) (Nat.le_of_ble_eq_true rfl) (Nat.le_refl _) (Nat.le_refl _) dX12_goesBy_52 ?_
      refine n_istore_n (pc := 55) (ls2 := [.ref 55, .int r_10, .int r_13, .null, .null]) rfl rfl dX12_goesBy_55 rfl (Nat.le_of_ble_eq_true rfl) ?_
      refine g_aload_n (pc := 56) dX12_goesBy_56 rfl rfl ?_
      refine g_getR (pc := 57) (k := 55) (r := 83) kf_X12_98.r rfl rfl (hPl.get (by decide) rfl) (hPl.lt (by decide)) dX12_goesBy_57 ?_
      refine g_bipush (pc := 60) (v := (7 : Int32)) dX12_goesBy_60 rfl ?_
      refine g_aload_n (pc := 62) dX12_goesBy_62 rfl rfl ?_
      refine g_getR (pc := 63) (k := 55) (r := 57) kf_X12_17.r rfl rfl (hPl.get (by decide) rfl) (hPl.lt (by decide)) dX12_goesBy_63 ?_
      refine g_iload_n (pc := 66) dX12_goesBy_66 rfl rfl ?_
      obtain ⟨c_15, hF⟩ := am_gd hF
      refine g_iald (pc := 67) (k := 57) rfl (hPl.lt (by decide)) (am_ix_use c_15) dX12_goesBy_67 ?_
      refine g_imul (pc := 68) dX12_goesBy_68 ?_
      refine g_iload_n (pc := 69) dX12_goesBy_69 rfl rfl ?_
      refine g_iadd (pc := 70) dX12_goesBy_70 ?_
      obtain ⟨c_16, hF⟩ := am_gd hF
      refine g_iald (pc := 71) (k := 83) rfl (hPl.lt (by decide)) (am_ix_use c_16) dX12_goesBy_71 ?_
      refine g_if_ne (pc := 72) (tgt := 76) dX12_goesBy_72 rfl (fun c_17 => ?_) (fun c_17 => ?_)
      · replace hF := am_no c_17 hF
        refine g_iconst (pc := 76) (v := (0 : Int32)) dX12_goesBy_76 rfl ?_
        refine n_istore_n (pc := 77) (ls2 := [.ref 55, .int r_10, .int r_13, .int (0 : Int32), .null]) rfl rfl dX12_goesBy_77 rfl (Nat.le_of_ble_eq_true rfl) ?_
        refine g_iconst (pc := 78) (v := (1 : Int32)) dX12_goesBy_78 rfl ?_
        refine n_istore (pc := 79) (ls2 := [.ref 55, .int r_10, .int r_13, .int (0 : Int32), .int (1 : Int32)]) rfl rfl dX12_goesBy_79 (Nat.le_of_ble_eq_true rfl) ?_
        obtain ⟨l3_20, hL_24, hF⟩ := am_b1_el hF
        have hX_21 : G am_sc0 l d 0 0 mX12_goesBy (am_qv N P I2) 123 [.ref 55, .int r_10, .int r_13, .int l3_20, .null] [] N P I_14 0 0 := by
          refine g_aload_n (pc := 123) dX12_goesBy_123 rfl rfl ?_
          refine g_getR (pc := 124) (k := 55) (r := 72) kf_X12_62.r rfl rfl (hPl.get (by decide) rfl) (hPl.lt (by decide)) dX12_goesBy_124 ?_
          refine g_iconst (pc := 127) (v := (0 : Int32)) dX12_goesBy_127 rfl ?_
          refine g_iload_n (pc := 128) dX12_goesBy_128 rfl rfl ?_
          refine g_iadd (pc := 129) dX12_goesBy_129 ?_
          refine g_iload_n (pc := 130) dX12_goesBy_130 rfl rfl ?_
          obtain ⟨c_32, hF⟩ := am_gd hF
          obtain ⟨I_33, e_I_33, hF⟩ := am_let_el hF
          refine n_iast (pc := 131) (k := 72) e_I_33 rfl (hPl.lt (by decide)) (am_ix_use c_32) dX12_goesBy_131 ?_
          cases hF
          exact g_vret (pc := 132) rfl (Nat.le_refl _) (Nat.le_refl _) dX12_goesBy_132 ⟨rfl, rfl, rfl, rfl⟩
        clear hF
        have hC := am_loop (C := fun x => G am_sc0 l d 0 0 mX12_goesBy (am_qv N P I2) 81 [.ref 55, .int r_10, .int r_13, .int x.1, .int x.2] [] N P I_14 0 0) (by
          rintro ⟨l3_18, l4_19⟩ rr hF ih_22 hE_23
          replace hF := am_u2_ap hF
          change G am_sc0 l d 0 0 mX12_goesBy (am_qv N P I2) 81 [.ref 55, .int r_10, .int r_13, .int l3_18, .int l4_19] [] N P I_14 0 0
          refine g_iload (pc := 81) dX12_goesBy_81 rfl ?_
          refine g_aload_n (pc := 83) dX12_goesBy_83 rfl rfl ?_
          refine g_getI (pc := 84) (k := 55) kf_X12_7.r rfl rfl (hPl.lt (by decide)) dX12_goesBy_84 ?_
          refine g_icmp_ge (pc := 87) (tgt := 123) dX12_goesBy_87 rfl (fun c_26 => ?_) (fun c_26 => ?_)
          · replace hF := am_yes c_26 hF
            cases hF
            cases hE_23 _ rfl
            exact g_weak hX_21 ⟨Or.inr rfl, Or.inr rfl, Or.inr rfl, Or.inr rfl, Or.inl rfl, trivial⟩
          · replace hF := am_no c_26 hF
            refine g_aload_n (pc := 90) dX12_goesBy_90 rfl rfl ?_
            refine g_getR (pc := 91) (k := 55) (r := 63) kf_X12_35.r rfl rfl (hPl.get (by decide) rfl) (hPl.lt (by decide)) dX12_goesBy_91 ?_
            refine g_iconst (pc := 94) (v := (4 : Int32)) dX12_goesBy_94 rfl ?_
            refine g_iload_n (pc := 95) dX12_goesBy_95 rfl rfl ?_
            refine g_imul (pc := 96) dX12_goesBy_96 ?_
            refine g_iload (pc := 97) dX12_goesBy_97 rfl ?_
            refine g_iadd (pc := 99) dX12_goesBy_99 ?_
            obtain ⟨c_27, hF⟩ := am_gd hF
            refine g_iald (pc := 100) (k := 63) rfl (hPl.lt (by decide)) (am_ix_use c_27) dX12_goesBy_100 ?_
            refine g_aload_n (pc := 101) dX12_goesBy_101 rfl rfl ?_
            refine g_getR (pc := 102) (k := 55) (r := 63) kf_X12_35.r rfl rfl (hPl.get (by decide) rfl) (hPl.lt (by decide)) dX12_goesBy_102 ?_
            refine g_iconst (pc := 105) (v := (4 : Int32)) dX12_goesBy_105 rfl ?_
            refine g_iload_n (pc := 106) dX12_goesBy_106 rfl rfl ?_
            refine g_imul (pc := 107) dX12_goesBy_107 ?_
            refine g_iload_n (pc := 108) dX12_goesBy_108 rfl rfl ?_
            refine g_iadd (pc := 109) dX12_goesBy_109 ?_
            obtain ⟨c_28, hF⟩ := am_gd hF
            refine g_iald (pc := 110) (k := 63) rfl (hPl.lt (by decide)) (am_ix_use c_28) dX12_goesBy_110 ?_
            refine g_icmp_le (pc := 111) (tgt := 117) dX12_goesBy_111 rfl (fun c_29 => ?_) (fun c_29 => ?_)
            · replace hF := am_yes c_29 hF
              obtain ⟨l4_30, e_l4_30, hF⟩ := am_let_el hF
              refine n_iinc (pc := 117) (ls2 := [.ref 55, .int r_10, .int r_13, .int l3_18, .int l4_30]) e_l4_30 rfl rfl rfl dX12_goesBy_117 (Nat.le_of_ble_eq_true rfl) ?_
              refine g_goto (pc := 120) (tgt := 81) dX12_goesBy_120 rfl ?_
              cases hF
              exact ih_22 (l3_18, l4_30) rfl
            · replace hF := am_no c_29 hF
              refine g_iload (pc := 114) dX12_goesBy_114 rfl ?_
              refine n_istore_n (pc := 116) (ls2 := [.ref 55, .int r_10, .int r_13, .int l4_19, .int l4_19]) rfl rfl dX12_goesBy_116 rfl (Nat.le_of_ble_eq_true rfl) ?_
              obtain ⟨l4_31, e_l4_31, hF⟩ := am_let_el hF
              refine n_iinc (pc := 117) (ls2 := [.ref 55, .int r_10, .int r_13, .int l4_19, .int l4_31]) e_l4_31 rfl rfl rfl dX12_goesBy_117 (Nat.le_of_ble_eq_true rfl) ?_
              refine g_goto (pc := 120) (tgt := 81) dX12_goesBy_120 rfl ?_
              cases hF
              exact ih_22 (l4_19, l4_31) rfl
          ) _ _ hL_24
        exact hC
      · replace hF := am_yes c_17 hF
        cases hF
        exact g_vret (pc := 75) rfl (Nat.le_refl _) (Nat.le_refl _) dX12_goesBy_75 ⟨rfl, rfl, rfl, rfl⟩
    · replace hF := am_yes c_8 hF
      cases hF
      exact g_vret (pc := 37) rfl (Nat.le_refl _) (Nat.le_refl _) dX12_goesBy_37 ⟨rfl, rfl, rfl, rfl⟩
def F_X12_years_55 (I : am_IT) (a1 : Int32) : Option (Int32 × am_IT) := am_let (up2 I 55 0 (0 : Int32)) (fun (I_1 : am_IT) => am_b1 (F_X12_isIn_55 I_1 a1 (1 : Int32) (60 : Int32)) (fun (r_3 : Int32) => if r_3 = 0 then (some ((-1 : Int32), I_1)) else (if ((I_1 55 13) + a1) ≤ (999 : Int32) then (am_b1 (am_it am_fu (am_u2 (fun (l2_7 : Int32) (I_8 : am_IT) => if a1 ≤ l2_7 then (some (.inr (I_8))) else (am_b1 (F_X12_goesBy_55 I_8) (fun (I_17 : am_IT) => am_let (l2_7 + (1 : Int32)) (fun (l2_18 : Int32) => some (.inl (l2_18, I_17))))))) ((0 : Int32), I_1)) (fun (I_9 : am_IT) => some (I_9 55 13, I_9))) else (some ((-1 : Int32), I_1)))))
set_option maxRecDepth 100000 in
set_option maxHeartbeats 4000000 in
theorem s_X12_years_55 {l : Launch} {d N : Nat} {P : am_PT} (hPl : am_Pl 94 N P) (hd : 7 ≤ d) {I : am_IT} {a1 : Int32} {r : Int32} {I2 : am_IT} (hF : F_X12_years_55 I a1 = some (r, I2)) : am_C l d 0 0 mX12_years [.ref 55, .int a1] N P I (am_qi r N P I2) := by
  refine am_body (sc := am_sc0) (n := 1) (by decide +kernel) (by decide) rfl ?_
  change G am_sc0 l d 0 0 mX12_years (am_qi r N P I2) 0 [.ref 55, .int a1, .null] [] N P I 0 0
  unfold F_X12_years_55 at hF
  refine g_aload_n (pc := 0) dX12_years_0 rfl rfl ?_
  refine g_iconst (pc := 1) (v := (0 : Int32)) dX12_years_1 rfl ?_
  obtain ⟨I_1, e_I_1, hF⟩ := am_let_el hF
  refine n_putI (pc := 2) (k := 55) e_I_1 kf_X12_134 rfl rfl (hPl.lt (by decide)) dX12_years_2 ?_
  refine g_aload_n (pc := 5) dX12_years_5 rfl rfl ?_
  refine g_iload_n (pc := 6) dX12_years_6 rfl rfl ?_
  refine g_iconst (pc := 7) (v := (1 : Int32)) dX12_years_7 rfl ?_
  refine g_bipush (pc := 8) (v := (60 : Int32)) dX12_years_8 rfl ?_
  obtain ⟨r_3, h_2, hF⟩ := am_b1_el hF
  refine g_cVz (pc := 10) (k := 55) (As := [.int a1, .int (1 : Int32), .int (60 : Int32)]) (st := []) ky_X12_isIn kl_X12_148 (s_X12_isIn_55 (d := 1) (hPl) (Nat.le_refl _) h_2) rfl rfl rfl (hPl.lt (by decide)) (Nat.le_trans (by decide) hd) (Nat.le_of_ble_eq_true rfl) (Nat.le_refl _) (Nat.le_refl _) dX12_years_10 ?_
  intro z_4
  refine g_if_eq (pc := 13) (tgt := 28) dX12_years_13 rfl (fun c_5 => ?_) (fun c_5 => ?_)
  · replace hF := am_yes c_5 hF
    refine g_iconst (pc := 28) (v := (-1 : Int32)) dX12_years_28 (by decide) ?_
    cases hF
    exact g_iret (pc := 29) rfl (Nat.le_refl _) (Nat.le_refl _) dX12_years_29 ⟨rfl, rfl, rfl, rfl⟩
  · replace hF := am_no c_5 hF
    refine g_aload_n (pc := 16) dX12_years_16 rfl rfl ?_
    refine g_getI (pc := 17) (k := 55) kf_X12_155.r rfl rfl (hPl.lt (by decide)) dX12_years_17 ?_
    refine g_iload_n (pc := 20) dX12_years_20 rfl rfl ?_
    refine g_iadd (pc := 21) dX12_years_21 ?_
    refine g_sipush (pc := 22) (v := (999 : Int32)) dX12_years_22 rfl ?_
    refine g_icmp_le (pc := 25) (tgt := 30) dX12_years_25 rfl (fun c_6 => ?_) (fun c_6 => ?_)
    · replace hF := am_yes c_6 hF
      refine g_iconst (pc := 30) (v := (0 : Int32)) dX12_years_30 rfl ?_
      refine n_istore_n (pc := 31) (ls2 := [.ref 55, .int a1, .int (0 : Int32)]) rfl rfl dX12_years_31 rfl (Nat.le_of_ble_eq_true rfl) ?_
      obtain ⟨I_9, hL_13, hF⟩ := am_b1_el hF
      have hX_10 : G am_sc0 l d 0 0 mX12_years (am_qi r N P I2) 47 [.ref 55, .int a1, .null] [] N P I_9 0 0 := by
        refine g_aload_n (pc := 47) dX12_years_47 rfl rfl ?_
        refine g_getI (pc := 48) (k := 55) kf_X12_155.r rfl rfl (hPl.lt (by decide)) dX12_years_48 ?_
        cases hF
        exact g_iret (pc := 51) rfl (Nat.le_refl _) (Nat.le_refl _) dX12_years_51 ⟨rfl, rfl, rfl, rfl⟩
      clear hF
      have hC := am_loop (C := fun x => G am_sc0 l d 0 0 mX12_years (am_qi r N P I2) 32 [.ref 55, .int a1, .int x.1] [] N P x.2 0 0) (by
        rintro ⟨l2_7, I_8⟩ rr hF ih_11 hE_12
        replace hF := am_u2_ap hF
        change G am_sc0 l d 0 0 mX12_years (am_qi r N P I2) 32 [.ref 55, .int a1, .int l2_7] [] N P I_8 0 0
        refine g_iload_n (pc := 32) dX12_years_32 rfl rfl ?_
        refine g_iload_n (pc := 33) dX12_years_33 rfl rfl ?_
        refine g_icmp_ge (pc := 34) (tgt := 47) dX12_years_34 rfl (fun c_15 => ?_) (fun c_15 => ?_)
        · replace hF := am_yes c_15 hF
          cases hF
          cases hE_12 _ rfl
          exact g_weak hX_10 ⟨Or.inr rfl, Or.inr rfl, Or.inl rfl, trivial⟩
        · replace hF := am_no c_15 hF
          refine g_aload_n (pc := 37) dX12_years_37 rfl rfl ?_
          obtain ⟨I_17, h_16, hF⟩ := am_b1_el hF
          refine g_cVv (pc := 38) (k := 55) (As := []) (st := []) ky_X12_goesBy kl_X12_378 (s_X12_goesBy_55 (d := 6) (hPl) (Nat.le_refl _) h_16) rfl rfl rfl (hPl.lt (by decide)) (Nat.le_trans (by decide) hd) (Nat.le_of_ble_eq_true rfl) (Nat.le_refl _) (Nat.le_refl _) dX12_years_38 ?_
          obtain ⟨l2_18, e_l2_18, hF⟩ := am_let_el hF
          refine n_iinc (pc := 41) (ls2 := [.ref 55, .int a1, .int l2_18]) e_l2_18 rfl rfl rfl dX12_years_41 (Nat.le_of_ble_eq_true rfl) ?_
          refine g_goto (pc := 44) (tgt := 32) dX12_years_44 rfl ?_
          cases hF
          exact ih_11 (l2_18, I_17) rfl
        ) _ _ hL_13
      exact hC
    · replace hF := am_no c_6 hF
      refine g_iconst (pc := 28) (v := (-1 : Int32)) dX12_years_28 (by decide) ?_
      cases hF
      exact g_iret (pc := 29) rfl (Nat.le_refl _) (Nat.le_refl _) dX12_years_29 ⟨rfl, rfl, rfl, rfl⟩
def F_X12_kept_55 (I : am_IT) (a1 : Int32) : Option (Int32 × am_IT) := am_let (up2 I 55 66 ((I 55 66) + (1 : Int32))) (fun (I_1 : am_IT) => if (I_1 55 64) = 0 then (if am_ix ((I_1 55 66) - (1 : Int32)) 1450 = true then (some (I_1 93 ((I_1 55 66) - (1 : Int32)).toNatClampNeg, I_1)) else none) else (if am_ix ((I_1 55 66) - (1 : Int32)) 1450 = true then (am_let (up2 I_1 93 ((I_1 55 66) - (1 : Int32)).toNatClampNeg a1) (fun (I_4 : am_IT) => some (a1, I_4))) else none))
set_option maxRecDepth 100000 in
set_option maxHeartbeats 4000000 in
theorem s_X12_kept_55 {l : Launch} {d N : Nat} {P : am_PT} (hPl : am_Pl 94 N P) (hd : 1 ≤ d) {I : am_IT} {a1 : Int32} {r : Int32} {I2 : am_IT} (hF : F_X12_kept_55 I a1 = some (r, I2)) : am_C l d 0 0 mX12_kept [.ref 55, .int a1] N P I (am_qi r N P I2) := by
  refine am_body (sc := am_sc0) (n := 0) (by decide +kernel) (by decide) rfl ?_
  change G am_sc0 l d 0 0 mX12_kept (am_qi r N P I2) 0 [.ref 55, .int a1] [] N P I 0 0
  unfold F_X12_kept_55 at hF
  refine g_aload_n (pc := 0) dX12_kept_0 rfl rfl ?_
  refine g_aload_n (pc := 1) dX12_kept_1 rfl rfl ?_
  refine g_getI (pc := 2) (k := 55) kf_X12_381.r rfl rfl (hPl.lt (by decide)) dX12_kept_2 ?_
  refine g_iconst (pc := 5) (v := (1 : Int32)) dX12_kept_5 rfl ?_
  refine g_iadd (pc := 6) dX12_kept_6 ?_
  obtain ⟨I_1, e_I_1, hF⟩ := am_let_el hF
  refine n_putI (pc := 7) (k := 55) e_I_1 kf_X12_381 rfl rfl (hPl.lt (by decide)) dX12_kept_7 ?_
  refine g_aload_n (pc := 10) dX12_kept_10 rfl rfl ?_
  refine g_getI (pc := 11) (k := 55) kf_X12_384.r rfl rfl (hPl.lt (by decide)) dX12_kept_11 ?_
  refine g_if_ne (pc := 14) (tgt := 29) dX12_kept_14 rfl (fun c_2 => ?_) (fun c_2 => ?_)
  · replace hF := am_no c_2 hF
    refine g_aload_n (pc := 29) dX12_kept_29 rfl rfl ?_
    refine g_getR (pc := 30) (k := 55) (r := 93) kf_X12_131.r rfl rfl (hPl.get (by decide) rfl) (hPl.lt (by decide)) dX12_kept_30 ?_
    refine g_aload_n (pc := 33) dX12_kept_33 rfl rfl ?_
    refine g_getI (pc := 34) (k := 55) kf_X12_381.r rfl rfl (hPl.lt (by decide)) dX12_kept_34 ?_
    refine g_iconst (pc := 37) (v := (1 : Int32)) dX12_kept_37 rfl ?_
    refine g_isub (pc := 38) dX12_kept_38 ?_
    refine g_iload_n (pc := 39) dX12_kept_39 rfl rfl ?_
    obtain ⟨c_3, hF⟩ := am_gd hF
    obtain ⟨I_4, e_I_4, hF⟩ := am_let_el hF
    refine n_iast (pc := 40) (k := 93) e_I_4 rfl (hPl.lt (by decide)) (am_ix_use c_3) dX12_kept_40 ?_
    refine g_iload_n (pc := 41) dX12_kept_41 rfl rfl ?_
    cases hF
    exact g_iret (pc := 42) rfl (Nat.le_refl _) (Nat.le_refl _) dX12_kept_42 ⟨rfl, rfl, rfl, rfl⟩
  · replace hF := am_yes c_2 hF
    refine g_aload_n (pc := 17) dX12_kept_17 rfl rfl ?_
    refine g_getR (pc := 18) (k := 55) (r := 93) kf_X12_131.r rfl rfl (hPl.get (by decide) rfl) (hPl.lt (by decide)) dX12_kept_18 ?_
    refine g_aload_n (pc := 21) dX12_kept_21 rfl rfl ?_
    refine g_getI (pc := 22) (k := 55) kf_X12_381.r rfl rfl (hPl.lt (by decide)) dX12_kept_22 ?_
    refine g_iconst (pc := 25) (v := (1 : Int32)) dX12_kept_25 rfl ?_
    refine g_isub (pc := 26) dX12_kept_26 ?_
    obtain ⟨c_5, hF⟩ := am_gd hF
    refine g_iald (pc := 27) (k := 93) rfl (hPl.lt (by decide)) (am_ix_use c_5) dX12_kept_27 ?_
    cases hF
    exact g_iret (pc := 28) rfl (Nat.le_refl _) (Nat.le_refl _) dX12_kept_28 ⟨rfl, rfl, rfl, rfl⟩
def F_X12_keepsPeople_55 (I : am_IT) : Option (am_IT) := am_b2 (F_X12_kept_55 I (I 55 5)) (fun (r_2 : Int32) (I_3 : am_IT) => am_let (up2 I_3 55 5 r_2) (fun (I_4 : am_IT) => am_b1 (am_it am_fu (am_u2 (fun (l1_5 : Int32) (I_6 : am_IT) => if (7 : Int32) ≤ l1_5 then (some (.inr (I_6))) else (if am_ix l1_5 7 = true then (am_b2 (F_X12_kept_55 I_6 (I_6 57 l1_5.toNatClampNeg)) (fun (r_16 : Int32) (I_17 : am_IT) => if am_ix l1_5 7 = true then (am_let (up2 I_17 57 l1_5.toNatClampNeg r_16) (fun (I_19 : am_IT) => if am_ix l1_5 7 = true then (am_b2 (F_X12_kept_55 I_19 (I_19 65 l1_5.toNatClampNeg)) (fun (r_22 : Int32) (I_23 : am_IT) => if am_ix l1_5 7 = true then (am_let (up2 I_23 65 l1_5.toNatClampNeg r_22) (fun (I_25 : am_IT) => am_let (l1_5 + (1 : Int32)) (fun (l1_26 : Int32) => some (.inl (l1_26, I_25))))) else none)) else none)) else none)) else none))) ((0 : Int32), I_4)) (fun (I_7 : am_IT) => am_b1 (am_it am_fu (am_u2 (fun (l1_27 : Int32) (I_28 : am_IT) => if (28 : Int32) ≤ l1_27 then (some (.inr (I_28))) else (if am_ix l1_27 28 = true then (am_b2 (F_X12_kept_55 I_28 (I_28 63 l1_27.toNatClampNeg)) (fun (r_38 : Int32) (I_39 : am_IT) => if am_ix l1_27 28 = true then (am_let (up2 I_39 63 l1_27.toNatClampNeg r_38) (fun (I_41 : am_IT) => if am_ix l1_27 28 = true then (am_b2 (F_X12_kept_55 I_41 (I_41 64 l1_27.toNatClampNeg)) (fun (r_44 : Int32) (I_45 : am_IT) => if am_ix l1_27 28 = true then (am_let (up2 I_45 64 l1_27.toNatClampNeg r_44) (fun (I_47 : am_IT) => am_let (l1_27 + (1 : Int32)) (fun (l1_48 : Int32) => some (.inl (l1_48, I_47))))) else none)) else none)) else none)) else none))) ((0 : Int32), I_7)) (fun (I_29 : am_IT) => am_b2 (F_X12_kept_55 I_29 (I_29 55 18)) (fun (r_50 : Int32) (I_51 : am_IT) => am_let (up2 I_51 55 18 r_50) (fun (I_52 : am_IT) => am_b1 (am_it am_fu (am_u2 (fun (l1_53 : Int32) (I_54 : am_IT) => if (40 : Int32) ≤ l1_53 then (some (.inr (I_54))) else (if am_ix l1_53 40 = true then (am_b2 (F_X12_kept_55 I_54 (I_54 67 l1_53.toNatClampNeg)) (fun (r_64 : Int32) (I_65 : am_IT) => if am_ix l1_53 40 = true then (am_let (up2 I_65 67 l1_53.toNatClampNeg r_64) (fun (I_67 : am_IT) => if am_ix l1_53 40 = true then (am_b2 (F_X12_kept_55 I_67 (I_67 68 l1_53.toNatClampNeg)) (fun (r_70 : Int32) (I_71 : am_IT) => if am_ix l1_53 40 = true then (am_let (up2 I_71 68 l1_53.toNatClampNeg r_70) (fun (I_73 : am_IT) => if am_ix l1_53 40 = true then (am_b2 (F_X12_kept_55 I_73 (I_73 69 l1_53.toNatClampNeg)) (fun (r_76 : Int32) (I_77 : am_IT) => if am_ix l1_53 40 = true then (am_let (up2 I_77 69 l1_53.toNatClampNeg r_76) (fun (I_79 : am_IT) => am_let (l1_53 + (1 : Int32)) (fun (l1_80 : Int32) => some (.inl (l1_80, I_79))))) else none)) else none)) else none)) else none)) else none)) else none))) ((0 : Int32), I_52)) (fun (I_55 : am_IT) => some I_55)))))))
set_option maxRecDepth 100000 in
set_option maxHeartbeats 4000000 in
theorem s_X12_keepsPeople_55 {l : Launch} {d N : Nat} {P : am_PT} (hPl : am_Pl 94 N P) (hd : 2 ≤ d) {I : am_IT} {I2 : am_IT} (hF : F_X12_keepsPeople_55 I = some (I2)) : am_C l d 0 0 mX12_keepsPeople [.ref 55] N P I (am_qv N P I2) := by
  refine am_body (sc := am_sc0) (n := 1) (by decide +kernel) (by decide) rfl ?_
  change G am_sc0 l d 0 0 mX12_keepsPeople (am_qv N P I2) 0 [.ref 55, .null] [] N P I 0 0
  unfold F_X12_keepsPeople_55 at hF
  refine g_aload_n (pc := 0) dX12_keepsPeople_0 rfl rfl ?_
  refine g_aload_n (pc := 1) dX12_keepsPeople_1 rfl rfl ?_
  refine g_aload_n (pc := 2) dX12_keepsPeople_2 rfl rfl ?_
  refine g_getI (pc := 3) (k := 55) kf_X12_145.r rfl rfl (hPl.lt (by decide)) dX12_keepsPeople_3 ?_
  obtain ⟨r_2, I_3, h_1, hF⟩ := am_b2_el hF
  refine g_cVi (pc := 6) (k := 55) (As := [.int (I 55 5)]) (st := [.ref 55]) ky_X12_kept kl_X12_388 (s_X12_kept_55 (d := 1) (hPl) (Nat.le_refl _) h_1) rfl rfl rfl (hPl.lt (by decide)) (Nat.le_trans (by decide) hd) (Nat.le_of_ble_eq_true rfl) (Nat.le_refl _) (Nat.le_refl _) dX12_keepsPeople_6 ?_
  obtain ⟨I_4, e_I_4, hF⟩ := am_let_el hF
  refine n_putI (pc := 9) (k := 55) e_I_4 kf_X12_145 rfl rfl (hPl.lt (by decide)) dX12_keepsPeople_9 ?_
  refine g_iconst (pc := 12) (v := (0 : Int32)) dX12_keepsPeople_12 rfl ?_
  refine n_istore_n (pc := 13) (ls2 := [.ref 55, .int (0 : Int32)]) rfl rfl dX12_keepsPeople_13 rfl (Nat.le_of_ble_eq_true rfl) ?_
  obtain ⟨I_7, hL_11, hF⟩ := am_b1_el hF
  have hX_8 : G am_sc0 l d 0 0 mX12_keepsPeople (am_qv N P I2) 58 [.ref 55, .null] [] N P I_7 0 0 := by
    refine g_iconst (pc := 58) (v := (0 : Int32)) dX12_keepsPeople_58 rfl ?_
    refine n_istore_n (pc := 59) (ls2 := [.ref 55, .int (0 : Int32)]) rfl rfl dX12_keepsPeople_59 rfl (Nat.le_of_ble_eq_true rfl) ?_
    obtain ⟨I_29, hL_33, hF⟩ := am_b1_el hF
    have hX_30 : G am_sc0 l d 0 0 mX12_keepsPeople (am_qv N P I2) 104 [.ref 55, .null] [] N P I_29 0 0 := by
      refine g_aload_n (pc := 104) dX12_keepsPeople_104 rfl rfl ?_
      refine g_aload_n (pc := 105) dX12_keepsPeople_105 rfl rfl ?_
      refine g_aload_n (pc := 106) dX12_keepsPeople_106 rfl rfl ?_
      refine g_getI (pc := 107) (k := 55) kf_X12_158.r rfl rfl (hPl.lt (by decide)) dX12_keepsPeople_107 ?_
      obtain ⟨r_50, I_51, h_49, hF⟩ := am_b2_el hF
      refine g_cVi (pc := 110) (k := 55) (As := [.int (I_29 55 18)]) (st := [.ref 55]) ky_X12_kept kl_X12_388 (s_X12_kept_55 (d := 1) (hPl) (Nat.le_refl _) h_49) rfl rfl rfl (hPl.lt (by decide)) (Nat.le_trans (by decide) hd) (Nat.le_of_ble_eq_true rfl) (Nat.le_refl _) (Nat.le_refl _) dX12_keepsPeople_110 ?_
      obtain ⟨I_52, e_I_52, hF⟩ := am_let_el hF
      refine n_putI (pc := 113) (k := 55) e_I_52 kf_X12_158 rfl rfl (hPl.lt (by decide)) dX12_keepsPeople_113 ?_
      refine g_iconst (pc := 116) (v := (0 : Int32)) dX12_keepsPeople_116 rfl ?_
      refine n_istore_n (pc := 117) (ls2 := [.ref 55, .int (0 : Int32)]) rfl rfl dX12_keepsPeople_117 rfl (Nat.le_of_ble_eq_true rfl) ?_
      obtain ⟨I_55, hL_59, hF⟩ := am_b1_el hF
      have hX_56 : G am_sc0 l d 0 0 mX12_keepsPeople (am_qv N P I2) 178 [.ref 55, .null] [] N P I_55 0 0 := by
        cases hF
        exact g_vret (pc := 178) rfl (Nat.le_refl _) (Nat.le_refl _) dX12_keepsPeople_178 ⟨rfl, rfl, rfl, rfl⟩
      clear hF
      have hC := am_loop (C := fun x => G am_sc0 l d 0 0 mX12_keepsPeople (am_qv N P I2) 118 [.ref 55, .int x.1] [] N P x.2 0 0) (by
        rintro ⟨l1_53, I_54⟩ rr hF ih_57 hE_58
        replace hF := am_u2_ap hF
        change G am_sc0 l d 0 0 mX12_keepsPeople (am_qv N P I2) 118 [.ref 55, .int l1_53] [] N P I_54 0 0
        refine g_iload_n (pc := 118) dX12_keepsPeople_118 rfl rfl ?_
        refine g_bipush (pc := 119) (v := (40 : Int32)) dX12_keepsPeople_119 rfl ?_
        refine g_icmp_ge (pc := 121) (tgt := 178) dX12_keepsPeople_121 rfl (fun c_61 => ?_) (fun c_61 => ?_)
        · replace hF := am_yes c_61 hF
          cases hF
          cases hE_58 _ rfl
          exact g_weak hX_56 ⟨Or.inr rfl, Or.inl rfl, trivial⟩
        · replace hF := am_no c_61 hF
          refine g_aload_n (pc := 124) dX12_keepsPeople_124 rfl rfl ?_
          refine g_getR (pc := 125) (k := 55) (r := 67) kf_X12_47.r rfl rfl (hPl.get (by decide) rfl) (hPl.lt (by decide)) dX12_keepsPeople_125 ?_
          refine g_iload_n (pc := 128) dX12_keepsPeople_128 rfl rfl ?_
          refine g_aload_n (pc := 129) dX12_keepsPeople_129 rfl rfl ?_
          refine g_aload_n (pc := 130) dX12_keepsPeople_130 rfl rfl ?_
          refine g_getR (pc := 131) (k := 55) (r := 67) kf_X12_47.r rfl rfl (hPl.get (by decide) rfl) (hPl.lt (by decide)) dX12_keepsPeople_131 ?_
          refine g_iload_n (pc := 134) dX12_keepsPeople_134 rfl rfl ?_
          obtain ⟨c_62, hF⟩ := am_gd hF
          refine g_iald (pc := 135) (k := 67) rfl (hPl.lt (by decide)) (am_ix_use c_62) dX12_keepsPeople_135 ?_
          obtain ⟨r_64, I_65, h_63, hF⟩ := am_b2_el hF
          refine g_cVi (pc := 136) (k := 55) (As := [.int (I_54 67 l1_53.toNatClampNeg)]) (st := [.int l1_53, .ref 67]) ky_X12_kept kl_X12_388 (s_X12_kept_55 (d := 1) (hPl) (Nat.le_refl _) h_63) rfl rfl rfl (hPl.lt (by decide)) (Nat.le_trans (by decide) hd) (Nat.le_of_ble_eq_true rfl) (Nat.le_refl _) (Nat.le_refl _) dX12_keepsPeople_136 ?_
          obtain ⟨c_66, hF⟩ := am_gd hF
          obtain ⟨I_67, e_I_67, hF⟩ := am_let_el hF
          refine n_iast (pc := 139) (k := 67) e_I_67 rfl (hPl.lt (by decide)) (am_ix_use c_66) dX12_keepsPeople_139 ?_
          refine g_aload_n (pc := 140) dX12_keepsPeople_140 rfl rfl ?_
          refine g_getR (pc := 141) (k := 55) (r := 68) kf_X12_50.r rfl rfl (hPl.get (by decide) rfl) (hPl.lt (by decide)) dX12_keepsPeople_141 ?_
          refine g_iload_n (pc := 144) dX12_keepsPeople_144 rfl rfl ?_
          refine g_aload_n (pc := 145) dX12_keepsPeople_145 rfl rfl ?_
          refine g_aload_n (pc := 146) dX12_keepsPeople_146 rfl rfl ?_
          refine g_getR (pc := 147) (k := 55) (r := 68) kf_X12_50.r rfl rfl (hPl.get (by decide) rfl) (hPl.lt (by decide)) dX12_keepsPeople_147 ?_
          refine g_iload_n (pc := 150) dX12_keepsPeople_150 rfl rfl ?_
          obtain ⟨c_68, hF⟩ := am_gd hF
          refine g_iald (pc := 151) (k := 68) rfl (hPl.lt (by decide)) (am_ix_use c_68) dX12_keepsPeople_151 ?_
          obtain ⟨r_70, I_71, h_69, hF⟩ := am_b2_el hF
          refine g_cVi (pc := 152) (k := 55) (As := [.int (I_67 68 l1_53.toNatClampNeg)]) (st := [.int l1_53, .ref 68]) ky_X12_kept kl_X12_388 (s_X12_kept_55 (d := 1) (hPl) (Nat.le_refl _) h_69) rfl rfl rfl (hPl.lt (by decide)) (Nat.le_trans (by decide) hd) (Nat.le_of_ble_eq_true rfl) (Nat.le_refl _) (Nat.le_refl _) dX12_keepsPeople_152 ?_
          obtain ⟨c_72, hF⟩ := am_gd hF
          obtain ⟨I_73, e_I_73, hF⟩ := am_let_el hF
          refine n_iast (pc := 155) (k := 68) e_I_73 rfl (hPl.lt (by decide)) (am_ix_use c_72) dX12_keepsPeople_155 ?_
          refine g_aload_n (pc := 156) dX12_keepsPeople_156 rfl rfl ?_
          refine g_getR (pc := 157) (k := 55) (r := 69) kf_X12_53.r rfl rfl (hPl.get (by decide) rfl) (hPl.lt (by decide)) dX12_keepsPeople_157 ?_
          refine g_iload_n (pc := 160) dX12_keepsPeople_160 rfl rfl ?_
          refine g_aload_n (pc := 161) dX12_keepsPeople_161 rfl rfl ?_
          refine g_aload_n (pc := 162) dX12_keepsPeople_162 rfl rfl ?_
          refine g_getR (pc := 163) (k := 55) (r := 69) kf_X12_53.r rfl rfl (hPl.get (by decide) rfl) (hPl.lt (by decide)) dX12_keepsPeople_163 ?_
          refine g_iload_n (pc := 166) dX12_keepsPeople_166 rfl rfl ?_
          obtain ⟨c_74, hF⟩ := am_gd hF
          refine g_iald (pc := 167) (k := 69) rfl (hPl.lt (by decide)) (am_ix_use c_74) dX12_keepsPeople_167 ?_
          obtain ⟨r_76, I_77, h_75, hF⟩ := am_b2_el hF
          refine g_cVi (pc := 168) (k := 55) (As := [.int (I_73 69 l1_53.toNatClampNeg)]) (st := [.int l1_53, .ref 69]) ky_X12_kept kl_X12_388 (s_X12_kept_55 (d := 1) (hPl) (Nat.le_refl _) h_75) rfl rfl rfl (hPl.lt (by decide)) (Nat.le_trans (by decide) hd) (Nat.le_of_ble_eq_true rfl) (Nat.le_refl _) (Nat.le_refl _) dX12_keepsPeople_168 ?_
          obtain ⟨c_78, hF⟩ := am_gd hF
          obtain ⟨I_79, e_I_79, hF⟩ := am_let_el hF
          refine n_iast (pc := 171) (k := 69) e_I_79 rfl (hPl.lt (by decide)) (am_ix_use c_78) dX12_keepsPeople_171 ?_
          obtain ⟨l1_80, e_l1_80, hF⟩ := am_let_el hF
          refine n_iinc (pc := 172) (ls2 := [.ref 55, .int l1_80]) e_l1_80 rfl rfl rfl dX12_keepsPeople_172 (Nat.le_of_ble_eq_true rfl) ?_
          refine g_goto (pc := 175) (tgt := 118) dX12_keepsPeople_175 rfl ?_
          cases hF
          exact ih_57 (l1_80, I_79) rfl
        ) _ _ hL_59
      exact hC
    clear hF
    have hC := am_loop (C := fun x => G am_sc0 l d 0 0 mX12_keepsPeople (am_qv N P I2) 60 [.ref 55, .int x.1] [] N P x.2 0 0) (by
      rintro ⟨l1_27, I_28⟩ rr hF ih_31 hE_32
      replace hF := am_u2_ap hF
      change G am_sc0 l d 0 0 mX12_keepsPeople (am_qv N P I2) 60 [.ref 55, .int l1_27] [] N P I_28 0 0
      refine g_iload_n (pc := 60) dX12_keepsPeople_60 rfl rfl ?_
      refine g_bipush (pc := 61) (v := (28 : Int32)) dX12_keepsPeople_61 rfl ?_
      refine g_icmp_ge (pc := 63) (tgt := 104) dX12_keepsPeople_63 rfl (fun c_35 => ?_) (fun c_35 => ?_)
      · replace hF := am_yes c_35 hF
        cases hF
        cases hE_32 _ rfl
        exact g_weak hX_30 ⟨Or.inr rfl, Or.inl rfl, trivial⟩
      · replace hF := am_no c_35 hF
        refine g_aload_n (pc := 66) dX12_keepsPeople_66 rfl rfl ?_
        refine g_getR (pc := 67) (k := 55) (r := 63) kf_X12_35.r rfl rfl (hPl.get (by decide) rfl) (hPl.lt (by decide)) dX12_keepsPeople_67 ?_
        refine g_iload_n (pc := 70) dX12_keepsPeople_70 rfl rfl ?_
        refine g_aload_n (pc := 71) dX12_keepsPeople_71 rfl rfl ?_
        refine g_aload_n (pc := 72) dX12_keepsPeople_72 rfl rfl ?_
        refine g_getR (pc := 73) (k := 55) (r := 63) kf_X12_35.r rfl rfl (hPl.get (by decide) rfl) (hPl.lt (by decide)) dX12_keepsPeople_73 ?_
        refine g_iload_n (pc := 76) dX12_keepsPeople_76 rfl rfl ?_
        obtain ⟨c_36, hF⟩ := am_gd hF
        refine g_iald (pc := 77) (k := 63) rfl (hPl.lt (by decide)) (am_ix_use c_36) dX12_keepsPeople_77 ?_
        obtain ⟨r_38, I_39, h_37, hF⟩ := am_b2_el hF
        refine g_cVi (pc := 78) (k := 55) (As := [.int (I_28 63 l1_27.toNatClampNeg)]) (st := [.int l1_27, .ref 63]) ky_X12_kept kl_X12_388 (s_X12_kept_55 (d := 1) (hPl) (Nat.le_refl _) h_37) rfl rfl rfl (hPl.lt (by decide)) (Nat.le_trans (by decide) hd) (Nat.le_of_ble_eq_true rfl) (Nat.le_refl _) (Nat.le_refl _) dX12_keepsPeople_78 ?_
        obtain ⟨c_40, hF⟩ := am_gd hF
        obtain ⟨I_41, e_I_41, hF⟩ := am_let_el hF
        refine n_iast (pc := 81) (k := 63) e_I_41 rfl (hPl.lt (by decide)) (am_ix_use c_40) dX12_keepsPeople_81 ?_
        refine g_aload_n (pc := 82) dX12_keepsPeople_82 rfl rfl ?_
        refine g_getR (pc := 83) (k := 55) (r := 64) kf_X12_38.r rfl rfl (hPl.get (by decide) rfl) (hPl.lt (by decide)) dX12_keepsPeople_83 ?_
        refine g_iload_n (pc := 86) dX12_keepsPeople_86 rfl rfl ?_
        refine g_aload_n (pc := 87) dX12_keepsPeople_87 rfl rfl ?_
        refine g_aload_n (pc := 88) dX12_keepsPeople_88 rfl rfl ?_
        refine g_getR (pc := 89) (k := 55) (r := 64) kf_X12_38.r rfl rfl (hPl.get (by decide) rfl) (hPl.lt (by decide)) dX12_keepsPeople_89 ?_
        refine g_iload_n (pc := 92) dX12_keepsPeople_92 rfl rfl ?_
        obtain ⟨c_42, hF⟩ := am_gd hF
        refine g_iald (pc := 93) (k := 64) rfl (hPl.lt (by decide)) (am_ix_use c_42) dX12_keepsPeople_93 ?_
        obtain ⟨r_44, I_45, h_43, hF⟩ := am_b2_el hF
        refine g_cVi (pc := 94) (k := 55) (As := [.int (I_41 64 l1_27.toNatClampNeg)]) (st := [.int l1_27, .ref 64]) ky_X12_kept kl_X12_388 (s_X12_kept_55 (d := 1) (hPl) (Nat.le_refl _) h_43) rfl rfl rfl (hPl.lt (by decide)) (Nat.le_trans (by decide) hd) (Nat.le_of_ble_eq_true rfl) (Nat.le_refl _) (Nat.le_refl _) dX12_keepsPeople_94 ?_
        obtain ⟨c_46, hF⟩ := am_gd hF
        obtain ⟨I_47, e_I_47, hF⟩ := am_let_el hF
        refine n_iast (pc := 97) (k := 64) e_I_47 rfl (hPl.lt (by decide)) (am_ix_use c_46) dX12_keepsPeople_97 ?_
        obtain ⟨l1_48, e_l1_48, hF⟩ := am_let_el hF
        refine n_iinc (pc := 98) (ls2 := [.ref 55, .int l1_48]) e_l1_48 rfl rfl rfl dX12_keepsPeople_98 (Nat.le_of_ble_eq_true rfl) ?_
        refine g_goto (pc := 101) (tgt := 60) dX12_keepsPeople_101 rfl ?_
        cases hF
        exact ih_31 (l1_48, I_47) rfl
      ) _ _ hL_33
    exact hC
  clear hF
  have hC := am_loop (C := fun x => G am_sc0 l d 0 0 mX12_keepsPeople (am_qv N P I2) 14 [.ref 55, .int x.1] [] N P x.2 0 0) (by
    rintro ⟨l1_5, I_6⟩ rr hF ih_9 hE_10
    replace hF := am_u2_ap hF
    change G am_sc0 l d 0 0 mX12_keepsPeople (am_qv N P I2) 14 [.ref 55, .int l1_5] [] N P I_6 0 0
    refine g_iload_n (pc := 14) dX12_keepsPeople_14 rfl rfl ?_
    refine g_bipush (pc := 15) (v := (7 : Int32)) dX12_keepsPeople_15 rfl ?_
    refine g_icmp_ge (pc := 17) (tgt := 58) dX12_keepsPeople_17 rfl (fun c_13 => ?_) (fun c_13 => ?_)
    · replace hF := am_yes c_13 hF
      cases hF
      cases hE_10 _ rfl
      exact g_weak hX_8 ⟨Or.inr rfl, Or.inl rfl, trivial⟩
    · replace hF := am_no c_13 hF
      refine g_aload_n (pc := 20) dX12_keepsPeople_20 rfl rfl ?_
      refine g_getR (pc := 21) (k := 55) (r := 57) kf_X12_17.r rfl rfl (hPl.get (by decide) rfl) (hPl.lt (by decide)) dX12_keepsPeople_21 ?_
      refine g_iload_n (pc := 24) dX12_keepsPeople_24 rfl rfl ?_
      refine g_aload_n (pc := 25) dX12_keepsPeople_25 rfl rfl ?_
      refine g_aload_n (pc := 26) dX12_keepsPeople_26 rfl rfl ?_
      refine g_getR (pc := 27) (k := 55) (r := 57) kf_X12_17.r rfl rfl (hPl.get (by decide) rfl) (hPl.lt (by decide)) dX12_keepsPeople_27 ?_
      refine g_iload_n (pc := 30) dX12_keepsPeople_30 rfl rfl ?_
      obtain ⟨c_14, hF⟩ := am_gd hF
      refine g_iald (pc := 31) (k := 57) rfl (hPl.lt (by decide)) (am_ix_use c_14) dX12_keepsPeople_31 ?_
      obtain ⟨r_16, I_17, h_15, hF⟩ := am_b2_el hF
      refine g_cVi (pc := 32) (k := 55) (As := [.int (I_6 57 l1_5.toNatClampNeg)]) (st := [.int l1_5, .ref 57]) ky_X12_kept kl_X12_388 (s_X12_kept_55 (d := 1) (hPl) (Nat.le_refl _) h_15) rfl rfl rfl (hPl.lt (by decide)) (Nat.le_trans (by decide) hd) (Nat.le_of_ble_eq_true rfl) (Nat.le_refl _) (Nat.le_refl _) dX12_keepsPeople_32 ?_
      obtain ⟨c_18, hF⟩ := am_gd hF
      obtain ⟨I_19, e_I_19, hF⟩ := am_let_el hF
      refine n_iast (pc := 35) (k := 57) e_I_19 rfl (hPl.lt (by decide)) (am_ix_use c_18) dX12_keepsPeople_35 ?_
      refine g_aload_n (pc := 36) dX12_keepsPeople_36 rfl rfl ?_
      refine g_getR (pc := 37) (k := 55) (r := 65) kf_X12_41.r rfl rfl (hPl.get (by decide) rfl) (hPl.lt (by decide)) dX12_keepsPeople_37 ?_
      refine g_iload_n (pc := 40) dX12_keepsPeople_40 rfl rfl ?_
      refine g_aload_n (pc := 41) dX12_keepsPeople_41 rfl rfl ?_
      refine g_aload_n (pc := 42) dX12_keepsPeople_42 rfl rfl ?_
      refine g_getR (pc := 43) (k := 55) (r := 65) kf_X12_41.r rfl rfl (hPl.get (by decide) rfl) (hPl.lt (by decide)) dX12_keepsPeople_43 ?_
      refine g_iload_n (pc := 46) dX12_keepsPeople_46 rfl rfl ?_
      obtain ⟨c_20, hF⟩ := am_gd hF
      refine g_iald (pc := 47) (k := 65) rfl (hPl.lt (by decide)) (am_ix_use c_20) dX12_keepsPeople_47 ?_
      obtain ⟨r_22, I_23, h_21, hF⟩ := am_b2_el hF
      refine g_cVi (pc := 48) (k := 55) (As := [.int (I_19 65 l1_5.toNatClampNeg)]) (st := [.int l1_5, .ref 65]) ky_X12_kept kl_X12_388 (s_X12_kept_55 (d := 1) (hPl) (Nat.le_refl _) h_21) rfl rfl rfl (hPl.lt (by decide)) (Nat.le_trans (by decide) hd) (Nat.le_of_ble_eq_true rfl) (Nat.le_refl _) (Nat.le_refl _) dX12_keepsPeople_48 ?_
      obtain ⟨c_24, hF⟩ := am_gd hF
      obtain ⟨I_25, e_I_25, hF⟩ := am_let_el hF
      refine n_iast (pc := 51) (k := 65) e_I_25 rfl (hPl.lt (by decide)) (am_ix_use c_24) dX12_keepsPeople_51 ?_
      obtain ⟨l1_26, e_l1_26, hF⟩ := am_let_el hF
      refine n_iinc (pc := 52) (ls2 := [.ref 55, .int l1_26]) e_l1_26 rfl rfl rfl dX12_keepsPeople_52 (Nat.le_of_ble_eq_true rfl) ?_
      refine g_goto (pc := 55) (tgt := 14) dX12_keepsPeople_55 rfl ?_
      cases hF
      exact ih_9 (l1_26, I_25) rfl
    ) _ _ hL_11
  exact hC
def F_X12_keepsRule_55 (I : am_IT) : Option (am_IT) := am_b2 (F_X12_kept_55 I (I 55 32)) (fun (r_2 : Int32) (I_3 : am_IT) => am_let (up2 I_3 55 32 r_2) (fun (I_4 : am_IT) => am_b1 (am_it am_fu (am_u2 (fun (l1_5 : Int32) (I_6 : am_IT) => if (16 : Int32) ≤ l1_5 then (some (.inr (I_6))) else (if am_ix l1_5 32 = true then (am_b2 (F_X12_kept_55 I_6 (I_6 75 l1_5.toNatClampNeg)) (fun (r_16 : Int32) (I_17 : am_IT) => if am_ix l1_5 32 = true then (am_let (up2 I_17 75 l1_5.toNatClampNeg r_16) (fun (I_19 : am_IT) => if am_ix l1_5 32 = true then (am_b2 (F_X12_kept_55 I_19 (I_19 76 l1_5.toNatClampNeg)) (fun (r_22 : Int32) (I_23 : am_IT) => if am_ix l1_5 32 = true then (am_let (up2 I_23 76 l1_5.toNatClampNeg r_22) (fun (I_25 : am_IT) => if am_ix l1_5 32 = true then (am_b2 (F_X12_kept_55 I_25 (I_25 77 l1_5.toNatClampNeg)) (fun (r_28 : Int32) (I_29 : am_IT) => if am_ix l1_5 32 = true then (am_let (up2 I_29 77 l1_5.toNatClampNeg r_28) (fun (I_31 : am_IT) => am_let (l1_5 + (1 : Int32)) (fun (l1_32 : Int32) => some (.inl (l1_32, I_31))))) else none)) else none)) else none)) else none)) else none)) else none))) ((0 : Int32), I_4)) (fun (I_7 : am_IT) => am_b1 (am_it am_fu (am_u2 (fun (l1_33 : Int32) (I_34 : am_IT) => if (400 : Int32) ≤ l1_33 then (some (.inr (I_34))) else (if am_ix l1_33 800 = true then (am_b2 (F_X12_kept_55 I_34 (I_34 78 l1_33.toNatClampNeg)) (fun (r_44 : Int32) (I_45 : am_IT) => if am_ix l1_33 800 = true then (am_let (up2 I_45 78 l1_33.toNatClampNeg r_44) (fun (I_47 : am_IT) => if am_ix l1_33 800 = true then (am_b2 (F_X12_kept_55 I_47 (I_47 79 l1_33.toNatClampNeg)) (fun (r_50 : Int32) (I_51 : am_IT) => if am_ix l1_33 800 = true then (am_let (up2 I_51 79 l1_33.toNatClampNeg r_50) (fun (I_53 : am_IT) => am_let (l1_33 + (1 : Int32)) (fun (l1_54 : Int32) => some (.inl (l1_54, I_53))))) else none)) else none)) else none)) else none))) ((0 : Int32), I_7)) (fun (I_35 : am_IT) => some I_35))))
set_option maxRecDepth 100000 in
set_option maxHeartbeats 4000000 in
theorem s_X12_keepsRule_55 {l : Launch} {d N : Nat} {P : am_PT} (hPl : am_Pl 94 N P) (hd : 2 ≤ d) {I : am_IT} {I2 : am_IT} (hF : F_X12_keepsRule_55 I = some (I2)) : am_C l d 0 0 mX12_keepsRule [.ref 55] N P I (am_qv N P I2) := by
  refine am_body (sc := am_sc0) (n := 1) (by decide +kernel) (by decide) rfl ?_
  change G am_sc0 l d 0 0 mX12_keepsRule (am_qv N P I2) 0 [.ref 55, .null] [] N P I 0 0
  unfold F_X12_keepsRule_55 at hF
  refine g_aload_n (pc := 0) dX12_keepsRule_0 rfl rfl ?_
  refine g_aload_n (pc := 1) dX12_keepsRule_1 rfl rfl ?_
  refine g_aload_n (pc := 2) dX12_keepsRule_2 rfl rfl ?_
  refine g_getI (pc := 3) (k := 55) kf_X12_161.r rfl rfl (hPl.lt (by decide)) dX12_keepsRule_3 ?_
  obtain ⟨r_2, I_3, h_1, hF⟩ := am_b2_el hF
  refine g_cVi (pc := 6) (k := 55) (As := [.int (I 55 32)]) (st := [.ref 55]) ky_X12_kept kl_X12_388 (s_X12_kept_55 (d := 1) (hPl) (Nat.le_refl _) h_1) rfl rfl rfl (hPl.lt (by decide)) (Nat.le_trans (by decide) hd) (Nat.le_of_ble_eq_true rfl) (Nat.le_refl _) (Nat.le_refl _) dX12_keepsRule_6 ?_
  obtain ⟨I_4, e_I_4, hF⟩ := am_let_el hF
  refine n_putI (pc := 9) (k := 55) e_I_4 kf_X12_161 rfl rfl (hPl.lt (by decide)) dX12_keepsRule_9 ?_
  refine g_iconst (pc := 12) (v := (0 : Int32)) dX12_keepsRule_12 rfl ?_
  refine n_istore_n (pc := 13) (ls2 := [.ref 55, .int (0 : Int32)]) rfl rfl dX12_keepsRule_13 rfl (Nat.le_of_ble_eq_true rfl) ?_
  obtain ⟨I_7, hL_11, hF⟩ := am_b1_el hF
  have hX_8 : G am_sc0 l d 0 0 mX12_keepsRule (am_qv N P I2) 74 [.ref 55, .null] [] N P I_7 0 0 := by
    refine g_iconst (pc := 74) (v := (0 : Int32)) dX12_keepsRule_74 rfl ?_
    refine n_istore_n (pc := 75) (ls2 := [.ref 55, .int (0 : Int32)]) rfl rfl dX12_keepsRule_75 rfl (Nat.le_of_ble_eq_true rfl) ?_
    obtain ⟨I_35, hL_39, hF⟩ := am_b1_el hF
    have hX_36 : G am_sc0 l d 0 0 mX12_keepsRule (am_qv N P I2) 121 [.ref 55, .null] [] N P I_35 0 0 := by
      cases hF
      exact g_vret (pc := 121) rfl (Nat.le_refl _) (Nat.le_refl _) dX12_keepsRule_121 ⟨rfl, rfl, rfl, rfl⟩
    clear hF
    have hC := am_loop (C := fun x => G am_sc0 l d 0 0 mX12_keepsRule (am_qv N P I2) 76 [.ref 55, .int x.1] [] N P x.2 0 0) (by
      rintro ⟨l1_33, I_34⟩ rr hF ih_37 hE_38
      replace hF := am_u2_ap hF
      change G am_sc0 l d 0 0 mX12_keepsRule (am_qv N P I2) 76 [.ref 55, .int l1_33] [] N P I_34 0 0
      refine g_iload_n (pc := 76) dX12_keepsRule_76 rfl rfl ?_
      refine g_sipush (pc := 77) (v := (400 : Int32)) dX12_keepsRule_77 rfl ?_
      refine g_icmp_ge (pc := 80) (tgt := 121) dX12_keepsRule_80 rfl (fun c_41 => ?_) (fun c_41 => ?_)
      · replace hF := am_yes c_41 hF
        cases hF
        cases hE_38 _ rfl
        exact g_weak hX_36 ⟨Or.inr rfl, Or.inl rfl, trivial⟩
      · replace hF := am_no c_41 hF
        refine g_aload_n (pc := 83) dX12_keepsRule_83 rfl rfl ?_
        refine g_getR (pc := 84) (k := 55) (r := 78) kf_X12_80.r rfl rfl (hPl.get (by decide) rfl) (hPl.lt (by decide)) dX12_keepsRule_84 ?_
        refine g_iload_n (pc := 87) dX12_keepsRule_87 rfl rfl ?_
        refine g_aload_n (pc := 88) dX12_keepsRule_88 rfl rfl ?_
        refine g_aload_n (pc := 89) dX12_keepsRule_89 rfl rfl ?_
        refine g_getR (pc := 90) (k := 55) (r := 78) kf_X12_80.r rfl rfl (hPl.get (by decide) rfl) (hPl.lt (by decide)) dX12_keepsRule_90 ?_
        refine g_iload_n (pc := 93) dX12_keepsRule_93 rfl rfl ?_
        obtain ⟨c_42, hF⟩ := am_gd hF
        refine g_iald (pc := 94) (k := 78) rfl (hPl.lt (by decide)) (am_ix_use c_42) dX12_keepsRule_94 ?_
        obtain ⟨r_44, I_45, h_43, hF⟩ := am_b2_el hF
        refine g_cVi (pc := 95) (k := 55) (As := [.int (I_34 78 l1_33.toNatClampNeg)]) (st := [.int l1_33, .ref 78]) ky_X12_kept kl_X12_388 (s_X12_kept_55 (d := 1) (hPl) (Nat.le_refl _) h_43) rfl rfl rfl (hPl.lt (by decide)) (Nat.le_trans (by decide) hd) (Nat.le_of_ble_eq_true rfl) (Nat.le_refl _) (Nat.le_refl _) dX12_keepsRule_95 ?_
        obtain ⟨c_46, hF⟩ := am_gd hF
        obtain ⟨I_47, e_I_47, hF⟩ := am_let_el hF
        refine n_iast (pc := 98) (k := 78) e_I_47 rfl (hPl.lt (by decide)) (am_ix_use c_46) dX12_keepsRule_98 ?_
        refine g_aload_n (pc := 99) dX12_keepsRule_99 rfl rfl ?_
        refine g_getR (pc := 100) (k := 55) (r := 79) kf_X12_83.r rfl rfl (hPl.get (by decide) rfl) (hPl.lt (by decide)) dX12_keepsRule_100 ?_
        refine g_iload_n (pc := 103) dX12_keepsRule_103 rfl rfl ?_
        refine g_aload_n (pc := 104) dX12_keepsRule_104 rfl rfl ?_
        refine g_aload_n (pc := 105) dX12_keepsRule_105 rfl rfl ?_
        refine g_getR (pc := 106) (k := 55) (r := 79) kf_X12_83.r rfl rfl (hPl.get (by decide) rfl) (hPl.lt (by decide)) dX12_keepsRule_106 ?_
        refine g_iload_n (pc := 109) dX12_keepsRule_109 rfl rfl ?_
        obtain ⟨c_48, hF⟩ := am_gd hF
        refine g_iald (pc := 110) (k := 79) rfl (hPl.lt (by decide)) (am_ix_use c_48) dX12_keepsRule_110 ?_
        obtain ⟨r_50, I_51, h_49, hF⟩ := am_b2_el hF
        refine g_cVi (pc := 111) (k := 55) (As := [.int (I_47 79 l1_33.toNatClampNeg)]) (st := [.int l1_33, .ref 79]) ky_X12_kept kl_X12_388 (s_X12_kept_55 (d := 1) (hPl) (Nat.le_refl _) h_49) rfl rfl rfl (hPl.lt (by decide)) (Nat.le_trans (by decide) hd) (Nat.le_of_ble_eq_true rfl) (Nat.le_refl _) (Nat.le_refl _) dX12_keepsRule_111 ?_
        obtain ⟨c_52, hF⟩ := am_gd hF
        obtain ⟨I_53, e_I_53, hF⟩ := am_let_el hF
        refine n_iast (pc := 114) (k := 79) e_I_53 rfl (hPl.lt (by decide)) (am_ix_use c_52) dX12_keepsRule_114 ?_
        obtain ⟨l1_54, e_l1_54, hF⟩ := am_let_el hF
        refine n_iinc (pc := 115) (ls2 := [.ref 55, .int l1_54]) e_l1_54 rfl rfl rfl dX12_keepsRule_115 (Nat.le_of_ble_eq_true rfl) ?_
        refine g_goto (pc := 118) (tgt := 76) dX12_keepsRule_118 rfl ?_
        cases hF
        exact ih_37 (l1_54, I_53) rfl
      ) _ _ hL_39
    exact hC
  clear hF
  have hC := am_loop (C := fun x => G am_sc0 l d 0 0 mX12_keepsRule (am_qv N P I2) 14 [.ref 55, .int x.1] [] N P x.2 0 0) (by
    rintro ⟨l1_5, I_6⟩ rr hF ih_9 hE_10
    replace hF := am_u2_ap hF
    change G am_sc0 l d 0 0 mX12_keepsRule (am_qv N P I2) 14 [.ref 55, .int l1_5] [] N P I_6 0 0
    refine g_iload_n (pc := 14) dX12_keepsRule_14 rfl rfl ?_
    refine g_bipush (pc := 15) (v := (16 : Int32)) dX12_keepsRule_15 rfl ?_
    refine g_icmp_ge (pc := 17) (tgt := 74) dX12_keepsRule_17 rfl (fun c_13 => ?_) (fun c_13 => ?_)
    · replace hF := am_yes c_13 hF
      cases hF
      cases hE_10 _ rfl
      exact g_weak hX_8 ⟨Or.inr rfl, Or.inl rfl, trivial⟩
    · replace hF := am_no c_13 hF
      refine g_aload_n (pc := 20) dX12_keepsRule_20 rfl rfl ?_
      refine g_getR (pc := 21) (k := 55) (r := 75) kf_X12_71.r rfl rfl (hPl.get (by decide) rfl) (hPl.lt (by decide)) dX12_keepsRule_21 ?_
      refine g_iload_n (pc := 24) dX12_keepsRule_24 rfl rfl ?_
      refine g_aload_n (pc := 25) dX12_keepsRule_25 rfl rfl ?_
      refine g_aload_n (pc := 26) dX12_keepsRule_26 rfl rfl ?_
      refine g_getR (pc := 27) (k := 55) (r := 75) kf_X12_71.r rfl rfl (hPl.get (by decide) rfl) (hPl.lt (by decide)) dX12_keepsRule_27 ?_
      refine g_iload_n (pc := 30) dX12_keepsRule_30 rfl rfl ?_
      obtain ⟨c_14, hF⟩ := am_gd hF
      refine g_iald (pc := 31) (k := 75) rfl (hPl.lt (by decide)) (am_ix_use c_14) dX12_keepsRule_31 ?_
      obtain ⟨r_16, I_17, h_15, hF⟩ := am_b2_el hF
      refine g_cVi (pc := 32) (k := 55) (As := [.int (I_6 75 l1_5.toNatClampNeg)]) (st := [.int l1_5, .ref 75]) ky_X12_kept kl_X12_388 (s_X12_kept_55 (d := 1) (hPl) (Nat.le_refl _) h_15) rfl rfl rfl (hPl.lt (by decide)) (Nat.le_trans (by decide) hd) (Nat.le_of_ble_eq_true rfl) (Nat.le_refl _) (Nat.le_refl _) dX12_keepsRule_32 ?_
      obtain ⟨c_18, hF⟩ := am_gd hF
      obtain ⟨I_19, e_I_19, hF⟩ := am_let_el hF
      refine n_iast (pc := 35) (k := 75) e_I_19 rfl (hPl.lt (by decide)) (am_ix_use c_18) dX12_keepsRule_35 ?_
      refine g_aload_n (pc := 36) dX12_keepsRule_36 rfl rfl ?_
      refine g_getR (pc := 37) (k := 55) (r := 76) kf_X12_74.r rfl rfl (hPl.get (by decide) rfl) (hPl.lt (by decide)) dX12_keepsRule_37 ?_
      refine g_iload_n (pc := 40) dX12_keepsRule_40 rfl rfl ?_
      refine g_aload_n (pc := 41) dX12_keepsRule_41 rfl rfl ?_
      refine g_aload_n (pc := 42) dX12_keepsRule_42 rfl rfl ?_
      refine g_getR (pc := 43) (k := 55) (r := 76) kf_X12_74.r rfl rfl (hPl.get (by decide) rfl) (hPl.lt (by decide)) dX12_keepsRule_43 ?_
      refine g_iload_n (pc := 46) dX12_keepsRule_46 rfl rfl ?_
      obtain ⟨c_20, hF⟩ := am_gd hF
      refine g_iald (pc := 47) (k := 76) rfl (hPl.lt (by decide)) (am_ix_use c_20) dX12_keepsRule_47 ?_
      obtain ⟨r_22, I_23, h_21, hF⟩ := am_b2_el hF
      refine g_cVi (pc := 48) (k := 55) (As := [.int (I_19 76 l1_5.toNatClampNeg)]) (st := [.int l1_5, .ref 76]) ky_X12_kept kl_X12_388 (s_X12_kept_55 (d := 1) (hPl) (Nat.le_refl _) h_21) rfl rfl rfl (hPl.lt (by decide)) (Nat.le_trans (by decide) hd) (Nat.le_of_ble_eq_true rfl) (Nat.le_refl _) (Nat.le_refl _) dX12_keepsRule_48 ?_
      obtain ⟨c_24, hF⟩ := am_gd hF
      obtain ⟨I_25, e_I_25, hF⟩ := am_let_el hF
      refine n_iast (pc := 51) (k := 76) e_I_25 rfl (hPl.lt (by decide)) (am_ix_use c_24) dX12_keepsRule_51 ?_
      refine g_aload_n (pc := 52) dX12_keepsRule_52 rfl rfl ?_
      refine g_getR (pc := 53) (k := 55) (r := 77) kf_X12_77.r rfl rfl (hPl.get (by decide) rfl) (hPl.lt (by decide)) dX12_keepsRule_53 ?_
      refine g_iload_n (pc := 56) dX12_keepsRule_56 rfl rfl ?_
      refine g_aload_n (pc := 57) dX12_keepsRule_57 rfl rfl ?_
      refine g_aload_n (pc := 58) dX12_keepsRule_58 rfl rfl ?_
      refine g_getR (pc := 59) (k := 55) (r := 77) kf_X12_77.r rfl rfl (hPl.get (by decide) rfl) (hPl.lt (by decide)) dX12_keepsRule_59 ?_
      refine g_iload_n (pc := 62) dX12_keepsRule_62 rfl rfl ?_
      obtain ⟨c_26, hF⟩ := am_gd hF
      refine g_iald (pc := 63) (k := 77) rfl (hPl.lt (by decide)) (am_ix_use c_26) dX12_keepsRule_63 ?_
      obtain ⟨r_28, I_29, h_27, hF⟩ := am_b2_el hF
      refine g_cVi (pc := 64) (k := 55) (As := [.int (I_25 77 l1_5.toNatClampNeg)]) (st := [.int l1_5, .ref 77]) ky_X12_kept kl_X12_388 (s_X12_kept_55 (d := 1) (hPl) (Nat.le_refl _) h_27) rfl rfl rfl (hPl.lt (by decide)) (Nat.le_trans (by decide) hd) (Nat.le_of_ble_eq_true rfl) (Nat.le_refl _) (Nat.le_refl _) dX12_keepsRule_64 ?_
      obtain ⟨c_30, hF⟩ := am_gd hF
      obtain ⟨I_31, e_I_31, hF⟩ := am_let_el hF
      refine n_iast (pc := 67) (k := 77) e_I_31 rfl (hPl.lt (by decide)) (am_ix_use c_30) dX12_keepsRule_67 ?_
      obtain ⟨l1_32, e_l1_32, hF⟩ := am_let_el hF
      refine n_iinc (pc := 68) (ls2 := [.ref 55, .int l1_32]) e_l1_32 rfl rfl rfl dX12_keepsRule_68 (Nat.le_of_ble_eq_true rfl) ?_
      refine g_goto (pc := 71) (tgt := 14) dX12_keepsRule_71 rfl ?_
      cases hF
      exact ih_9 (l1_32, I_31) rfl
    ) _ _ hL_11
  exact hC
def F_X12_image_55 (I : am_IT) (a1 : Int32) : Option (Int32 × am_IT) := am_let (up2 I 55 0 (0 : Int32)) (fun (I_1 : am_IT) => if a1 = 0 then (if (I_1 55 65) = 0 then (some ((0 : Int32), I_1)) else (if a1 = 0 ∨ a1 = 1 then (am_let (up2 I_1 55 64 a1) (fun (I_153 : am_IT) => am_let (up2 I_153 55 65 (1 : Int32)) (fun (I_154 : am_IT) => am_let (up2 I_154 55 66 (0 : Int32)) (fun (I_155 : am_IT) => am_b2 (F_X12_kept_55 I_155 (I_155 55 1)) (fun (r_157 : Int32) (I_158 : am_IT) => am_let (up2 I_158 55 1 r_157) (fun (I_159 : am_IT) => am_b2 (F_X12_kept_55 I_159 (I_159 55 2)) (fun (r_161 : Int32) (I_162 : am_IT) => am_let (up2 I_162 55 2 r_161) (fun (I_163 : am_IT) => am_b2 (F_X12_kept_55 I_163 (I_163 55 13)) (fun (r_165 : Int32) (I_166 : am_IT) => am_let (up2 I_166 55 13 r_165) (fun (I_167 : am_IT) => am_b2 (F_X12_kept_55 I_167 (I_167 55 4)) (fun (r_169 : Int32) (I_170 : am_IT) => am_let (up2 I_170 55 4 r_169) (fun (I_171 : am_IT) => am_b1 (am_it am_fu (am_u2 (fun (l2_172 : Int32) (I_173 : am_IT) => if (7 : Int32) ≤ l2_172 then (some (.inr (I_173))) else (if am_ix ((0 : Int32) + l2_172) 35 = true then (am_b2 (F_X12_kept_55 I_173 (I_173 72 ((0 : Int32) + l2_172).toNatClampNeg)) (fun (r_183 : Int32) (I_184 : am_IT) => if am_ix ((0 : Int32) + l2_172) 35 = true then (am_let (up2 I_184 72 ((0 : Int32) + l2_172).toNatClampNeg r_183) (fun (I_186 : am_IT) => am_let (l2_172 + (1 : Int32)) (fun (l2_187 : Int32) => some (.inl (l2_187, I_186))))) else none)) else none))) ((0 : Int32), I_171)) (fun (I_174 : am_IT) => am_b1 (am_it am_fu (am_u2 (fun (l2_188 : Int32) (I_189 : am_IT) => if (4 : Int32) ≤ l2_188 then (some (.inr (I_189))) else (if am_ix l2_188 4 = true then (am_b2 (F_X12_kept_55 I_189 (I_189 56 l2_188.toNatClampNeg)) (fun (r_199 : Int32) (I_200 : am_IT) => if am_ix l2_188 4 = true then (am_let (up2 I_200 56 l2_188.toNatClampNeg r_199) (fun (I_202 : am_IT) => am_let (l2_188 + (1 : Int32)) (fun (l2_203 : Int32) => some (.inl (l2_203, I_202))))) else none)) else none))) ((0 : Int32), I_174)) (fun (I_190 : am_IT) => am_b1 (am_it am_fu (am_u2 (fun (l2_204 : Int32) (I_205 : am_IT) => if (56 : Int32) ≤ l2_204 then (some (.inr (I_205))) else (if am_ix l2_204 56 = true then (am_b2 (F_X12_kept_55 I_205 (I_205 58 l2_204.toNatClampNeg)) (fun (r_215 : Int32) (I_216 : am_IT) => if am_ix l2_204 56 = true then (am_let (up2 I_216 58 l2_204.toNatClampNeg r_215) (fun (I_218 : am_IT) => am_let (l2_204 + (1 : Int32)) (fun (l2_219 : Int32) => some (.inl (l2_219, I_218))))) else none)) else none))) ((0 : Int32), I_190)) (fun (I_206 : am_IT) => am_b1 (am_it am_fu (am_u2 (fun (l2_220 : Int32) (I_221 : am_IT) => if (49 : Int32) ≤ l2_220 then (some (.inr (I_221))) else (if am_ix l2_220 49 = true then (am_b2 (F_X12_kept_55 I_221 (I_221 66 l2_220.toNatClampNeg)) (fun (r_231 : Int32) (I_232 : am_IT) => if am_ix l2_220 49 = true then (am_let (up2 I_232 66 l2_220.toNatClampNeg r_231) (fun (I_234 : am_IT) => am_let (l2_220 + (1 : Int32)) (fun (l2_235 : Int32) => some (.inl (l2_235, I_234))))) else none)) else none))) ((0 : Int32), I_206)) (fun (I_222 : am_IT) => am_b2 (F_X12_kept_55 I_222 (I_222 55 8)) (fun (r_237 : Int32) (I_238 : am_IT) => am_let (up2 I_238 55 8 r_237) (fun (I_239 : am_IT) => am_b1 (am_it am_fu (am_u2 (fun (l2_240 : Int32) (I_241 : am_IT) => if (20 : Int32) ≤ l2_240 then (some (.inr (I_241))) else (if am_ix l2_240 20 = true then (am_b2 (F_X12_kept_55 I_241 (I_241 59 l2_240.toNatClampNeg)) (fun (r_251 : Int32) (I_252 : am_IT) => if am_ix l2_240 20 = true then (am_let (up2 I_252 59 l2_240.toNatClampNeg r_251) (fun (I_254 : am_IT) => if am_ix l2_240 20 = true then (am_b2 (F_X12_kept_55 I_254 (I_254 60 l2_240.toNatClampNeg)) (fun (r_257 : Int32) (I_258 : am_IT) => if am_ix l2_240 20 = true then (am_let (up2 I_258 60 l2_240.toNatClampNeg r_257) (fun (I_260 : am_IT) => if am_ix l2_240 20 = true then (am_b2 (F_X12_kept_55 I_260 (I_260 61 l2_240.toNatClampNeg)) (fun (r_263 : Int32) (I_264 : am_IT) => if am_ix l2_240 20 = true then (am_let (up2 I_264 61 l2_240.toNatClampNeg r_263) (fun (I_266 : am_IT) => if am_ix l2_240 20 = true then (am_b2 (F_X12_kept_55 I_266 (I_266 62 l2_240.toNatClampNeg)) (fun (r_269 : Int32) (I_270 : am_IT) => if am_ix l2_240 20 = true then (am_let (up2 I_270 62 l2_240.toNatClampNeg r_269) (fun (I_272 : am_IT) => am_let (l2_240 + (1 : Int32)) (fun (l2_273 : Int32) => some (.inl (l2_273, I_272))))) else none)) else none)) else none)) else none)) else none)) else none)) else none)) else none))) ((0 : Int32), I_239)) (fun (I_242 : am_IT) => am_b1 (am_it am_fu (am_u2 (fun (l2_274 : Int32) (I_275 : am_IT) => if (9 : Int32) ≤ l2_274 then (some (.inr (I_275))) else (if am_ix l2_274 9 = true then (am_b2 (F_X12_kept_55 I_275 (I_275 70 l2_274.toNatClampNeg)) (fun (r_285 : Int32) (I_286 : am_IT) => if am_ix l2_274 9 = true then (am_let (up2 I_286 70 l2_274.toNatClampNeg r_285) (fun (I_288 : am_IT) => if am_ix l2_274 9 = true then (am_b2 (F_X12_kept_55 I_288 (I_288 71 l2_274.toNatClampNeg)) (fun (r_291 : Int32) (I_292 : am_IT) => if am_ix l2_274 9 = true then (am_let (up2 I_292 71 l2_274.toNatClampNeg r_291) (fun (I_294 : am_IT) => am_let (l2_274 + (1 : Int32)) (fun (l2_295 : Int32) => some (.inl (l2_295, I_294))))) else none)) else none)) else none)) else none))) ((0 : Int32), I_242)) (fun (I_276 : am_IT) => am_b1 (F_X12_keepsPeople_55 I_276) (fun (I_297 : am_IT) => am_b1 (F_X12_keepsRule_55 I_297) (fun (I_299 : am_IT) => some ((1 : Int32), I_299))))))))))))))))))))))) else none)) else (if a1 = 0 ∨ a1 = 1 then (am_let (up2 I_1 55 64 a1) (fun (I_4 : am_IT) => am_let (up2 I_4 55 65 (1 : Int32)) (fun (I_5 : am_IT) => am_let (up2 I_5 55 66 (0 : Int32)) (fun (I_6 : am_IT) => am_b2 (F_X12_kept_55 I_6 (I_6 55 1)) (fun (r_8 : Int32) (I_9 : am_IT) => am_let (up2 I_9 55 1 r_8) (fun (I_10 : am_IT) => am_b2 (F_X12_kept_55 I_10 (I_10 55 2)) (fun (r_12 : Int32) (I_13 : am_IT) => am_let (up2 I_13 55 2 r_12) (fun (I_14 : am_IT) => am_b2 (F_X12_kept_55 I_14 (I_14 55 13)) (fun (r_16 : Int32) (I_17 : am_IT) => am_let (up2 I_17 55 13 r_16) (fun (I_18 : am_IT) => am_b2 (F_X12_kept_55 I_18 (I_18 55 4)) (fun (r_20 : Int32) (I_21 : am_IT) => am_let (up2 I_21 55 4 r_20) (fun (I_22 : am_IT) => am_b1 (am_it am_fu (am_u2 (fun (l2_23 : Int32) (I_24 : am_IT) => if (7 : Int32) ≤ l2_23 then (some (.inr (I_24))) else (if am_ix ((0 : Int32) + l2_23) 35 = true then (am_b2 (F_X12_kept_55 I_24 (I_24 72 ((0 : Int32) + l2_23).toNatClampNeg)) (fun (r_34 : Int32) (I_35 : am_IT) => if am_ix ((0 : Int32) + l2_23) 35 = true then (am_let (up2 I_35 72 ((0 : Int32) + l2_23).toNatClampNeg r_34) (fun (I_37 : am_IT) => am_let (l2_23 + (1 : Int32)) (fun (l2_38 : Int32) => some (.inl (l2_38, I_37))))) else none)) else none))) ((0 : Int32), I_22)) (fun (I_25 : am_IT) => am_b1 (am_it am_fu (am_u2 (fun (l2_39 : Int32) (I_40 : am_IT) => if (4 : Int32) ≤ l2_39 then (some (.inr (I_40))) else (if am_ix l2_39 4 = true then (am_b2 (F_X12_kept_55 I_40 (I_40 56 l2_39.toNatClampNeg)) (fun (r_50 : Int32) (I_51 : am_IT) => if am_ix l2_39 4 = true then (am_let (up2 I_51 56 l2_39.toNatClampNeg r_50) (fun (I_53 : am_IT) => am_let (l2_39 + (1 : Int32)) (fun (l2_54 : Int32) => some (.inl (l2_54, I_53))))) else none)) else none))) ((0 : Int32), I_25)) (fun (I_41 : am_IT) => am_b1 (am_it am_fu (am_u2 (fun (l2_55 : Int32) (I_56 : am_IT) => if (56 : Int32) ≤ l2_55 then (some (.inr (I_56))) else (if am_ix l2_55 56 = true then (am_b2 (F_X12_kept_55 I_56 (I_56 58 l2_55.toNatClampNeg)) (fun (r_66 : Int32) (I_67 : am_IT) => if am_ix l2_55 56 = true then (am_let (up2 I_67 58 l2_55.toNatClampNeg r_66) (fun (I_69 : am_IT) => am_let (l2_55 + (1 : Int32)) (fun (l2_70 : Int32) => some (.inl (l2_70, I_69))))) else none)) else none))) ((0 : Int32), I_41)) (fun (I_57 : am_IT) => am_b1 (am_it am_fu (am_u2 (fun (l2_71 : Int32) (I_72 : am_IT) => if (49 : Int32) ≤ l2_71 then (some (.inr (I_72))) else (if am_ix l2_71 49 = true then (am_b2 (F_X12_kept_55 I_72 (I_72 66 l2_71.toNatClampNeg)) (fun (r_82 : Int32) (I_83 : am_IT) => if am_ix l2_71 49 = true then (am_let (up2 I_83 66 l2_71.toNatClampNeg r_82) (fun (I_85 : am_IT) => am_let (l2_71 + (1 : Int32)) (fun (l2_86 : Int32) => some (.inl (l2_86, I_85))))) else none)) else none))) ((0 : Int32), I_57)) (fun (I_73 : am_IT) => am_b2 (F_X12_kept_55 I_73 (I_73 55 8)) (fun (r_88 : Int32) (I_89 : am_IT) => am_let (up2 I_89 55 8 r_88) (fun (I_90 : am_IT) => am_b1 (am_it am_fu (am_u2 (fun (l2_91 : Int32) (I_92 : am_IT) => if (20 : Int32) ≤ l2_91 then (some (.inr (I_92))) else (if am_ix l2_91 20 = true then (am_b2 (F_X12_kept_55 I_92 (I_92 59 l2_91.toNatClampNeg)) (fun (r_102 : Int32) (I_103 : am_IT) => if am_ix l2_91 20 = true then (am_let (up2 I_103 59 l2_91.toNatClampNeg r_102) (fun (I_105 : am_IT) => if am_ix l2_91 20 = true then (am_b2 (F_X12_kept_55 I_105 (I_105 60 l2_91.toNatClampNeg)) (fun (r_108 : Int32) (I_109 : am_IT) => if am_ix l2_91 20 = true then (am_let (up2 I_109 60 l2_91.toNatClampNeg r_108) (fun (I_111 : am_IT) => if am_ix l2_91 20 = true then (am_b2 (F_X12_kept_55 I_111 (I_111 61 l2_91.toNatClampNeg)) (fun (r_114 : Int32) (I_115 : am_IT) => if am_ix l2_91 20 = true then (am_let (up2 I_115 61 l2_91.toNatClampNeg r_114) (fun (I_117 : am_IT) => if am_ix l2_91 20 = true then (am_b2 (F_X12_kept_55 I_117 (I_117 62 l2_91.toNatClampNeg)) (fun (r_120 : Int32) (I_121 : am_IT) => if am_ix l2_91 20 = true then (am_let (up2 I_121 62 l2_91.toNatClampNeg r_120) (fun (I_123 : am_IT) => am_let (l2_91 + (1 : Int32)) (fun (l2_124 : Int32) => some (.inl (l2_124, I_123))))) else none)) else none)) else none)) else none)) else none)) else none)) else none)) else none))) ((0 : Int32), I_90)) (fun (I_93 : am_IT) => am_b1 (am_it am_fu (am_u2 (fun (l2_125 : Int32) (I_126 : am_IT) => if (9 : Int32) ≤ l2_125 then (some (.inr (I_126))) else (if am_ix l2_125 9 = true then (am_b2 (F_X12_kept_55 I_126 (I_126 70 l2_125.toNatClampNeg)) (fun (r_136 : Int32) (I_137 : am_IT) => if am_ix l2_125 9 = true then (am_let (up2 I_137 70 l2_125.toNatClampNeg r_136) (fun (I_139 : am_IT) => if am_ix l2_125 9 = true then (am_b2 (F_X12_kept_55 I_139 (I_139 71 l2_125.toNatClampNeg)) (fun (r_142 : Int32) (I_143 : am_IT) => if am_ix l2_125 9 = true then (am_let (up2 I_143 71 l2_125.toNatClampNeg r_142) (fun (I_145 : am_IT) => am_let (l2_125 + (1 : Int32)) (fun (l2_146 : Int32) => some (.inl (l2_146, I_145))))) else none)) else none)) else none)) else none))) ((0 : Int32), I_93)) (fun (I_127 : am_IT) => am_b1 (F_X12_keepsPeople_55 I_127) (fun (I_148 : am_IT) => am_b1 (F_X12_keepsRule_55 I_148) (fun (I_150 : am_IT) => some ((1 : Int32), I_150))))))))))))))))))))))) else none))
set_option maxRecDepth 100000 in
set_option maxHeartbeats 4000000 in
theorem s_X12_image_55 {l : Launch} {d N : Nat} {P : am_PT} (hPl : am_Pl 94 N P) (hd : 3 ≤ d) {I : am_IT} {a1 : Int32} {r : Int32} {I2 : am_IT} (hF : F_X12_image_55 I a1 = some (r, I2)) : am_C l d 0 0 mX12_image [.ref 55, .int a1] N P I (am_qz r N P I2) := by
  refine am_body (sc := am_sc0) (n := 1) (by decide +kernel) (by decide) rfl ?_
  change G am_sc0 l d 0 0 mX12_image (am_qz r N P I2) 0 [.ref 55, .int a1, .null] [] N P I 0 0
  unfold F_X12_image_55 at hF
  refine g_aload_n (pc := 0) dX12_image_0 rfl rfl ?_
  refine g_iconst (pc := 1) (v := (0 : Int32)) dX12_image_1 rfl ?_
  obtain ⟨I_1, e_I_1, hF⟩ := am_let_el hF
  refine n_putI (pc := 2) (k := 55) e_I_1 kf_X12_134 rfl rfl (hPl.lt (by decide)) dX12_image_2 ?_
  refine g_iload_n (pc := 5) dX12_image_5 rfl rfl ?_
  refine g_if_ne (pc := 6) (tgt := 18) dX12_image_6 rfl (fun c_2 => ?_) (fun c_2 => ?_)
  · replace hF := am_no c_2 hF
    refine g_aload_n (pc := 18) dX12_image_18 rfl rfl ?_
    refine g_iload_n (pc := 19) dX12_image_19 rfl rfl ?_
    obtain ⟨c_3, hF⟩ := am_gd hF
    obtain ⟨I_4, e_I_4, hF⟩ := am_let_el hF
    refine n_putZ (pc := 20) (k := 55) e_I_4 kf_X12_384 rfl rfl (hPl.lt (by decide)) c_3 dX12_image_20 ?_
    refine g_aload_n (pc := 23) dX12_image_23 rfl rfl ?_
    refine g_iconst (pc := 24) (v := (1 : Int32)) dX12_image_24 rfl ?_
    obtain ⟨I_5, e_I_5, hF⟩ := am_let_el hF
    refine n_putZ (pc := 25) (k := 55) e_I_5 kf_X12_391 rfl rfl (hPl.lt (by decide)) (Or.inr rfl) dX12_image_25 ?_
    refine g_aload_n (pc := 28) dX12_image_28 rfl rfl ?_
    refine g_iconst (pc := 29) (v := (0 : Int32)) dX12_image_29 rfl ?_
    obtain ⟨I_6, e_I_6, hF⟩ := am_let_el hF
    refine n_putI (pc := 30) (k := 55) e_I_6 kf_X12_381 rfl rfl (hPl.lt (by decide)) dX12_image_30 ?_
    refine g_aload_n (pc := 33) dX12_image_33 rfl rfl ?_
    refine g_aload_n (pc := 34) dX12_image_34 rfl rfl ?_
    refine g_aload_n (pc := 35) dX12_image_35 rfl rfl ?_
    refine g_getI (pc := 36) (k := 55) kf_X12_137.r rfl rfl (hPl.lt (by decide)) dX12_image_36 ?_
    obtain ⟨r_8, I_9, h_7, hF⟩ := am_b2_el hF
    refine g_cVi (pc := 39) (k := 55) (As := [.int (I_6 55 1)]) (st := [.ref 55]) ky_X12_kept kl_X12_388 (s_X12_kept_55 (d := 1) (hPl) (Nat.le_refl _) h_7) rfl rfl rfl (hPl.lt (by decide)) (Nat.le_trans (by decide) hd) (Nat.le_of_ble_eq_true rfl) (Nat.le_refl _) (Nat.le_refl _) dX12_image_39 ?_
    obtain ⟨I_10, e_I_10, hF⟩ := am_let_el hF
    refine n_putI (pc := 42) (k := 55) e_I_10 kf_X12_137 rfl rfl (hPl.lt (by decide)) dX12_image_42 ?_
    refine g_aload_n (pc := 45) dX12_image_45 rfl rfl ?_
    refine g_aload_n (pc := 46) dX12_image_46 rfl rfl ?_
    refine g_aload_n (pc := 47) dX12_image_47 rfl rfl ?_
    refine g_getI (pc := 48) (k := 55) kf_X12_7.r rfl rfl (hPl.lt (by decide)) dX12_image_48 ?_
    obtain ⟨r_12, I_13, h_11, hF⟩ := am_b2_el hF
    refine g_cVi (pc := 51) (k := 55) (As := [.int (I_10 55 2)]) (st := [.ref 55]) ky_X12_kept kl_X12_388 (s_X12_kept_55 (d := 1) (hPl) (Nat.le_refl _) h_11) rfl rfl rfl (hPl.lt (by decide)) (Nat.le_trans (by decide) hd) (Nat.le_of_ble_eq_true rfl) (Nat.le_refl _) (Nat.le_refl _) dX12_image_51 ?_
    obtain ⟨I_14, e_I_14, hF⟩ := am_let_el hF
    refine n_putI (pc := 54) (k := 55) e_I_14 kf_X12_7 rfl rfl (hPl.lt (by decide)) dX12_image_54 ?_
    refine g_aload_n (pc := 57) dX12_image_57 rfl rfl ?_
    refine g_aload_n (pc := 58) dX12_image_58 rfl rfl ?_
    refine g_aload_n (pc := 59) dX12_image_59 rfl rfl ?_
    refine g_getI (pc := 60) (k := 55) kf_X12_155.r rfl rfl (hPl.lt (by decide)) dX12_image_60 ?_
    obtain ⟨r_16, I_17, h_15, hF⟩ := am_b2_el hF
    refine g_cVi (pc := 63) (k := 55) (As := [.int (I_14 55 13)]) (st := [.ref 55]) ky_X12_kept kl_X12_388 (s_X12_kept_55 (d := 1) (hPl) (Nat.le_refl _) h_15) rfl rfl rfl (hPl.lt (by decide)) (Nat.le_trans (by decide) hd) (Nat.le_of_ble_eq_true rfl) (Nat.le_refl _) (Nat.le_refl _) dX12_image_63 ?_
    obtain ⟨I_18, e_I_18, hF⟩ := am_let_el hF
    refine n_putI (pc := 66) (k := 55) e_I_18 kf_X12_155 rfl rfl (hPl.lt (by decide)) dX12_image_66 ?_
    refine g_aload_n (pc := 69) dX12_image_69 rfl rfl ?_
    refine g_aload_n (pc := 70) dX12_image_70 rfl rfl ?_
    refine g_aload_n (pc := 71) dX12_image_71 rfl rfl ?_
    refine g_getI (pc := 72) (k := 55) kf_X12_142.r rfl rfl (hPl.lt (by decide)) dX12_image_72 ?_
    obtain ⟨r_20, I_21, h_19, hF⟩ := am_b2_el hF
    refine g_cVi (pc := 75) (k := 55) (As := [.int (I_18 55 4)]) (st := [.ref 55]) ky_X12_kept kl_X12_388 (s_X12_kept_55 (d := 1) (hPl) (Nat.le_refl _) h_19) rfl rfl rfl (hPl.lt (by decide)) (Nat.le_trans (by decide) hd) (Nat.le_of_ble_eq_true rfl) (Nat.le_refl _) (Nat.le_refl _) dX12_image_75 ?_
    obtain ⟨I_22, e_I_22, hF⟩ := am_let_el hF
    refine n_putI (pc := 78) (k := 55) e_I_22 kf_X12_142 rfl rfl (hPl.lt (by decide)) dX12_image_78 ?_
    refine g_iconst (pc := 81) (v := (0 : Int32)) dX12_image_81 rfl ?_
    refine n_istore_n (pc := 82) (ls2 := [.ref 55, .int a1, .int (0 : Int32)]) rfl rfl dX12_image_82 rfl (Nat.le_of_ble_eq_true rfl) ?_
    obtain ⟨I_25, hL_29, hF⟩ := am_b1_el hF
    have hX_26 : G am_sc0 l d 0 0 mX12_image (am_qz r N P I2) 115 [.ref 55, .int a1, .null] [] N P I_25 0 0 := by
      refine g_iconst (pc := 115) (v := (0 : Int32)) dX12_image_115 rfl ?_
      refine n_istore_n (pc := 116) (ls2 := [.ref 55, .int a1, .int (0 : Int32)]) rfl rfl dX12_image_116 rfl (Nat.le_of_ble_eq_true rfl) ?_
      obtain ⟨I_41, hL_45, hF⟩ := am_b1_el hF
      have hX_42 : G am_sc0 l d 0 0 mX12_image (am_qz r N P I2) 144 [.ref 55, .int a1, .null] [] N P I_41 0 0 := by
        refine g_iconst (pc := 144) (v := (0 : Int32)) dX12_image_144 rfl ?_
        refine n_istore_n (pc := 145) (ls2 := [.ref 55, .int a1, .int (0 : Int32)]) rfl rfl dX12_image_145 rfl (Nat.le_of_ble_eq_true rfl) ?_
        obtain ⟨I_57, hL_61, hF⟩ := am_b1_el hF
        have hX_58 : G am_sc0 l d 0 0 mX12_image (am_qz r N P I2) 174 [.ref 55, .int a1, .null] [] N P I_57 0 0 := by
          refine g_iconst (pc := 174) (v := (0 : Int32)) dX12_image_174 rfl ?_
          refine n_istore_n (pc := 175) (ls2 := [.ref 55, .int a1, .int (0 : Int32)]) rfl rfl dX12_image_175 rfl (Nat.le_of_ble_eq_true rfl) ?_
          obtain ⟨I_73, hL_77, hF⟩ := am_b1_el hF
          have hX_74 : G am_sc0 l d 0 0 mX12_image (am_qz r N P I2) 204 [.ref 55, .int a1, .null] [] N P I_73 0 0 := by
            refine g_aload_n (pc := 204) dX12_image_204 rfl rfl ?_
            refine g_aload_n (pc := 205) dX12_image_205 rfl rfl ?_
            refine g_aload_n (pc := 206) dX12_image_206 rfl rfl ?_
            refine g_getI (pc := 207) (k := 55) kf_X12_152.r rfl rfl (hPl.lt (by decide)) dX12_image_207 ?_
            obtain ⟨r_88, I_89, h_87, hF⟩ := am_b2_el hF
            refine g_cVi (pc := 210) (k := 55) (As := [.int (I_73 55 8)]) (st := [.ref 55]) ky_X12_kept kl_X12_388 (s_X12_kept_55 (d := 1) (hPl) (Nat.le_refl _) h_87) rfl rfl rfl (hPl.lt (by decide)) (Nat.le_trans (by decide) hd) (Nat.le_of_ble_eq_true rfl) (Nat.le_refl _) (Nat.le_refl _) dX12_image_210 ?_
            obtain ⟨I_90, e_I_90, hF⟩ := am_let_el hF
            refine n_putI (pc := 213) (k := 55) e_I_90 kf_X12_152 rfl rfl (hPl.lt (by decide)) dX12_image_213 ?_
            refine g_iconst (pc := 216) (v := (0 : Int32)) dX12_image_216 rfl ?_
            refine n_istore_n (pc := 217) (ls2 := [.ref 55, .int a1, .int (0 : Int32)]) rfl rfl dX12_image_217 rfl (Nat.le_of_ble_eq_true rfl) ?_
            obtain ⟨I_93, hL_97, hF⟩ := am_b1_el hF
            have hX_94 : G am_sc0 l d 0 0 mX12_image (am_qz r N P I2) 294 [.ref 55, .int a1, .null] [] N P I_93 0 0 := by
              refine g_iconst (pc := 294) (v := (0 : Int32)) dX12_image_294 rfl ?_
              refine n_istore_n (pc := 295) (ls2 := [.ref 55, .int a1, .int (0 : Int32)]) rfl rfl dX12_image_295 rfl (Nat.le_of_ble_eq_true rfl) ?_
              obtain ⟨I_127, hL_131, hF⟩ := am_b1_el hF
              have hX_128 : G am_sc0 l d 0 0 mX12_image (am_qz r N P I2) 340 [.ref 55, .int a1, .null] [] N P I_127 0 0 := by
                refine g_aload_n (pc := 340) dX12_image_340 rfl rfl ?_
                obtain ⟨I_148, h_147, hF⟩ := am_b1_el hF
                refine g_cVv (pc := 341) (k := 55) (As := []) (st := []) ky_X12_keepsPeople kl_X12_394 (s_X12_keepsPeople_55 (d := 2) (hPl) (Nat.le_refl _) h_147) rfl rfl rfl (hPl.lt (by decide)) (Nat.le_trans (by decide) hd) (Nat.le_of_ble_eq_true rfl) (Nat.le_refl _) (Nat.le_refl _) dX12_image_341 ?_
                refine g_aload_n (pc := 344) dX12_image_344 rfl rfl ?_
                obtain ⟨I_150, h_149, hF⟩ := am_b1_el hF
                refine g_cVv (pc := 345) (k := 55) (As := []) (st := []) ky_X12_keepsRule kl_X12_397 (s_X12_keepsRule_55 (d := 2) (hPl) (Nat.le_refl _) h_149) rfl rfl rfl (hPl.lt (by decide)) (Nat.le_trans (by decide) hd) (Nat.le_of_ble_eq_true rfl) (Nat.le_refl _) (Nat.le_refl _) dX12_image_345 ?_
                refine g_iconst (pc := 348) (v := (1 : Int32)) dX12_image_348 rfl ?_
                cases hF
                exact g_zret (pc := 349) rfl (Or.inr rfl) (Nat.le_refl _) (Nat.le_refl _) dX12_image_349 ⟨(Or.inr rfl), rfl, rfl, rfl, rfl⟩
              clear hF
              have hC := am_loop (C := fun x => G am_sc0 l d 0 0 mX12_image (am_qz r N P I2) 296 [.ref 55, .int a1, .int x.1] [] N P x.2 0 0) (by
                rintro ⟨l2_125, I_126⟩ rr hF ih_129 hE_130
                replace hF := am_u2_ap hF
                change G am_sc0 l d 0 0 mX12_image (am_qz r N P I2) 296 [.ref 55, .int a1, .int l2_125] [] N P I_126 0 0
                refine g_iload_n (pc := 296) dX12_image_296 rfl rfl ?_
                refine g_bipush (pc := 297) (v := (9 : Int32)) dX12_image_297 rfl ?_
                refine g_icmp_ge (pc := 299) (tgt := 340) dX12_image_299 rfl (fun c_133 => ?_) (fun c_133 => ?_)
                · replace hF := am_yes c_133 hF
                  cases hF
                  cases hE_130 _ rfl
                  exact g_weak hX_128 ⟨Or.inr rfl, Or.inr rfl, Or.inl rfl, trivial⟩
                · replace hF := am_no c_133 hF
                  refine g_aload_n (pc := 302) dX12_image_302 rfl rfl ?_
                  refine g_getR (pc := 303) (k := 55) (r := 70) kf_X12_56.r rfl rfl (hPl.get (by decide) rfl) (hPl.lt (by decide)) dX12_image_303 ?_
                  refine g_iload_n (pc := 306) dX12_image_306 rfl rfl ?_
                  refine g_aload_n (pc := 307) dX12_image_307 rfl rfl ?_
                  refine g_aload_n (pc := 308) dX12_image_308 rfl rfl ?_
                  refine g_getR (pc := 309) (k := 55) (r := 70) kf_X12_56.r rfl rfl (hPl.get (by decide) rfl) (hPl.lt (by decide)) dX12_image_309 ?_
                  refine g_iload_n (pc := 312) dX12_image_312 rfl rfl ?_
                  obtain ⟨c_134, hF⟩ := am_gd hF
                  refine g_iald (pc := 313) (k := 70) rfl (hPl.lt (by decide)) (am_ix_use c_134) dX12_image_313 ?_
                  obtain ⟨r_136, I_137, h_135, hF⟩ := am_b2_el hF
                  refine g_cVi (pc := 314) (k := 55) (As := [.int (I_126 70 l2_125.toNatClampNeg)]) (st := [.int l2_125, .ref 70]) ky_X12_kept kl_X12_388 (s_X12_kept_55 (d := 1) (hPl) (Nat.le_refl _) h_135) rfl rfl rfl (hPl.lt (by decide)) (Nat.le_trans (by decide) hd) (Nat.le_of_ble_eq_true rfl) (Nat.le_refl _) (Nat.le_refl _) dX12_image_314 ?_
                  obtain ⟨c_138, hF⟩ := am_gd hF
                  obtain ⟨I_139, e_I_139, hF⟩ := am_let_el hF
                  refine n_iast (pc := 317) (k := 70) e_I_139 rfl (hPl.lt (by decide)) (am_ix_use c_138) dX12_image_317 ?_
                  refine g_aload_n (pc := 318) dX12_image_318 rfl rfl ?_
                  refine g_getR (pc := 319) (k := 55) (r := 71) kf_X12_59.r rfl rfl (hPl.get (by decide) rfl) (hPl.lt (by decide)) dX12_image_319 ?_
                  refine g_iload_n (pc := 322) dX12_image_322 rfl rfl ?_
                  refine g_aload_n (pc := 323) dX12_image_323 rfl rfl ?_
                  refine g_aload_n (pc := 324) dX12_image_324 rfl rfl ?_
                  refine g_getR (pc := 325) (k := 55) (r := 71) kf_X12_59.r rfl rfl (hPl.get (by decide) rfl) (hPl.lt (by decide)) dX12_image_325 ?_
                  refine g_iload_n (pc := 328) dX12_image_328 rfl rfl ?_
                  obtain ⟨c_140, hF⟩ := am_gd hF
                  refine g_iald (pc := 329) (k := 71) rfl (hPl.lt (by decide)) (am_ix_use c_140) dX12_image_329 ?_
                  obtain ⟨r_142, I_143, h_141, hF⟩ := am_b2_el hF
                  refine g_cVi (pc := 330) (k := 55) (As := [.int (I_139 71 l2_125.toNatClampNeg)]) (st := [.int l2_125, .ref 71]) ky_X12_kept kl_X12_388 (s_X12_kept_55 (d := 1) (hPl) (Nat.le_refl _) h_141) rfl rfl rfl (hPl.lt (by decide)) (Nat.le_trans (by decide) hd) (Nat.le_of_ble_eq_true rfl) (Nat.le_refl _) (Nat.le_refl _) dX12_image_330 ?_
                  obtain ⟨c_144, hF⟩ := am_gd hF
                  obtain ⟨I_145, e_I_145, hF⟩ := am_let_el hF
                  refine n_iast (pc := 333) (k := 71) e_I_145 rfl (hPl.lt (by decide)) (am_ix_use c_144) dX12_image_333 ?_
                  obtain ⟨l2_146, e_l2_146, hF⟩ := am_let_el hF
                  refine n_iinc (pc := 334) (ls2 := [.ref 55, .int a1, .int l2_146]) e_l2_146 rfl rfl rfl dX12_image_334 (Nat.le_of_ble_eq_true rfl) ?_
                  refine g_goto (pc := 337) (tgt := 296) dX12_image_337 rfl ?_
                  cases hF
                  exact ih_129 (l2_146, I_145) rfl
                ) _ _ hL_131
              exact hC
            clear hF
            have hC := am_loop (C := fun x => G am_sc0 l d 0 0 mX12_image (am_qz r N P I2) 218 [.ref 55, .int a1, .int x.1] [] N P x.2 0 0) (by
              rintro ⟨l2_91, I_92⟩ rr hF ih_95 hE_96
              replace hF := am_u2_ap hF
              change G am_sc0 l d 0 0 mX12_image (am_qz r N P I2) 218 [.ref 55, .int a1, .int l2_91] [] N P I_92 0 0
              refine g_iload_n (pc := 218) dX12_image_218 rfl rfl ?_
              refine g_bipush (pc := 219) (v := (20 : Int32)) dX12_image_219 rfl ?_
              refine g_icmp_ge (pc := 221) (tgt := 294) dX12_image_221 rfl (fun c_99 => ?_) (fun c_99 => ?_)
              · replace hF := am_yes c_99 hF
                cases hF
                cases hE_96 _ rfl
                exact g_weak hX_94 ⟨Or.inr rfl, Or.inr rfl, Or.inl rfl, trivial⟩
              · replace hF := am_no c_99 hF
                refine g_aload_n (pc := 224) dX12_image_224 rfl rfl ?_
                refine g_getR (pc := 225) (k := 55) (r := 59) kf_X12_23.r rfl rfl (hPl.get (by decide) rfl) (hPl.lt (by decide)) dX12_image_225 ?_
                refine g_iload_n (pc := 228) dX12_image_228 rfl rfl ?_
                refine g_aload_n (pc := 229) dX12_image_229 rfl rfl ?_
                refine g_aload_n (pc := 230) dX12_image_230 rfl rfl ?_
                refine g_getR (pc := 231) (k := 55) (r := 59) kf_X12_23.r rfl rfl (hPl.get (by decide) rfl) (hPl.lt (by decide)) dX12_image_231 ?_
                refine g_iload_n (pc := 234) dX12_image_234 rfl rfl ?_
                obtain ⟨c_100, hF⟩ := am_gd hF
                refine g_iald (pc := 235) (k := 59) rfl (hPl.lt (by decide)) (am_ix_use c_100) dX12_image_235 ?_
                obtain ⟨r_102, I_103, h_101, hF⟩ := am_b2_el hF
                refine g_cVi (pc := 236) (k := 55) (As := [.int (I_92 59 l2_91.toNatClampNeg)]) (st := [.int l2_91, .ref 59]) ky_X12_kept kl_X12_388 (s_X12_kept_55 (d := 1) (hPl) (Nat.le_refl _) h_101) rfl rfl rfl (hPl.lt (by decide)) (Nat.le_trans (by decide) hd) (Nat.le_of_ble_eq_true rfl) (Nat.le_refl _) (Nat.le_refl _) dX12_image_236 ?_
                obtain ⟨c_104, hF⟩ := am_gd hF
                obtain ⟨I_105, e_I_105, hF⟩ := am_let_el hF
                refine n_iast (pc := 239) (k := 59) e_I_105 rfl (hPl.lt (by decide)) (am_ix_use c_104) dX12_image_239 ?_
                refine g_aload_n (pc := 240) dX12_image_240 rfl rfl ?_
                refine g_getR (pc := 241) (k := 55) (r := 60) kf_X12_26.r rfl rfl (hPl.get (by decide) rfl) (hPl.lt (by decide)) dX12_image_241 ?_
                refine g_iload_n (pc := 244) dX12_image_244 rfl rfl ?_
                refine g_aload_n (pc := 245) dX12_image_245 rfl rfl ?_
                refine g_aload_n (pc := 246) dX12_image_246 rfl rfl ?_
                refine g_getR (pc := 247) (k := 55) (r := 60) kf_X12_26.r rfl rfl (hPl.get (by decide) rfl) (hPl.lt (by decide)) dX12_image_247 ?_
                refine g_iload_n (pc := 250) dX12_image_250 rfl rfl ?_
                obtain ⟨c_106, hF⟩ := am_gd hF
                refine g_iald (pc := 251) (k := 60) rfl (hPl.lt (by decide)) (am_ix_use c_106) dX12_image_251 ?_
                obtain ⟨r_108, I_109, h_107, hF⟩ := am_b2_el hF
                refine g_cVi (pc := 252) (k := 55) (As := [.int (I_105 60 l2_91.toNatClampNeg)]) (st := [.int l2_91, .ref 60]) ky_X12_kept kl_X12_388 (s_X12_kept_55 (d := 1) (hPl) (Nat.le_refl _) h_107) rfl rfl rfl (hPl.lt (by decide)) (Nat.le_trans (by decide) hd) (Nat.le_of_ble_eq_true rfl) (Nat.le_refl _) (Nat.le_refl _) dX12_image_252 ?_
                obtain ⟨c_110, hF⟩ := am_gd hF
                obtain ⟨I_111, e_I_111, hF⟩ := am_let_el hF
                refine n_iast (pc := 255) (k := 60) e_I_111 rfl (hPl.lt (by decide)) (am_ix_use c_110) dX12_image_255 ?_
                refine g_aload_n (pc := 256) dX12_image_256 rfl rfl ?_
                refine g_getR (pc := 257) (k := 55) (r := 61) kf_X12_29.r rfl rfl (hPl.get (by decide) rfl) (hPl.lt (by decide)) dX12_image_257 ?_
                refine g_iload_n (pc := 260) dX12_image_260 rfl rfl ?_
                refine g_aload_n (pc := 261) dX12_image_261 rfl rfl ?_
                refine g_aload_n (pc := 262) dX12_image_262 rfl rfl ?_
                refine g_getR (pc := 263) (k := 55) (r := 61) kf_X12_29.r rfl rfl (hPl.get (by decide) rfl) (hPl.lt (by decide)) dX12_image_263 ?_
                refine g_iload_n (pc := 266) dX12_image_266 rfl rfl ?_
                obtain ⟨c_112, hF⟩ := am_gd hF
                refine g_iald (pc := 267) (k := 61) rfl (hPl.lt (by decide)) (am_ix_use c_112) dX12_image_267 ?_
                obtain ⟨r_114, I_115, h_113, hF⟩ := am_b2_el hF
                refine g_cVi (pc := 268) (k := 55) (As := [.int (I_111 61 l2_91.toNatClampNeg)]) (st := [.int l2_91, .ref 61]) ky_X12_kept kl_X12_388 (s_X12_kept_55 (d := 1) (hPl) (Nat.le_refl _) h_113) rfl rfl rfl (hPl.lt (by decide)) (Nat.le_trans (by decide) hd) (Nat.le_of_ble_eq_true rfl) (Nat.le_refl _) (Nat.le_refl _) dX12_image_268 ?_
                obtain ⟨c_116, hF⟩ := am_gd hF
                obtain ⟨I_117, e_I_117, hF⟩ := am_let_el hF
                refine n_iast (pc := 271) (k := 61) e_I_117 rfl (hPl.lt (by decide)) (am_ix_use c_116) dX12_image_271 ?_
                refine g_aload_n (pc := 272) dX12_image_272 rfl rfl ?_
                refine g_getR (pc := 273) (k := 55) (r := 62) kf_X12_32.r rfl rfl (hPl.get (by decide) rfl) (hPl.lt (by decide)) dX12_image_273 ?_
                refine g_iload_n (pc := 276) dX12_image_276 rfl rfl ?_
                refine g_aload_n (pc := 277) dX12_image_277 rfl rfl ?_
                refine g_aload_n (pc := 278) dX12_image_278 rfl rfl ?_
                refine g_getR (pc := 279) (k := 55) (r := 62) kf_X12_32.r rfl rfl (hPl.get (by decide) rfl) (hPl.lt (by decide)) dX12_image_279 ?_
                refine g_iload_n (pc := 282) dX12_image_282 rfl rfl ?_
                obtain ⟨c_118, hF⟩ := am_gd hF
                refine g_iald (pc := 283) (k := 62) rfl (hPl.lt (by decide)) (am_ix_use c_118) dX12_image_283 ?_
                obtain ⟨r_120, I_121, h_119, hF⟩ := am_b2_el hF
                refine g_cVi (pc := 284) (k := 55) (As := [.int (I_117 62 l2_91.toNatClampNeg)]) (st := [.int l2_91, .ref 62]) ky_X12_kept kl_X12_388 (s_X12_kept_55 (d := 1) (hPl) (Nat.le_refl _) h_119) rfl rfl rfl (hPl.lt (by decide)) (Nat.le_trans (by decide) hd) (Nat.le_of_ble_eq_true rfl) (Nat.le_refl _) (Nat.le_refl _) dX12_image_284 ?_
                obtain ⟨c_122, hF⟩ := am_gd hF
                obtain ⟨I_123, e_I_123, hF⟩ := am_let_el hF
                refine n_iast (pc := 287) (k := 62) e_I_123 rfl (hPl.lt (by decide)) (am_ix_use c_122) dX12_image_287 ?_
                obtain ⟨l2_124, e_l2_124, hF⟩ := am_let_el hF
                refine n_iinc (pc := 288) (ls2 := [.ref 55, .int a1, .int l2_124]) e_l2_124 rfl rfl rfl dX12_image_288 (Nat.le_of_ble_eq_true rfl) ?_
                refine g_goto (pc := 291) (tgt := 218) dX12_image_291 rfl ?_
                cases hF
                exact ih_95 (l2_124, I_123) rfl
              ) _ _ hL_97
            exact hC
          clear hF
          have hC := am_loop (C := fun x => G am_sc0 l d 0 0 mX12_image (am_qz r N P I2) 176 [.ref 55, .int a1, .int x.1] [] N P x.2 0 0) (by
            rintro ⟨l2_71, I_72⟩ rr hF ih_75 hE_76
            replace hF := am_u2_ap hF
            change G am_sc0 l d 0 0 mX12_image (am_qz r N P I2) 176 [.ref 55, .int a1, .int l2_71] [] N P I_72 0 0
            refine g_iload_n (pc := 176) dX12_image_176 rfl rfl ?_
            refine g_bipush (pc := 177) (v := (49 : Int32)) dX12_image_177 rfl ?_
            refine g_icmp_ge (pc := 179) (tgt := 204) dX12_image_179 rfl (fun c_79 => ?_) (fun c_79 => ?_)
            · replace hF := am_yes c_79 hF
              cases hF
              cases hE_76 _ rfl
              exact g_weak hX_74 ⟨Or.inr rfl, Or.inr rfl, Or.inl rfl, trivial⟩
            · replace hF := am_no c_79 hF
              refine g_aload_n (pc := 182) dX12_image_182 rfl rfl ?_
              refine g_getR (pc := 183) (k := 55) (r := 66) kf_X12_44.r rfl rfl (hPl.get (by decide) rfl) (hPl.lt (by decide)) dX12_image_183 ?_
              refine g_iload_n (pc := 186) dX12_image_186 rfl rfl ?_
              refine g_aload_n (pc := 187) dX12_image_187 rfl rfl ?_
              refine g_aload_n (pc := 188) dX12_image_188 rfl rfl ?_
              refine g_getR (pc := 189) (k := 55) (r := 66) kf_X12_44.r rfl rfl (hPl.get (by decide) rfl) (hPl.lt (by decide)) dX12_image_189 ?_
              refine g_iload_n (pc := 192) dX12_image_192 rfl rfl ?_
              obtain ⟨c_80, hF⟩ := am_gd hF
              refine g_iald (pc := 193) (k := 66) rfl (hPl.lt (by decide)) (am_ix_use c_80) dX12_image_193 ?_
              obtain ⟨r_82, I_83, h_81, hF⟩ := am_b2_el hF
              refine g_cVi (pc := 194) (k := 55) (As := [.int (I_72 66 l2_71.toNatClampNeg)]) (st := [.int l2_71, .ref 66]) ky_X12_kept kl_X12_388 (s_X12_kept_55 (d := 1) (hPl) (Nat.le_refl _) h_81) rfl rfl rfl (hPl.lt (by decide)) (Nat.le_trans (by decide) hd) (Nat.le_of_ble_eq_true rfl) (Nat.le_refl _) (Nat.le_refl _) dX12_image_194 ?_
              obtain ⟨c_84, hF⟩ := am_gd hF
              obtain ⟨I_85, e_I_85, hF⟩ := am_let_el hF
              refine n_iast (pc := 197) (k := 66) e_I_85 rfl (hPl.lt (by decide)) (am_ix_use c_84) dX12_image_197 ?_
              obtain ⟨l2_86, e_l2_86, hF⟩ := am_let_el hF
              refine n_iinc (pc := 198) (ls2 := [.ref 55, .int a1, .int l2_86]) e_l2_86 rfl rfl rfl dX12_image_198 (Nat.le_of_ble_eq_true rfl) ?_
              refine g_goto (pc := 201) (tgt := 176) dX12_image_201 rfl ?_
              cases hF
              exact ih_75 (l2_86, I_85) rfl
            ) _ _ hL_77
          exact hC
        clear hF
        have hC := am_loop (C := fun x => G am_sc0 l d 0 0 mX12_image (am_qz r N P I2) 146 [.ref 55, .int a1, .int x.1] [] N P x.2 0 0) (by
          rintro ⟨l2_55, I_56⟩ rr hF ih_59 hE_60
          replace hF := am_u2_ap hF
          change G am_sc0 l d 0 0 mX12_image (am_qz r N P I2) 146 [.ref 55, .int a1, .int l2_55] [] N P I_56 0 0
          refine g_iload_n (pc := 146) dX12_image_146 rfl rfl ?_
          refine g_bipush (pc := 147) (v := (56 : Int32)) dX12_image_147 rfl ?_
          refine g_icmp_ge (pc := 149) (tgt := 174) dX12_image_149 rfl (fun c_63 => ?_) (fun c_63 => ?_)
          · replace hF := am_yes c_63 hF
            cases hF
            cases hE_60 _ rfl
            exact g_weak hX_58 ⟨Or.inr rfl, Or.inr rfl, Or.inl rfl, trivial⟩
          · replace hF := am_no c_63 hF
            refine g_aload_n (pc := 152) dX12_image_152 rfl rfl ?_
            refine g_getR (pc := 153) (k := 55) (r := 58) kf_X12_20.r rfl rfl (hPl.get (by decide) rfl) (hPl.lt (by decide)) dX12_image_153 ?_
            refine g_iload_n (pc := 156) dX12_image_156 rfl rfl ?_
            refine g_aload_n (pc := 157) dX12_image_157 rfl rfl ?_
            refine g_aload_n (pc := 158) dX12_image_158 rfl rfl ?_
            refine g_getR (pc := 159) (k := 55) (r := 58) kf_X12_20.r rfl rfl (hPl.get (by decide) rfl) (hPl.lt (by decide)) dX12_image_159 ?_
            refine g_iload_n (pc := 162) dX12_image_162 rfl rfl ?_
            obtain ⟨c_64, hF⟩ := am_gd hF
            refine g_iald (pc := 163) (k := 58) rfl (hPl.lt (by decide)) (am_ix_use c_64) dX12_image_163 ?_
            obtain ⟨r_66, I_67, h_65, hF⟩ := am_b2_el hF
            refine g_cVi (pc := 164) (k := 55) (As := [.int (I_56 58 l2_55.toNatClampNeg)]) (st := [.int l2_55, .ref 58]) ky_X12_kept kl_X12_388 (s_X12_kept_55 (d := 1) (hPl) (Nat.le_refl _) h_65) rfl rfl rfl (hPl.lt (by decide)) (Nat.le_trans (by decide) hd) (Nat.le_of_ble_eq_true rfl) (Nat.le_refl _) (Nat.le_refl _) dX12_image_164 ?_
            obtain ⟨c_68, hF⟩ := am_gd hF
            obtain ⟨I_69, e_I_69, hF⟩ := am_let_el hF
            refine n_iast (pc := 167) (k := 58) e_I_69 rfl (hPl.lt (by decide)) (am_ix_use c_68) dX12_image_167 ?_
            obtain ⟨l2_70, e_l2_70, hF⟩ := am_let_el hF
            refine n_iinc (pc := 168) (ls2 := [.ref 55, .int a1, .int l2_70]) e_l2_70 rfl rfl rfl dX12_image_168 (Nat.le_of_ble_eq_true rfl) ?_
            refine g_goto (pc := 171) (tgt := 146) dX12_image_171 rfl ?_
            cases hF
            exact ih_59 (l2_70, I_69) rfl
          ) _ _ hL_61
        exact hC
      clear hF
      have hC := am_loop (C := fun x => G am_sc0 l d 0 0 mX12_image (am_qz r N P I2) 117 [.ref 55, .int a1, .int x.1] [] N P x.2 0 0) (by
        rintro ⟨l2_39, I_40⟩ rr hF ih_43 hE_44
        replace hF := am_u2_ap hF
        change G am_sc0 l d 0 0 mX12_image (am_qz r N P I2) 117 [.ref 55, .int a1, .int l2_39] [] N P I_40 0 0
        refine g_iload_n (pc := 117) dX12_image_117 rfl rfl ?_
        refine g_iconst (pc := 118) (v := (4 : Int32)) dX12_image_118 rfl ?_
        refine g_icmp_ge (pc := 119) (tgt := 144) dX12_image_119 rfl (fun c_47 => ?_) (fun c_47 => ?_)
        · replace hF := am_yes c_47 hF
          cases hF
          cases hE_44 _ rfl
          exact g_weak hX_42 ⟨Or.inr rfl, Or.inr rfl, Or.inl rfl, trivial⟩
        · replace hF := am_no c_47 hF
          refine g_aload_n (pc := 122) dX12_image_122 rfl rfl ?_
          refine g_getR (pc := 123) (k := 55) (r := 56) kf_X12_13.r rfl rfl (hPl.get (by decide) rfl) (hPl.lt (by decide)) dX12_image_123 ?_
          refine g_iload_n (pc := 126) dX12_image_126 rfl rfl ?_
          refine g_aload_n (pc := 127) dX12_image_127 rfl rfl ?_
          refine g_aload_n (pc := 128) dX12_image_128 rfl rfl ?_
          refine g_getR (pc := 129) (k := 55) (r := 56) kf_X12_13.r rfl rfl (hPl.get (by decide) rfl) (hPl.lt (by decide)) dX12_image_129 ?_
          refine g_iload_n (pc := 132) dX12_image_132 rfl rfl ?_
          obtain ⟨c_48, hF⟩ := am_gd hF
          refine g_iald (pc := 133) (k := 56) rfl (hPl.lt (by decide)) (am_ix_use c_48) dX12_image_133 ?_
          obtain ⟨r_50, I_51, h_49, hF⟩ := am_b2_el hF
          refine g_cVi (pc := 134) (k := 55) (As := [.int (I_40 56 l2_39.toNatClampNeg)]) (st := [.int l2_39, .ref 56]) ky_X12_kept kl_X12_388 (s_X12_kept_55 (d := 1) (hPl) (Nat.le_refl _) h_49) rfl rfl rfl (hPl.lt (by decide)) (Nat.le_trans (by decide) hd) (Nat.le_of_ble_eq_true rfl) (Nat.le_refl _) (Nat.le_refl _) dX12_image_134 ?_
          obtain ⟨c_52, hF⟩ := am_gd hF
          obtain ⟨I_53, e_I_53, hF⟩ := am_let_el hF
          refine n_iast (pc := 137) (k := 56) e_I_53 rfl (hPl.lt (by decide)) (am_ix_use c_52) dX12_image_137 ?_
          obtain ⟨l2_54, e_l2_54, hF⟩ := am_let_el hF
          refine n_iinc (pc := 138) (ls2 := [.ref 55, .int a1, .int l2_54]) e_l2_54 rfl rfl rfl dX12_image_138 (Nat.le_of_ble_eq_true rfl) ?_
          refine g_goto (pc := 141) (tgt := 117) dX12_image_141 rfl ?_
          cases hF
          exact ih_43 (l2_54, I_53) rfl
        ) _ _ hL_45
      exact hC
    clear hF
    have hC := am_loop (C := fun x => G am_sc0 l d 0 0 mX12_image (am_qz r N P I2) 83 [.ref 55, .int a1, .int x.1] [] N P x.2 0 0) (by
      rintro ⟨l2_23, I_24⟩ rr hF ih_27 hE_28
      replace hF := am_u2_ap hF
      change G am_sc0 l d 0 0 mX12_image (am_qz r N P I2) 83 [.ref 55, .int a1, .int l2_23] [] N P I_24 0 0
      refine g_iload_n (pc := 83) dX12_image_83 rfl rfl ?_
      refine g_bipush (pc := 84) (v := (7 : Int32)) dX12_image_84 rfl ?_
      refine g_icmp_ge (pc := 86) (tgt := 115) dX12_image_86 rfl (fun c_31 => ?_) (fun c_31 => ?_)
      · replace hF := am_yes c_31 hF
        cases hF
        cases hE_28 _ rfl
        exact g_weak hX_26 ⟨Or.inr rfl, Or.inr rfl, Or.inl rfl, trivial⟩
      · replace hF := am_no c_31 hF
        refine g_aload_n (pc := 89) dX12_image_89 rfl rfl ?_
        refine g_getR (pc := 90) (k := 55) (r := 72) kf_X12_62.r rfl rfl (hPl.get (by decide) rfl) (hPl.lt (by decide)) dX12_image_90 ?_
        refine g_iconst (pc := 93) (v := (0 : Int32)) dX12_image_93 rfl ?_
        refine g_iload_n (pc := 94) dX12_image_94 rfl rfl ?_
        refine g_iadd (pc := 95) dX12_image_95 ?_
        refine g_aload_n (pc := 96) dX12_image_96 rfl rfl ?_
        refine g_aload_n (pc := 97) dX12_image_97 rfl rfl ?_
        refine g_getR (pc := 98) (k := 55) (r := 72) kf_X12_62.r rfl rfl (hPl.get (by decide) rfl) (hPl.lt (by decide)) dX12_image_98 ?_
        refine g_iconst (pc := 101) (v := (0 : Int32)) dX12_image_101 rfl ?_
        refine g_iload_n (pc := 102) dX12_image_102 rfl rfl ?_
        refine g_iadd (pc := 103) dX12_image_103 ?_
        obtain ⟨c_32, hF⟩ := am_gd hF
        refine g_iald (pc := 104) (k := 72) rfl (hPl.lt (by decide)) (am_ix_use c_32) dX12_image_104 ?_
        obtain ⟨r_34, I_35, h_33, hF⟩ := am_b2_el hF
        refine g_cVi (pc := 105) (k := 55) (As := [.int (I_24 72 ((0 : Int32) + l2_23).toNatClampNeg)]) (st := [.int ((0 : Int32) + l2_23), .ref 72]) ky_X12_kept kl_X12_388 (s_X12_kept_55 (d := 1) (hPl) (Nat.le_refl _) h_33) rfl rfl rfl (hPl.lt (by decide)) (Nat.le_trans (by decide) hd) (Nat.le_of_ble_eq_true rfl) (Nat.le_refl _) (Nat.le_refl _) dX12_image_105 ?_
        obtain ⟨c_36, hF⟩ := am_gd hF
        obtain ⟨I_37, e_I_37, hF⟩ := am_let_el hF
        refine n_iast (pc := 108) (k := 72) e_I_37 rfl (hPl.lt (by decide)) (am_ix_use c_36) dX12_image_108 ?_
        obtain ⟨l2_38, e_l2_38, hF⟩ := am_let_el hF
        refine n_iinc (pc := 109) (ls2 := [.ref 55, .int a1, .int l2_38]) e_l2_38 rfl rfl rfl dX12_image_109 (Nat.le_of_ble_eq_true rfl) ?_
        refine g_goto (pc := 112) (tgt := 83) dX12_image_112 rfl ?_
        cases hF
        exact ih_27 (l2_38, I_37) rfl
      ) _ _ hL_29
    exact hC
  · replace hF := am_yes c_2 hF
    refine g_aload_n (pc := 9) dX12_image_9 rfl rfl ?_
    refine g_getI (pc := 10) (k := 55) kf_X12_391.r rfl rfl (hPl.lt (by decide)) dX12_image_10 ?_
    refine g_if_ne (pc := 13) (tgt := 18) dX12_image_13 rfl (fun c_151 => ?_) (fun c_151 => ?_)
    · replace hF := am_no c_151 hF
      refine g_aload_n (pc := 18) dX12_image_18 rfl rfl ?_
      refine g_iload_n (pc := 19) dX12_image_19 rfl rfl ?_
      obtain ⟨c_152, hF⟩ := am_gd hF
      obtain ⟨I_153, e_I_153, hF⟩ := am_let_el hF
      refine n_putZ (pc := 20) (k := 55) e_I_153 kf_X12_384 rfl rfl (hPl.lt (by decide)) c_152 dX12_image_20 ?_
      refine g_aload_n (pc := 23) dX12_image_23 rfl rfl ?_
      refine g_iconst (pc := 24) (v := (1 : Int32)) dX12_image_24 rfl ?_
      obtain ⟨I_154, e_I_154, hF⟩ := am_let_el hF
      refine n_putZ (pc := 25) (k := 55) e_I_154 kf_X12_391 rfl rfl (hPl.lt (by decide)) (Or.inr rfl) dX12_image_25 ?_
      refine g_aload_n (pc := 28) dX12_image_28 rfl rfl ?_
      refine g_iconst (pc := 29) (v := (0 : Int32)) dX12_image_29 rfl ?_
      obtain ⟨I_155, e_I_155, hF⟩ := am_let_el hF
      refine n_putI (pc := 30) (k := 55) e_I_155 kf_X12_381 rfl rfl (hPl.lt (by decide)) dX12_image_30 ?_
      refine g_aload_n (pc := 33) dX12_image_33 rfl rfl ?_
      refine g_aload_n (pc := 34) dX12_image_34 rfl rfl ?_
      refine g_aload_n (pc := 35) dX12_image_35 rfl rfl ?_
      refine g_getI (pc := 36) (k := 55) kf_X12_137.r rfl rfl (hPl.lt (by decide)) dX12_image_36 ?_
      obtain ⟨r_157, I_158, h_156, hF⟩ := am_b2_el hF
      refine g_cVi (pc := 39) (k := 55) (As := [.int (I_155 55 1)]) (st := [.ref 55]) ky_X12_kept kl_X12_388 (s_X12_kept_55 (d := 1) (hPl) (Nat.le_refl _) h_156) rfl rfl rfl (hPl.lt (by decide)) (Nat.le_trans (by decide) hd) (Nat.le_of_ble_eq_true rfl) (Nat.le_refl _) (Nat.le_refl _) dX12_image_39 ?_
      obtain ⟨I_159, e_I_159, hF⟩ := am_let_el hF
      refine n_putI (pc := 42) (k := 55) e_I_159 kf_X12_137 rfl rfl (hPl.lt (by decide)) dX12_image_42 ?_
      refine g_aload_n (pc := 45) dX12_image_45 rfl rfl ?_
      refine g_aload_n (pc := 46) dX12_image_46 rfl rfl ?_
      refine g_aload_n (pc := 47) dX12_image_47 rfl rfl ?_
      refine g_getI (pc := 48) (k := 55) kf_X12_7.r rfl rfl (hPl.lt (by decide)) dX12_image_48 ?_
      obtain ⟨r_161, I_162, h_160, hF⟩ := am_b2_el hF
      refine g_cVi (pc := 51) (k := 55) (As := [.int (I_159 55 2)]) (st := [.ref 55]) ky_X12_kept kl_X12_388 (s_X12_kept_55 (d := 1) (hPl) (Nat.le_refl _) h_160) rfl rfl rfl (hPl.lt (by decide)) (Nat.le_trans (by decide) hd) (Nat.le_of_ble_eq_true rfl) (Nat.le_refl _) (Nat.le_refl _) dX12_image_51 ?_
      obtain ⟨I_163, e_I_163, hF⟩ := am_let_el hF
      refine n_putI (pc := 54) (k := 55) e_I_163 kf_X12_7 rfl rfl (hPl.lt (by decide)) dX12_image_54 ?_
      refine g_aload_n (pc := 57) dX12_image_57 rfl rfl ?_
      refine g_aload_n (pc := 58) dX12_image_58 rfl rfl ?_
      refine g_aload_n (pc := 59) dX12_image_59 rfl rfl ?_
      refine g_getI (pc := 60) (k := 55) kf_X12_155.r rfl rfl (hPl.lt (by decide)) dX12_image_60 ?_
      obtain ⟨r_165, I_166, h_164, hF⟩ := am_b2_el hF
      refine g_cVi (pc := 63) (k := 55) (As := [.int (I_163 55 13)]) (st := [.ref 55]) ky_X12_kept kl_X12_388 (s_X12_kept_55 (d := 1) (hPl) (Nat.le_refl _) h_164) rfl rfl rfl (hPl.lt (by decide)) (Nat.le_trans (by decide) hd) (Nat.le_of_ble_eq_true rfl) (Nat.le_refl _) (Nat.le_refl _) dX12_image_63 ?_
      obtain ⟨I_167, e_I_167, hF⟩ := am_let_el hF
      refine n_putI (pc := 66) (k := 55) e_I_167 kf_X12_155 rfl rfl (hPl.lt (by decide)) dX12_image_66 ?_
      refine g_aload_n (pc := 69) dX12_image_69 rfl rfl ?_
      refine g_aload_n (pc := 70) dX12_image_70 rfl rfl ?_
      refine g_aload_n (pc := 71) dX12_image_71 rfl rfl ?_
      refine g_getI (pc := 72) (k := 55) kf_X12_142.r rfl rfl (hPl.lt (by decide)) dX12_image_72 ?_
      obtain ⟨r_169, I_170, h_168, hF⟩ := am_b2_el hF
      refine g_cVi (pc := 75) (k := 55) (As := [.int (I_167 55 4)]) (st := [.ref 55]) ky_X12_kept kl_X12_388 (s_X12_kept_55 (d := 1) (hPl) (Nat.le_refl _) h_168) rfl rfl rfl (hPl.lt (by decide)) (Nat.le_trans (by decide) hd) (Nat.le_of_ble_eq_true rfl) (Nat.le_refl _) (Nat.le_refl _) dX12_image_75 ?_
      obtain ⟨I_171, e_I_171, hF⟩ := am_let_el hF
      refine n_putI (pc := 78) (k := 55) e_I_171 kf_X12_142 rfl rfl (hPl.lt (by decide)) dX12_image_78 ?_
      refine g_iconst (pc := 81) (v := (0 : Int32)) dX12_image_81 rfl ?_
      refine n_istore_n (pc := 82) (ls2 := [.ref 55, .int a1, .int (0 : Int32)]) rfl rfl dX12_image_82 rfl (Nat.le_of_ble_eq_true rfl) ?_
      obtain ⟨I_174, hL_178, hF⟩ := am_b1_el hF
      have hX_175 : G am_sc0 l d 0 0 mX12_image (am_qz r N P I2) 115 [.ref 55, .int a1, .null] [] N P I_174 0 0 := by
        refine g_iconst (pc := 115) (v := (0 : Int32)) dX12_image_115 rfl ?_
        refine n_istore_n (pc := 116) (ls2 := [.ref 55, .int a1, .int (0 : Int32)]) rfl rfl dX12_image_116 rfl (Nat.le_of_ble_eq_true rfl) ?_
        obtain ⟨I_190, hL_194, hF⟩ := am_b1_el hF
        have hX_191 : G am_sc0 l d 0 0 mX12_image (am_qz r N P I2) 144 [.ref 55, .int a1, .null] [] N P I_190 0 0 := by
          refine g_iconst (pc := 144) (v := (0 : Int32)) dX12_image_144 rfl ?_
          refine n_istore_n (pc := 145) (ls2 := [.ref 55, .int a1, .int (0 : Int32)]) rfl rfl dX12_image_145 rfl (Nat.le_of_ble_eq_true rfl) ?_
          obtain ⟨I_206, hL_210, hF⟩ := am_b1_el hF
          have hX_207 : G am_sc0 l d 0 0 mX12_image (am_qz r N P I2) 174 [.ref 55, .int a1, .null] [] N P I_206 0 0 := by
            refine g_iconst (pc := 174) (v := (0 : Int32)) dX12_image_174 rfl ?_
            refine n_istore_n (pc := 175) (ls2 := [.ref 55, .int a1, .int (0 : Int32)]) rfl rfl dX12_image_175 rfl (Nat.le_of_ble_eq_true rfl) ?_
            obtain ⟨I_222, hL_226, hF⟩ := am_b1_el hF
            have hX_223 : G am_sc0 l d 0 0 mX12_image (am_qz r N P I2) 204 [.ref 55, .int a1, .null] [] N P I_222 0 0 := by
              refine g_aload_n (pc := 204) dX12_image_204 rfl rfl ?_
              refine g_aload_n (pc := 205) dX12_image_205 rfl rfl ?_
              refine g_aload_n (pc := 206) dX12_image_206 rfl rfl ?_
              refine g_getI (pc := 207) (k := 55) kf_X12_152.r rfl rfl (hPl.lt (by decide)) dX12_image_207 ?_
              obtain ⟨r_237, I_238, h_236, hF⟩ := am_b2_el hF
              refine g_cVi (pc := 210) (k := 55) (As := [.int (I_222 55 8)]) (st := [.ref 55]) ky_X12_kept kl_X12_388 (s_X12_kept_55 (d := 1) (hPl) (Nat.le_refl _) h_236) rfl rfl rfl (hPl.lt (by decide)) (Nat.le_trans (by decide) hd) (Nat.le_of_ble_eq_true rfl) (Nat.le_refl _) (Nat.le_refl _) dX12_image_210 ?_
              obtain ⟨I_239, e_I_239, hF⟩ := am_let_el hF
              refine n_putI (pc := 213) (k := 55) e_I_239 kf_X12_152 rfl rfl (hPl.lt (by decide)) dX12_image_213 ?_
              refine g_iconst (pc := 216) (v := (0 : Int32)) dX12_image_216 rfl ?_
              refine n_istore_n (pc := 217) (ls2 := [.ref 55, .int a1, .int (0 : Int32)]) rfl rfl dX12_image_217 rfl (Nat.le_of_ble_eq_true rfl) ?_
              obtain ⟨I_242, hL_246, hF⟩ := am_b1_el hF
              have hX_243 : G am_sc0 l d 0 0 mX12_image (am_qz r N P I2) 294 [.ref 55, .int a1, .null] [] N P I_242 0 0 := by
                refine g_iconst (pc := 294) (v := (0 : Int32)) dX12_image_294 rfl ?_
                refine n_istore_n (pc := 295) (ls2 := [.ref 55, .int a1, .int (0 : Int32)]) rfl rfl dX12_image_295 rfl (Nat.le_of_ble_eq_true rfl) ?_
                obtain ⟨I_276, hL_280, hF⟩ := am_b1_el hF
                have hX_277 : G am_sc0 l d 0 0 mX12_image (am_qz r N P I2) 340 [.ref 55, .int a1, .null] [] N P I_276 0 0 := by
                  refine g_aload_n (pc := 340) dX12_image_340 rfl rfl ?_
                  obtain ⟨I_297, h_296, hF⟩ := am_b1_el hF
                  refine g_cVv (pc := 341) (k := 55) (As := []) (st := []) ky_X12_keepsPeople kl_X12_394 (s_X12_keepsPeople_55 (d := 2) (hPl) (Nat.le_refl _) h_296) rfl rfl rfl (hPl.lt (by decide)) (Nat.le_trans (by decide) hd) (Nat.le_of_ble_eq_true rfl) (Nat.le_refl _) (Nat.le_refl _) dX12_image_341 ?_
                  refine g_aload_n (pc := 344) dX12_image_344 rfl rfl ?_
                  obtain ⟨I_299, h_298, hF⟩ := am_b1_el hF
                  refine g_cVv (pc := 345) (k := 55) (As := []) (st := []) ky_X12_keepsRule kl_X12_397 (s_X12_keepsRule_55 (d := 2) (hPl) (Nat.le_refl _) h_298) rfl rfl rfl (hPl.lt (by decide)) (Nat.le_trans (by decide) hd) (Nat.le_of_ble_eq_true rfl) (Nat.le_refl _) (Nat.le_refl _) dX12_image_345 ?_
                  refine g_iconst (pc := 348) (v := (1 : Int32)) dX12_image_348 rfl ?_
                  cases hF
                  exact g_zret (pc := 349) rfl (Or.inr rfl) (Nat.le_refl _) (Nat.le_refl _) dX12_image_349 ⟨(Or.inr rfl), rfl, rfl, rfl, rfl⟩
                clear hF
                have hC := am_loop (C := fun x => G am_sc0 l d 0 0 mX12_image (am_qz r N P I2) 296 [.ref 55, .int a1, .int x.1] [] N P x.2 0 0) (by
                  rintro ⟨l2_274, I_275⟩ rr hF ih_278 hE_279
                  replace hF := am_u2_ap hF
                  change G am_sc0 l d 0 0 mX12_image (am_qz r N P I2) 296 [.ref 55, .int a1, .int l2_274] [] N P I_275 0 0
                  refine g_iload_n (pc := 296) dX12_image_296 rfl rfl ?_
                  refine g_bipush (pc := 297) (v := (9 : Int32)) dX12_image_297 rfl ?_
                  refine g_icmp_ge (pc := 299) (tgt := 340) dX12_image_299 rfl (fun c_282 => ?_) (fun c_282 => ?_)
                  · replace hF := am_yes c_282 hF
                    cases hF
                    cases hE_279 _ rfl
                    exact g_weak hX_277 ⟨Or.inr rfl, Or.inr rfl, Or.inl rfl, trivial⟩
                  · replace hF := am_no c_282 hF
                    refine g_aload_n (pc := 302) dX12_image_302 rfl rfl ?_
                    refine g_getR (pc := 303) (k := 55) (r := 70) kf_X12_56.r rfl rfl (hPl.get (by decide) rfl) (hPl.lt (by decide)) dX12_image_303 ?_
                    refine g_iload_n (pc := 306) dX12_image_306 rfl rfl ?_
                    refine g_aload_n (pc := 307) dX12_image_307 rfl rfl ?_
                    refine g_aload_n (pc := 308) dX12_image_308 rfl rfl ?_
                    refine g_getR (pc := 309) (k := 55) (r := 70) kf_X12_56.r rfl rfl (hPl.get (by decide) rfl) (hPl.lt (by decide)) dX12_image_309 ?_
                    refine g_iload_n (pc := 312) dX12_image_312 rfl rfl ?_
                    obtain ⟨c_283, hF⟩ := am_gd hF
                    refine g_iald (pc := 313) (k := 70) rfl (hPl.lt (by decide)) (am_ix_use c_283) dX12_image_313 ?_
                    obtain ⟨r_285, I_286, h_284, hF⟩ := am_b2_el hF
                    refine g_cVi (pc := 314) (k := 55) (As := [.int (I_275 70 l2_274.toNatClampNeg)]) (st := [.int l2_274, .ref 70]) ky_X12_kept kl_X12_388 (s_X12_kept_55 (d := 1) (hPl) (Nat.le_refl _) h_284) rfl rfl rfl (hPl.lt (by decide)) (Nat.le_trans (by decide) hd) (Nat.le_of_ble_eq_true rfl) (Nat.le_refl _) (Nat.le_refl _) dX12_image_314 ?_
                    obtain ⟨c_287, hF⟩ := am_gd hF
                    obtain ⟨I_288, e_I_288, hF⟩ := am_let_el hF
                    refine n_iast (pc := 317) (k := 70) e_I_288 rfl (hPl.lt (by decide)) (am_ix_use c_287) dX12_image_317 ?_
                    refine g_aload_n (pc := 318) dX12_image_318 rfl rfl ?_
                    refine g_getR (pc := 319) (k := 55) (r := 71) kf_X12_59.r rfl rfl (hPl.get (by decide) rfl) (hPl.lt (by decide)) dX12_image_319 ?_
                    refine g_iload_n (pc := 322) dX12_image_322 rfl rfl ?_
                    refine g_aload_n (pc := 323) dX12_image_323 rfl rfl ?_
                    refine g_aload_n (pc := 324) dX12_image_324 rfl rfl ?_
                    refine g_getR (pc := 325) (k := 55) (r := 71) kf_X12_59.r rfl rfl (hPl.get (by decide) rfl) (hPl.lt (by decide)) dX12_image_325 ?_
                    refine g_iload_n (pc := 328) dX12_image_328 rfl rfl ?_
                    obtain ⟨c_289, hF⟩ := am_gd hF
                    refine g_iald (pc := 329) (k := 71) rfl (hPl.lt (by decide)) (am_ix_use c_289) dX12_image_329 ?_
                    obtain ⟨r_291, I_292, h_290, hF⟩ := am_b2_el hF
                    refine g_cVi (pc := 330) (k := 55) (As := [.int (I_288 71 l2_274.toNatClampNeg)]) (st := [.int l2_274, .ref 71]) ky_X12_kept kl_X12_388 (s_X12_kept_55 (d := 1) (hPl) (Nat.le_refl _) h_290) rfl rfl rfl (hPl.lt (by decide)) (Nat.le_trans (by decide) hd) (Nat.le_of_ble_eq_true rfl) (Nat.le_refl _) (Nat.le_refl _) dX12_image_330 ?_
                    obtain ⟨c_293, hF⟩ := am_gd hF
                    obtain ⟨I_294, e_I_294, hF⟩ := am_let_el hF
                    refine n_iast (pc := 333) (k := 71) e_I_294 rfl (hPl.lt (by decide)) (am_ix_use c_293) dX12_image_333 ?_
                    obtain ⟨l2_295, e_l2_295, hF⟩ := am_let_el hF
                    refine n_iinc (pc := 334) (ls2 := [.ref 55, .int a1, .int l2_295]) e_l2_295 rfl rfl rfl dX12_image_334 (Nat.le_of_ble_eq_true rfl) ?_
                    refine g_goto (pc := 337) (tgt := 296) dX12_image_337 rfl ?_
                    cases hF
                    exact ih_278 (l2_295, I_294) rfl
                  ) _ _ hL_280
                exact hC
              clear hF
              have hC := am_loop (C := fun x => G am_sc0 l d 0 0 mX12_image (am_qz r N P I2) 218 [.ref 55, .int a1, .int x.1] [] N P x.2 0 0) (by
                rintro ⟨l2_240, I_241⟩ rr hF ih_244 hE_245
                replace hF := am_u2_ap hF
                change G am_sc0 l d 0 0 mX12_image (am_qz r N P I2) 218 [.ref 55, .int a1, .int l2_240] [] N P I_241 0 0
                refine g_iload_n (pc := 218) dX12_image_218 rfl rfl ?_
                refine g_bipush (pc := 219) (v := (20 : Int32)) dX12_image_219 rfl ?_
                refine g_icmp_ge (pc := 221) (tgt := 294) dX12_image_221 rfl (fun c_248 => ?_) (fun c_248 => ?_)
                · replace hF := am_yes c_248 hF
                  cases hF
                  cases hE_245 _ rfl
                  exact g_weak hX_243 ⟨Or.inr rfl, Or.inr rfl, Or.inl rfl, trivial⟩
                · replace hF := am_no c_248 hF
                  refine g_aload_n (pc := 224) dX12_image_224 rfl rfl ?_
                  refine g_getR (pc := 225) (k := 55) (r := 59) kf_X12_23.r rfl rfl (hPl.get (by decide) rfl) (hPl.lt (by decide)) dX12_image_225 ?_
                  refine g_iload_n (pc := 228) dX12_image_228 rfl rfl ?_
                  refine g_aload_n (pc := 229) dX12_image_229 rfl rfl ?_
                  refine g_aload_n (pc := 230) dX12_image_230 rfl rfl ?_
                  refine g_getR (pc := 231) (k := 55) (r := 59) kf_X12_23.r rfl rfl (hPl.get (by decide) rfl) (hPl.lt (by decide)) dX12_image_231 ?_
                  refine g_iload_n (pc := 234) dX12_image_234 rfl rfl ?_
                  obtain ⟨c_249, hF⟩ := am_gd hF
                  refine g_iald (pc := 235) (k := 59) rfl (hPl.lt (by decide)) (am_ix_use c_249) dX12_image_235 ?_
                  obtain ⟨r_251, I_252, h_250, hF⟩ := am_b2_el hF
                  refine g_cVi (pc := 236) (k := 55) (As := [.int (I_241 59 l2_240.toNatClampNeg)]) (st := [.int l2_240, .ref 59]) ky_X12_kept kl_X12_388 (s_X12_kept_55 (d := 1) (hPl) (Nat.le_refl _) h_250) rfl rfl rfl (hPl.lt (by decide)) (Nat.le_trans (by decide) hd) (Nat.le_of_ble_eq_true rfl) (Nat.le_refl _) (Nat.le_refl _) dX12_image_236 ?_
                  obtain ⟨c_253, hF⟩ := am_gd hF
                  obtain ⟨I_254, e_I_254, hF⟩ := am_let_el hF
                  refine n_iast (pc := 239) (k := 59) e_I_254 rfl (hPl.lt (by decide)) (am_ix_use c_253) dX12_image_239 ?_
                  refine g_aload_n (pc := 240) dX12_image_240 rfl rfl ?_
                  refine g_getR (pc := 241) (k := 55) (r := 60) kf_X12_26.r rfl rfl (hPl.get (by decide) rfl) (hPl.lt (by decide)) dX12_image_241 ?_
                  refine g_iload_n (pc := 244) dX12_image_244 rfl rfl ?_
                  refine g_aload_n (pc := 245) dX12_image_245 rfl rfl ?_
                  refine g_aload_n (pc := 246) dX12_image_246 rfl rfl ?_
                  refine g_getR (pc := 247) (k := 55) (r := 60) kf_X12_26.r rfl rfl (hPl.get (by decide) rfl) (hPl.lt (by decide)) dX12_image_247 ?_
                  refine g_iload_n (pc := 250) dX12_image_250 rfl rfl ?_
                  obtain ⟨c_255, hF⟩ := am_gd hF
                  refine g_iald (pc := 251) (k := 60) rfl (hPl.lt (by decide)) (am_ix_use c_255) dX12_image_251 ?_
                  obtain ⟨r_257, I_258, h_256, hF⟩ := am_b2_el hF
                  refine g_cVi (pc := 252) (k := 55) (As := [.int (I_254 60 l2_240.toNatClampNeg)]) (st := [.int l2_240, .ref 60]) ky_X12_kept kl_X12_388 (s_X12_kept_55 (d := 1) (hPl) (Nat.le_refl _) h_256) rfl rfl rfl (hPl.lt (by decide)) (Nat.le_trans (by decide) hd) (Nat.le_of_ble_eq_true rfl) (Nat.le_refl _) (Nat.le_refl _) dX12_image_252 ?_
                  obtain ⟨c_259, hF⟩ := am_gd hF
                  obtain ⟨I_260, e_I_260, hF⟩ := am_let_el hF
                  refine n_iast (pc := 255) (k := 60) e_I_260 rfl (hPl.lt (by decide)) (am_ix_use c_259) dX12_image_255 ?_
                  refine g_aload_n (pc := 256) dX12_image_256 rfl rfl ?_
                  refine g_getR (pc := 257) (k := 55) (r := 61) kf_X12_29.r rfl rfl (hPl.get (by decide) rfl) (hPl.lt (by decide)) dX12_image_257 ?_
                  refine g_iload_n (pc := 260) dX12_image_260 rfl rfl ?_
                  refine g_aload_n (pc := 261) dX12_image_261 rfl rfl ?_
                  refine g_aload_n (pc := 262) dX12_image_262 rfl rfl ?_
                  refine g_getR (pc := 263) (k := 55) (r := 61) kf_X12_29.r rfl rfl (hPl.get (by decide) rfl) (hPl.lt (by decide)) dX12_image_263 ?_
                  refine g_iload_n (pc := 266) dX12_image_266 rfl rfl ?_
                  obtain ⟨c_261, hF⟩ := am_gd hF
                  refine g_iald (pc := 267) (k := 61) rfl (hPl.lt (by decide)) (am_ix_use c_261) dX12_image_267 ?_
                  obtain ⟨r_263, I_264, h_262, hF⟩ := am_b2_el hF
                  refine g_cVi (pc := 268) (k := 55) (As := [.int (I_260 61 l2_240.toNatClampNeg)]) (st := [.int l2_240, .ref 61]) ky_X12_kept kl_X12_388 (s_X12_kept_55 (d := 1) (hPl) (Nat.le_refl _) h_262) rfl rfl rfl (hPl.lt (by decide)) (Nat.le_trans (by decide) hd) (Nat.le_of_ble_eq_true rfl) (Nat.le_refl _) (Nat.le_refl _) dX12_image_268 ?_
                  obtain ⟨c_265, hF⟩ := am_gd hF
                  obtain ⟨I_266, e_I_266, hF⟩ := am_let_el hF
                  refine n_iast (pc := 271) (k := 61) e_I_266 rfl (hPl.lt (by decide)) (am_ix_use c_265) dX12_image_271 ?_
                  refine g_aload_n (pc := 272) dX12_image_272 rfl rfl ?_
                  refine g_getR (pc := 273) (k := 55) (r := 62) kf_X12_32.r rfl rfl (hPl.get (by decide) rfl) (hPl.lt (by decide)) dX12_image_273 ?_
                  refine g_iload_n (pc := 276) dX12_image_276 rfl rfl ?_
                  refine g_aload_n (pc := 277) dX12_image_277 rfl rfl ?_
                  refine g_aload_n (pc := 278) dX12_image_278 rfl rfl ?_
                  refine g_getR (pc := 279) (k := 55) (r := 62) kf_X12_32.r rfl rfl (hPl.get (by decide) rfl) (hPl.lt (by decide)) dX12_image_279 ?_
                  refine g_iload_n (pc := 282) dX12_image_282 rfl rfl ?_
                  obtain ⟨c_267, hF⟩ := am_gd hF
                  refine g_iald (pc := 283) (k := 62) rfl (hPl.lt (by decide)) (am_ix_use c_267) dX12_image_283 ?_
                  obtain ⟨r_269, I_270, h_268, hF⟩ := am_b2_el hF
                  refine g_cVi (pc := 284) (k := 55) (As := [.int (I_266 62 l2_240.toNatClampNeg)]) (st := [.int l2_240, .ref 62]) ky_X12_kept kl_X12_388 (s_X12_kept_55 (d := 1) (hPl) (Nat.le_refl _) h_268) rfl rfl rfl (hPl.lt (by decide)) (Nat.le_trans (by decide) hd) (Nat.le_of_ble_eq_true rfl) (Nat.le_refl _) (Nat.le_refl _) dX12_image_284 ?_
                  obtain ⟨c_271, hF⟩ := am_gd hF
                  obtain ⟨I_272, e_I_272, hF⟩ := am_let_el hF
                  refine n_iast (pc := 287) (k := 62) e_I_272 rfl (hPl.lt (by decide)) (am_ix_use c_271) dX12_image_287 ?_
                  obtain ⟨l2_273, e_l2_273, hF⟩ := am_let_el hF
                  refine n_iinc (pc := 288) (ls2 := [.ref 55, .int a1, .int l2_273]) e_l2_273 rfl rfl rfl dX12_image_288 (Nat.le_of_ble_eq_true rfl) ?_
                  refine g_goto (pc := 291) (tgt := 218) dX12_image_291 rfl ?_
                  cases hF
                  exact ih_244 (l2_273, I_272) rfl
                ) _ _ hL_246
              exact hC
            clear hF
            have hC := am_loop (C := fun x => G am_sc0 l d 0 0 mX12_image (am_qz r N P I2) 176 [.ref 55, .int a1, .int x.1] [] N P x.2 0 0) (by
              rintro ⟨l2_220, I_221⟩ rr hF ih_224 hE_225
              replace hF := am_u2_ap hF
              change G am_sc0 l d 0 0 mX12_image (am_qz r N P I2) 176 [.ref 55, .int a1, .int l2_220] [] N P I_221 0 0
              refine g_iload_n (pc := 176) dX12_image_176 rfl rfl ?_
              refine g_bipush (pc := 177) (v := (49 : Int32)) dX12_image_177 rfl ?_
              refine g_icmp_ge (pc := 179) (tgt := 204) dX12_image_179 rfl (fun c_228 => ?_) (fun c_228 => ?_)
              · replace hF := am_yes c_228 hF
                cases hF
                cases hE_225 _ rfl
                exact g_weak hX_223 ⟨Or.inr rfl, Or.inr rfl, Or.inl rfl, trivial⟩
              · replace hF := am_no c_228 hF
                refine g_aload_n (pc := 182) dX12_image_182 rfl rfl ?_
                refine g_getR (pc := 183) (k := 55) (r := 66) kf_X12_44.r rfl rfl (hPl.get (by decide) rfl) (hPl.lt (by decide)) dX12_image_183 ?_
                refine g_iload_n (pc := 186) dX12_image_186 rfl rfl ?_
                refine g_aload_n (pc := 187) dX12_image_187 rfl rfl ?_
                refine g_aload_n (pc := 188) dX12_image_188 rfl rfl ?_
                refine g_getR (pc := 189) (k := 55) (r := 66) kf_X12_44.r rfl rfl (hPl.get (by decide) rfl) (hPl.lt (by decide)) dX12_image_189 ?_
                refine g_iload_n (pc := 192) dX12_image_192 rfl rfl ?_
                obtain ⟨c_229, hF⟩ := am_gd hF
                refine g_iald (pc := 193) (k := 66) rfl (hPl.lt (by decide)) (am_ix_use c_229) dX12_image_193 ?_
                obtain ⟨r_231, I_232, h_230, hF⟩ := am_b2_el hF
                refine g_cVi (pc := 194) (k := 55) (As := [.int (I_221 66 l2_220.toNatClampNeg)]) (st := [.int l2_220, .ref 66]) ky_X12_kept kl_X12_388 (s_X12_kept_55 (d := 1) (hPl) (Nat.le_refl _) h_230) rfl rfl rfl (hPl.lt (by decide)) (Nat.le_trans (by decide) hd) (Nat.le_of_ble_eq_true rfl) (Nat.le_refl _) (Nat.le_refl _) dX12_image_194 ?_
                obtain ⟨c_233, hF⟩ := am_gd hF
                obtain ⟨I_234, e_I_234, hF⟩ := am_let_el hF
                refine n_iast (pc := 197) (k := 66) e_I_234 rfl (hPl.lt (by decide)) (am_ix_use c_233) dX12_image_197 ?_
                obtain ⟨l2_235, e_l2_235, hF⟩ := am_let_el hF
                refine n_iinc (pc := 198) (ls2 := [.ref 55, .int a1, .int l2_235]) e_l2_235 rfl rfl rfl dX12_image_198 (Nat.le_of_ble_eq_true rfl) ?_
                refine g_goto (pc := 201) (tgt := 176) dX12_image_201 rfl ?_
                cases hF
                exact ih_224 (l2_235, I_234) rfl
              ) _ _ hL_226
            exact hC
          clear hF
          have hC := am_loop (C := fun x => G am_sc0 l d 0 0 mX12_image (am_qz r N P I2) 146 [.ref 55, .int a1, .int x.1] [] N P x.2 0 0) (by
            rintro ⟨l2_204, I_205⟩ rr hF ih_208 hE_209
            replace hF := am_u2_ap hF
            change G am_sc0 l d 0 0 mX12_image (am_qz r N P I2) 146 [.ref 55, .int a1, .int l2_204] [] N P I_205 0 0
            refine g_iload_n (pc := 146) dX12_image_146 rfl rfl ?_
            refine g_bipush (pc := 147) (v := (56 : Int32)) dX12_image_147 rfl ?_
            refine g_icmp_ge (pc := 149) (tgt := 174) dX12_image_149 rfl (fun c_212 => ?_) (fun c_212 => ?_)
            · replace hF := am_yes c_212 hF
              cases hF
              cases hE_209 _ rfl
              exact g_weak hX_207 ⟨Or.inr rfl, Or.inr rfl, Or.inl rfl, trivial⟩
            · replace hF := am_no c_212 hF
              refine g_aload_n (pc := 152) dX12_image_152 rfl rfl ?_
              refine g_getR (pc := 153) (k := 55) (r := 58) kf_X12_20.r rfl rfl (hPl.get (by decide) rfl) (hPl.lt (by decide)) dX12_image_153 ?_
              refine g_iload_n (pc := 156) dX12_image_156 rfl rfl ?_
              refine g_aload_n (pc := 157) dX12_image_157 rfl rfl ?_
              refine g_aload_n (pc := 158) dX12_image_158 rfl rfl ?_
              refine g_getR (pc := 159) (k := 55) (r := 58) kf_X12_20.r rfl rfl (hPl.get (by decide) rfl) (hPl.lt (by decide)) dX12_image_159 ?_
              refine g_iload_n (pc := 162) dX12_image_162 rfl rfl ?_
              obtain ⟨c_213, hF⟩ := am_gd hF
              refine g_iald (pc := 163) (k := 58) rfl (hPl.lt (by decide)) (am_ix_use c_213) dX12_image_163 ?_
              obtain ⟨r_215, I_216, h_214, hF⟩ := am_b2_el hF
              refine g_cVi (pc := 164) (k := 55) (As := [.int (I_205 58 l2_204.toNatClampNeg)]) (st := [.int l2_204, .ref 58]) ky_X12_kept kl_X12_388 (s_X12_kept_55 (d := 1) (hPl) (Nat.le_refl _) h_214) rfl rfl rfl (hPl.lt (by decide)) (Nat.le_trans (by decide) hd) (Nat.le_of_ble_eq_true rfl) (Nat.le_refl _) (Nat.le_refl _) dX12_image_164 ?_
              obtain ⟨c_217, hF⟩ := am_gd hF
              obtain ⟨I_218, e_I_218, hF⟩ := am_let_el hF
              refine n_iast (pc := 167) (k := 58) e_I_218 rfl (hPl.lt (by decide)) (am_ix_use c_217) dX12_image_167 ?_
              obtain ⟨l2_219, e_l2_219, hF⟩ := am_let_el hF
              refine n_iinc (pc := 168) (ls2 := [.ref 55, .int a1, .int l2_219]) e_l2_219 rfl rfl rfl dX12_image_168 (Nat.le_of_ble_eq_true rfl) ?_
              refine g_goto (pc := 171) (tgt := 146) dX12_image_171 rfl ?_
              cases hF
              exact ih_208 (l2_219, I_218) rfl
            ) _ _ hL_210
          exact hC
        clear hF
        have hC := am_loop (C := fun x => G am_sc0 l d 0 0 mX12_image (am_qz r N P I2) 117 [.ref 55, .int a1, .int x.1] [] N P x.2 0 0) (by
          rintro ⟨l2_188, I_189⟩ rr hF ih_192 hE_193
          replace hF := am_u2_ap hF
          change G am_sc0 l d 0 0 mX12_image (am_qz r N P I2) 117 [.ref 55, .int a1, .int l2_188] [] N P I_189 0 0
          refine g_iload_n (pc := 117) dX12_image_117 rfl rfl ?_
          refine g_iconst (pc := 118) (v := (4 : Int32)) dX12_image_118 rfl ?_
          refine g_icmp_ge (pc := 119) (tgt := 144) dX12_image_119 rfl (fun c_196 => ?_) (fun c_196 => ?_)
          · replace hF := am_yes c_196 hF
            cases hF
            cases hE_193 _ rfl
            exact g_weak hX_191 ⟨Or.inr rfl, Or.inr rfl, Or.inl rfl, trivial⟩
          · replace hF := am_no c_196 hF
            refine g_aload_n (pc := 122) dX12_image_122 rfl rfl ?_
            refine g_getR (pc := 123) (k := 55) (r := 56) kf_X12_13.r rfl rfl (hPl.get (by decide) rfl) (hPl.lt (by decide)) dX12_image_123 ?_
            refine g_iload_n (pc := 126) dX12_image_126 rfl rfl ?_
            refine g_aload_n (pc := 127) dX12_image_127 rfl rfl ?_
            refine g_aload_n (pc := 128) dX12_image_128 rfl rfl ?_
            refine g_getR (pc := 129) (k := 55) (r := 56) kf_X12_13.r rfl rfl (hPl.get (by decide) rfl) (hPl.lt (by decide)) dX12_image_129 ?_
            refine g_iload_n (pc := 132) dX12_image_132 rfl rfl ?_
            obtain ⟨c_197, hF⟩ := am_gd hF
            refine g_iald (pc := 133) (k := 56) rfl (hPl.lt (by decide)) (am_ix_use c_197) dX12_image_133 ?_
            obtain ⟨r_199, I_200, h_198, hF⟩ := am_b2_el hF
            refine g_cVi (pc := 134) (k := 55) (As := [.int (I_189 56 l2_188.toNatClampNeg)]) (st := [.int l2_188, .ref 56]) ky_X12_kept kl_X12_388 (s_X12_kept_55 (d := 1) (hPl) (Nat.le_refl _) h_198) rfl rfl rfl (hPl.lt (by decide)) (Nat.le_trans (by decide) hd) (Nat.le_of_ble_eq_true rfl) (Nat.le_refl _) (Nat.le_refl _) dX12_image_134 ?_
            obtain ⟨c_201, hF⟩ := am_gd hF
            obtain ⟨I_202, e_I_202, hF⟩ := am_let_el hF
            refine n_iast (pc := 137) (k := 56) e_I_202 rfl (hPl.lt (by decide)) (am_ix_use c_201) dX12_image_137 ?_
            obtain ⟨l2_203, e_l2_203, hF⟩ := am_let_el hF
            refine n_iinc (pc := 138) (ls2 := [.ref 55, .int a1, .int l2_203]) e_l2_203 rfl rfl rfl dX12_image_138 (Nat.le_of_ble_eq_true rfl) ?_
            refine g_goto (pc := 141) (tgt := 117) dX12_image_141 rfl ?_
            cases hF
            exact ih_192 (l2_203, I_202) rfl
          ) _ _ hL_194
        exact hC
      clear hF
      have hC := am_loop (C := fun x => G am_sc0 l d 0 0 mX12_image (am_qz r N P I2) 83 [.ref 55, .int a1, .int x.1] [] N P x.2 0 0) (by
        rintro ⟨l2_172, I_173⟩ rr hF ih_176 hE_177
        replace hF := am_u2_ap hF
        change G am_sc0 l d 0 0 mX12_image (am_qz r N P I2) 83 [.ref 55, .int a1, .int l2_172] [] N P I_173 0 0
        refine g_iload_n (pc := 83) dX12_image_83 rfl rfl ?_
        refine g_bipush (pc := 84) (v := (7 : Int32)) dX12_image_84 rfl ?_
        refine g_icmp_ge (pc := 86) (tgt := 115) dX12_image_86 rfl (fun c_180 => ?_) (fun c_180 => ?_)
        · replace hF := am_yes c_180 hF
          cases hF
          cases hE_177 _ rfl
          exact g_weak hX_175 ⟨Or.inr rfl, Or.inr rfl, Or.inl rfl, trivial⟩
        · replace hF := am_no c_180 hF
          refine g_aload_n (pc := 89) dX12_image_89 rfl rfl ?_
          refine g_getR (pc := 90) (k := 55) (r := 72) kf_X12_62.r rfl rfl (hPl.get (by decide) rfl) (hPl.lt (by decide)) dX12_image_90 ?_
          refine g_iconst (pc := 93) (v := (0 : Int32)) dX12_image_93 rfl ?_
          refine g_iload_n (pc := 94) dX12_image_94 rfl rfl ?_
          refine g_iadd (pc := 95) dX12_image_95 ?_
          refine g_aload_n (pc := 96) dX12_image_96 rfl rfl ?_
          refine g_aload_n (pc := 97) dX12_image_97 rfl rfl ?_
          refine g_getR (pc := 98) (k := 55) (r := 72) kf_X12_62.r rfl rfl (hPl.get (by decide) rfl) (hPl.lt (by decide)) dX12_image_98 ?_
          refine g_iconst (pc := 101) (v := (0 : Int32)) dX12_image_101 rfl ?_
          refine g_iload_n (pc := 102) dX12_image_102 rfl rfl ?_
          refine g_iadd (pc := 103) dX12_image_103 ?_
          obtain ⟨c_181, hF⟩ := am_gd hF
          refine g_iald (pc := 104) (k := 72) rfl (hPl.lt (by decide)) (am_ix_use c_181) dX12_image_104 ?_
          obtain ⟨r_183, I_184, h_182, hF⟩ := am_b2_el hF
          refine g_cVi (pc := 105) (k := 55) (As := [.int (I_173 72 ((0 : Int32) + l2_172).toNatClampNeg)]) (st := [.int ((0 : Int32) + l2_172), .ref 72]) ky_X12_kept kl_X12_388 (s_X12_kept_55 (d := 1) (hPl) (Nat.le_refl _) h_182) rfl rfl rfl (hPl.lt (by decide)) (Nat.le_trans (by decide) hd) (Nat.le_of_ble_eq_true rfl) (Nat.le_refl _) (Nat.le_refl _) dX12_image_105 ?_
          obtain ⟨c_185, hF⟩ := am_gd hF
          obtain ⟨I_186, e_I_186, hF⟩ := am_let_el hF
          refine n_iast (pc := 108) (k := 72) e_I_186 rfl (hPl.lt (by decide)) (am_ix_use c_185) dX12_image_108 ?_
          obtain ⟨l2_187, e_l2_187, hF⟩ := am_let_el hF
          refine n_iinc (pc := 109) (ls2 := [.ref 55, .int a1, .int l2_187]) e_l2_187 rfl rfl rfl dX12_image_109 (Nat.le_of_ble_eq_true rfl) ?_
          refine g_goto (pc := 112) (tgt := 83) dX12_image_112 rfl ?_
          cases hF
          exact ih_176 (l2_187, I_186) rfl
        ) _ _ hL_178
      exact hC
    · replace hF := am_yes c_151 hF
      refine g_iconst (pc := 16) (v := (0 : Int32)) dX12_image_16 rfl ?_
      cases hF
      exact g_zret (pc := 17) rfl (Or.inl rfl) (Nat.le_refl _) (Nat.le_refl _) dX12_image_17 ⟨(Or.inl rfl), rfl, rfl, rfl, rfl⟩
def F_X12_look_55 (I : am_IT) (a1 : Int32) : Option (Int32 × am_IT) := am_let (up2 I 55 0 (0 : Int32)) (fun (I_1 : am_IT) => if a1 = 0 then (some (I_1 55 2, I_1)) else (if a1 = (1 : Int32) then (some (I_1 55 4, I_1)) else (if a1 = (2 : Int32) then (some (I_1 55 5, I_1)) else (if a1 = (3 : Int32) then (some (I_1 55 8, I_1)) else (if a1 = (4 : Int32) then (some (I_1 55 32, I_1)) else (if a1 = (5 : Int32) then (some (I_1 55 13, I_1)) else (if a1 = (6 : Int32) then (some (I_1 55 1, I_1)) else (if a1 = (7 : Int32) then (some (I_1 55 18, I_1)) else (am_b1 (F_X12_isIn_55 I_1 a1 (10 : Int32) ((9 : Int32) + (I_1 55 5))) (fun (r_11 : Int32) => if r_11 = 0 then (am_b1 (F_X12_isIn_55 I_1 a1 (20 : Int32) ((19 : Int32) + (I_1 55 2))) (fun (r_15 : Int32) => if r_15 = 0 then (some ((-1 : Int32), I_1)) else (if am_ix (a1 - (20 : Int32)) 4 = true then (some (I_1 56 (a1 - (20 : Int32)).toNatClampNeg, I_1)) else none))) else (if am_ix (a1 - (10 : Int32)) 7 = true then (some (I_1 57 (a1 - (10 : Int32)).toNatClampNeg, I_1)) else none)))))))))))
set_option maxRecDepth 100000 in
set_option maxHeartbeats 4000000 in
theorem s_X12_look_55 {l : Launch} {d N : Nat} {P : am_PT} (hPl : am_Pl 94 N P) (hd : 2 ≤ d) {I : am_IT} {a1 : Int32} {r : Int32} {I2 : am_IT} (hF : F_X12_look_55 I a1 = some (r, I2)) : am_C l d 0 0 mX12_look [.ref 55, .int a1] N P I (am_qi r N P I2) := by
  refine am_body (sc := am_sc0) (n := 0) (by decide +kernel) (by decide) rfl ?_
  change G am_sc0 l d 0 0 mX12_look (am_qi r N P I2) 0 [.ref 55, .int a1] [] N P I 0 0
  unfold F_X12_look_55 at hF
  refine g_aload_n (pc := 0) dX12_look_0 rfl rfl ?_
  refine g_iconst (pc := 1) (v := (0 : Int32)) dX12_look_1 rfl ?_
  obtain ⟨I_1, e_I_1, hF⟩ := am_let_el hF
  refine n_putI (pc := 2) (k := 55) e_I_1 kf_X12_134 rfl rfl (hPl.lt (by decide)) dX12_look_2 ?_
  refine g_iload_n (pc := 5) dX12_look_5 rfl rfl ?_
  refine g_if_ne (pc := 6) (tgt := 14) dX12_look_6 rfl (fun c_2 => ?_) (fun c_2 => ?_)
  · replace hF := am_no c_2 hF
    refine g_iload_n (pc := 14) dX12_look_14 rfl rfl ?_
    refine g_iconst (pc := 15) (v := (1 : Int32)) dX12_look_15 rfl ?_
    refine g_icmp_ne (pc := 16) (tgt := 24) dX12_look_16 rfl (fun c_3 => ?_) (fun c_3 => ?_)
    · replace hF := am_no c_3 hF
      refine g_iload_n (pc := 24) dX12_look_24 rfl rfl ?_
      refine g_iconst (pc := 25) (v := (2 : Int32)) dX12_look_25 rfl ?_
      refine g_icmp_ne (pc := 26) (tgt := 34) dX12_look_26 rfl (fun c_4 => ?_) (fun c_4 => ?_)
      · replace hF := am_no c_4 hF
        refine g_iload_n (pc := 34) dX12_look_34 rfl rfl ?_
        refine g_iconst (pc := 35) (v := (3 : Int32)) dX12_look_35 rfl ?_
        refine g_icmp_ne (pc := 36) (tgt := 44) dX12_look_36 rfl (fun c_5 => ?_) (fun c_5 => ?_)
        · replace hF := am_no c_5 hF
          refine g_iload_n (pc := 44) dX12_look_44 rfl rfl ?_
          refine g_iconst (pc := 45) (v := (4 : Int32)) dX12_look_45 rfl ?_
          refine g_icmp_ne (pc := 46) (tgt := 54) dX12_look_46 rfl (fun c_6 => ?_) (fun c_6 => ?_)
          · replace hF := am_no c_6 hF
            refine g_iload_n (pc := 54) dX12_look_54 rfl rfl ?_
            refine g_iconst (pc := 55) (v := (5 : Int32)) dX12_look_55 rfl ?_
            refine g_icmp_ne (pc := 56) (tgt := 64) dX12_look_56 rfl (fun c_7 => ?_) (fun c_7 => ?_)
            · replace hF := am_no c_7 hF
              refine g_iload_n (pc := 64) dX12_look_64 rfl rfl ?_
              refine g_bipush (pc := 65) (v := (6 : Int32)) dX12_look_65 rfl ?_
              refine g_icmp_ne (pc := 67) (tgt := 75) dX12_look_67 rfl (fun c_8 => ?_) (fun c_8 => ?_)
              · replace hF := am_no c_8 hF
                refine g_iload_n (pc := 75) dX12_look_75 rfl rfl ?_
                refine g_bipush (pc := 76) (v := (7 : Int32)) dX12_look_76 rfl ?_
                refine g_icmp_ne (pc := 78) (tgt := 86) dX12_look_78 rfl (fun c_9 => ?_) (fun c_9 => ?_)
                · replace hF := am_no c_9 hF
                  refine g_aload_n (pc := 86) dX12_look_86 rfl rfl ?_
                  refine g_iload_n (pc := 87) dX12_look_87 rfl rfl ?_
                  refine g_bipush (pc := 88) (v := (10 : Int32)) dX12_look_88 rfl ?_
                  refine g_bipush (pc := 90) (v := (9 : Int32)) dX12_look_90 rfl ?_
                  refine g_aload_n (pc := 92) dX12_look_92 rfl rfl ?_
                  refine g_getI (pc := 93) (k := 55) kf_X12_145.r rfl rfl (hPl.lt (by decide)) dX12_look_93 ?_
                  refine g_iadd (pc := 96) dX12_look_96 ?_
                  obtain ⟨r_11, h_10, hF⟩ := am_b1_el hF
                  refine g_cVz (pc := 97) (k := 55) (As := [.int a1, .int (10 : Int32), .int ((9 : Int32) + (I_1 55 5))]) (st := []) ky_X12_isIn kl_X12_148 (s_X12_isIn_55 (d := 1) (hPl) (Nat.le_refl _) h_10) rfl rfl rfl (hPl.lt (by decide)) (Nat.le_trans (by decide) hd) (Nat.le_of_ble_eq_true rfl) (Nat.le_refl _) (Nat.le_refl _) dX12_look_97 ?_
                  intro z_12
                  refine g_if_eq (pc := 100) (tgt := 113) dX12_look_100 rfl (fun c_13 => ?_) (fun c_13 => ?_)
                  · replace hF := am_yes c_13 hF
                    refine g_aload_n (pc := 113) dX12_look_113 rfl rfl ?_
                    refine g_iload_n (pc := 114) dX12_look_114 rfl rfl ?_
                    refine g_bipush (pc := 115) (v := (20 : Int32)) dX12_look_115 rfl ?_
                    refine g_bipush (pc := 117) (v := (19 : Int32)) dX12_look_117 rfl ?_
                    refine g_aload_n (pc := 119) dX12_look_119 rfl rfl ?_
                    refine g_getI (pc := 120) (k := 55) kf_X12_7.r rfl rfl (hPl.lt (by decide)) dX12_look_120 ?_
                    refine g_iadd (pc := 123) dX12_look_123 ?_
                    obtain ⟨r_15, h_14, hF⟩ := am_b1_el hF
                    refine g_cVz (pc := 124) (k := 55) (As := [.int a1, .int (20 : Int32), .int ((19 : Int32) + (I_1 55 2))]) (st := []) ky_X12_isIn kl_X12_148 (s_X12_isIn_55 (d := 1) (hPl) (Nat.le_refl _) h_14) rfl rfl rfl (hPl.lt (by decide)) (Nat.le_trans (by decide) hd) (Nat.le_of_ble_eq_true rfl) (Nat.le_refl _) (Nat.le_refl _) dX12_look_124 ?_
                    intro z_16
                    refine g_if_eq (pc := 127) (tgt := 142) dX12_look_127 rfl (fun c_17 => ?_) (fun c_17 => ?_)
                    · replace hF := am_yes c_17 hF
                      refine g_iconst (pc := 142) (v := (-1 : Int32)) dX12_look_142 (by decide) ?_
                      cases hF
                      exact g_iret (pc := 143) rfl (Nat.le_refl _) (Nat.le_refl _) dX12_look_143 ⟨rfl, rfl, rfl, rfl⟩
                    · replace hF := am_no c_17 hF
                      refine g_aload_n (pc := 130) dX12_look_130 rfl rfl ?_
                      refine g_getR (pc := 131) (k := 55) (r := 56) kf_X12_13.r rfl rfl (hPl.get (by decide) rfl) (hPl.lt (by decide)) dX12_look_131 ?_
                      refine g_iload_n (pc := 134) dX12_look_134 rfl rfl ?_
                      refine g_bipush (pc := 135) (v := (20 : Int32)) dX12_look_135 rfl ?_
                      refine g_isub (pc := 137) dX12_look_137 ?_
                      obtain ⟨c_18, hF⟩ := am_gd hF
                      refine g_iald (pc := 138) (k := 56) rfl (hPl.lt (by decide)) (am_ix_use c_18) dX12_look_138 ?_
                      refine g_goto (pc := 139) (tgt := 143) dX12_look_139 rfl ?_
                      cases hF
                      exact g_iret (pc := 143) rfl (Nat.le_refl _) (Nat.le_refl _) dX12_look_143 ⟨rfl, rfl, rfl, rfl⟩
                  · replace hF := am_no c_13 hF
                    refine g_aload_n (pc := 103) dX12_look_103 rfl rfl ?_
                    refine g_getR (pc := 104) (k := 55) (r := 57) kf_X12_17.r rfl rfl (hPl.get (by decide) rfl) (hPl.lt (by decide)) dX12_look_104 ?_
                    refine g_iload_n (pc := 107) dX12_look_107 rfl rfl ?_
                    refine g_bipush (pc := 108) (v := (10 : Int32)) dX12_look_108 rfl ?_
                    refine g_isub (pc := 110) dX12_look_110 ?_
                    obtain ⟨c_19, hF⟩ := am_gd hF
                    refine g_iald (pc := 111) (k := 57) rfl (hPl.lt (by decide)) (am_ix_use c_19) dX12_look_111 ?_
                    cases hF
                    exact g_iret (pc := 112) rfl (Nat.le_refl _) (Nat.le_refl _) dX12_look_112 ⟨rfl, rfl, rfl, rfl⟩
                · replace hF := am_yes c_9 hF
                  refine g_aload_n (pc := 81) dX12_look_81 rfl rfl ?_
                  refine g_getI (pc := 82) (k := 55) kf_X12_158.r rfl rfl (hPl.lt (by decide)) dX12_look_82 ?_
                  cases hF
                  exact g_iret (pc := 85) rfl (Nat.le_refl _) (Nat.le_refl _) dX12_look_85 ⟨rfl, rfl, rfl, rfl⟩
              · replace hF := am_yes c_8 hF
                refine g_aload_n (pc := 70) dX12_look_70 rfl rfl ?_
                refine g_getI (pc := 71) (k := 55) kf_X12_137.r rfl rfl (hPl.lt (by decide)) dX12_look_71 ?_
                cases hF
                exact g_iret (pc := 74) rfl (Nat.le_refl _) (Nat.le_refl _) dX12_look_74 ⟨rfl, rfl, rfl, rfl⟩
            · replace hF := am_yes c_7 hF
              refine g_aload_n (pc := 59) dX12_look_59 rfl rfl ?_
              refine g_getI (pc := 60) (k := 55) kf_X12_155.r rfl rfl (hPl.lt (by decide)) dX12_look_60 ?_
              cases hF
              exact g_iret (pc := 63) rfl (Nat.le_refl _) (Nat.le_refl _) dX12_look_63 ⟨rfl, rfl, rfl, rfl⟩
          · replace hF := am_yes c_6 hF
            refine g_aload_n (pc := 49) dX12_look_49 rfl rfl ?_
            refine g_getI (pc := 50) (k := 55) kf_X12_161.r rfl rfl (hPl.lt (by decide)) dX12_look_50 ?_
            cases hF
            exact g_iret (pc := 53) rfl (Nat.le_refl _) (Nat.le_refl _) dX12_look_53 ⟨rfl, rfl, rfl, rfl⟩
        · replace hF := am_yes c_5 hF
          refine g_aload_n (pc := 39) dX12_look_39 rfl rfl ?_
          refine g_getI (pc := 40) (k := 55) kf_X12_152.r rfl rfl (hPl.lt (by decide)) dX12_look_40 ?_
          cases hF
          exact g_iret (pc := 43) rfl (Nat.le_refl _) (Nat.le_refl _) dX12_look_43 ⟨rfl, rfl, rfl, rfl⟩
      · replace hF := am_yes c_4 hF
        refine g_aload_n (pc := 29) dX12_look_29 rfl rfl ?_
        refine g_getI (pc := 30) (k := 55) kf_X12_145.r rfl rfl (hPl.lt (by decide)) dX12_look_30 ?_
        cases hF
        exact g_iret (pc := 33) rfl (Nat.le_refl _) (Nat.le_refl _) dX12_look_33 ⟨rfl, rfl, rfl, rfl⟩
    · replace hF := am_yes c_3 hF
      refine g_aload_n (pc := 19) dX12_look_19 rfl rfl ?_
      refine g_getI (pc := 20) (k := 55) kf_X12_142.r rfl rfl (hPl.lt (by decide)) dX12_look_20 ?_
      cases hF
      exact g_iret (pc := 23) rfl (Nat.le_refl _) (Nat.le_refl _) dX12_look_23 ⟨rfl, rfl, rfl, rfl⟩
  · replace hF := am_yes c_2 hF
    refine g_aload_n (pc := 9) dX12_look_9 rfl rfl ?_
    refine g_getI (pc := 10) (k := 55) kf_X12_7.r rfl rfl (hPl.lt (by decide)) dX12_look_10 ?_
    cases hF
    exact g_iret (pc := 13) rfl (Nat.le_refl _) (Nat.le_refl _) dX12_look_13 ⟨rfl, rfl, rfl, rfl⟩
def F_X6_copyFrom_104_11 (I : am_IT) : Option (am_IT) := am_let (up2 I 104 0 (I 11 0)) (fun (I_1 : am_IT) => am_let (up2 I_1 104 1 (I_1 11 1)) (fun (I_2 : am_IT) => if am_cpok (0 : Int32) (0 : Int32) (16 : Int32) 16 16 = true then (am_let (cpy2 I_2 12 105 (0 : Int32).toNatClampNeg (0 : Int32).toNatClampNeg (16 : Int32).toNatClampNeg) (fun (I_4 : am_IT) => if am_cpok (0 : Int32) (0 : Int32) (16 : Int32) 16 16 = true then (am_let (cpy2 I_4 13 106 (0 : Int32).toNatClampNeg (0 : Int32).toNatClampNeg (16 : Int32).toNatClampNeg) (fun (I_6 : am_IT) => if am_cpok (0 : Int32) (0 : Int32) (400 : Int32) 400 400 = true then (am_let (cpy2 I_6 14 107 (0 : Int32).toNatClampNeg (0 : Int32).toNatClampNeg (400 : Int32).toNatClampNeg) (fun (I_8 : am_IT) => some I_8)) else none)) else none)) else none))
set_option maxRecDepth 100000 in
set_option maxHeartbeats 4000000 in
theorem s_X6_copyFrom_104_11 {l : Launch} {d N : Nat} {P : am_PT} (hPl : am_Pl 116 N P) (hd : 2 ≤ d) {I : am_IT} {I2 : am_IT} (hF : F_X6_copyFrom_104_11 I = some (I2)) : am_C l d 0 0 mX6_copyFrom [.ref 104, .ref 11] N P I (am_qv N P I2) := by
  refine am_body (sc := am_sc0) (n := 0) (by decide +kernel) (by decide) rfl ?_
  change G am_sc0 l d 0 0 mX6_copyFrom (am_qv N P I2) 0 [.ref 104, .ref 11] [] N P I 0 0
  unfold F_X6_copyFrom_104_11 at hF
  refine g_aload_n (pc := 0) dX6_copyFrom_0 rfl rfl ?_
  refine g_aload_n (pc := 1) dX6_copyFrom_1 rfl rfl ?_
  refine g_getI (pc := 2) (k := 11) kf_X6_9.r rfl rfl (hPl.lt (by decide)) dX6_copyFrom_2 ?_
  obtain ⟨I_1, e_I_1, hF⟩ := am_let_el hF
  refine n_putI (pc := 5) (k := 104) e_I_1 kf_X6_9 rfl rfl (hPl.lt (by decide)) dX6_copyFrom_5 ?_
  refine g_aload_n (pc := 8) dX6_copyFrom_8 rfl rfl ?_
  refine g_aload_n (pc := 9) dX6_copyFrom_9 rfl rfl ?_
  refine g_getI (pc := 10) (k := 11) kf_X6_15.r rfl rfl (hPl.lt (by decide)) dX6_copyFrom_10 ?_
  obtain ⟨I_2, e_I_2, hF⟩ := am_let_el hF
  refine n_putI (pc := 13) (k := 104) e_I_2 kf_X6_15 rfl rfl (hPl.lt (by decide)) dX6_copyFrom_13 ?_
  refine g_aload_n (pc := 16) dX6_copyFrom_16 rfl rfl ?_
  refine g_getR (pc := 17) (k := 11) (r := 12) kf_X6_18.r rfl rfl (hPl.get (by decide) rfl) (hPl.lt (by decide)) dX6_copyFrom_17 ?_
  refine g_iconst (pc := 20) (v := (0 : Int32)) dX6_copyFrom_20 rfl ?_
  refine g_aload_n (pc := 21) dX6_copyFrom_21 rfl rfl ?_
  refine g_getR (pc := 22) (k := 104) (r := 105) kf_X6_18.r rfl rfl (hPl.get (by decide) rfl) (hPl.lt (by decide)) dX6_copyFrom_22 ?_
  refine g_iconst (pc := 25) (v := (0 : Int32)) dX6_copyFrom_25 rfl ?_
  refine g_aload_n (pc := 26) dX6_copyFrom_26 rfl rfl ?_
  refine g_getR (pc := 27) (k := 104) (r := 105) kf_X6_18.r rfl rfl (hPl.get (by decide) rfl) (hPl.lt (by decide)) dX6_copyFrom_27 ?_
  refine g_alen (pc := 30) (k := 105) (v := 16) rfl (hPl.lt (by decide)) rfl dX6_copyFrom_30 ?_
  obtain ⟨c_3, hF⟩ := am_gd hF
  obtain ⟨I_4, e_I_4, hF⟩ := am_let_el hF
  refine n_acopy (pc := 31) (a := 12) (b := 105) e_I_4 c_3 kl_X6_28 rfl rfl (hPl.lt (by decide)) (hPl.lt (by decide)) (Nat.le_trans (by decide) hd) (Nat.le_of_ble_eq_true rfl) dX6_copyFrom_31 ?_
  refine g_aload_n (pc := 34) dX6_copyFrom_34 rfl rfl ?_
  refine g_getR (pc := 35) (k := 11) (r := 13) kf_X6_22.r rfl rfl (hPl.get (by decide) rfl) (hPl.lt (by decide)) dX6_copyFrom_35 ?_
  refine g_iconst (pc := 38) (v := (0 : Int32)) dX6_copyFrom_38 rfl ?_
  refine g_aload_n (pc := 39) dX6_copyFrom_39 rfl rfl ?_
  refine g_getR (pc := 40) (k := 104) (r := 106) kf_X6_22.r rfl rfl (hPl.get (by decide) rfl) (hPl.lt (by decide)) dX6_copyFrom_40 ?_
  refine g_iconst (pc := 43) (v := (0 : Int32)) dX6_copyFrom_43 rfl ?_
  refine g_aload_n (pc := 44) dX6_copyFrom_44 rfl rfl ?_
  refine g_getR (pc := 45) (k := 104) (r := 106) kf_X6_22.r rfl rfl (hPl.get (by decide) rfl) (hPl.lt (by decide)) dX6_copyFrom_45 ?_
  refine g_alen (pc := 48) (k := 106) (v := 16) rfl (hPl.lt (by decide)) rfl dX6_copyFrom_48 ?_
  obtain ⟨c_5, hF⟩ := am_gd hF
  obtain ⟨I_6, e_I_6, hF⟩ := am_let_el hF
  refine n_acopy (pc := 49) (a := 13) (b := 106) e_I_6 c_5 kl_X6_28 rfl rfl (hPl.lt (by decide)) (hPl.lt (by decide)) (Nat.le_trans (by decide) hd) (Nat.le_of_ble_eq_true rfl) dX6_copyFrom_49 ?_
  refine g_aload_n (pc := 52) dX6_copyFrom_52 rfl rfl ?_
  refine g_getR (pc := 53) (k := 11) (r := 14) kf_X6_25.r rfl rfl (hPl.get (by decide) rfl) (hPl.lt (by decide)) dX6_copyFrom_53 ?_
  refine g_iconst (pc := 56) (v := (0 : Int32)) dX6_copyFrom_56 rfl ?_
  refine g_aload_n (pc := 57) dX6_copyFrom_57 rfl rfl ?_
  refine g_getR (pc := 58) (k := 104) (r := 107) kf_X6_25.r rfl rfl (hPl.get (by decide) rfl) (hPl.lt (by decide)) dX6_copyFrom_58 ?_
  refine g_iconst (pc := 61) (v := (0 : Int32)) dX6_copyFrom_61 rfl ?_
  refine g_aload_n (pc := 62) dX6_copyFrom_62 rfl rfl ?_
  refine g_getR (pc := 63) (k := 104) (r := 107) kf_X6_25.r rfl rfl (hPl.get (by decide) rfl) (hPl.lt (by decide)) dX6_copyFrom_63 ?_
  refine g_alen (pc := 66) (k := 107) (v := 400) rfl (hPl.lt (by decide)) rfl dX6_copyFrom_66 ?_
  obtain ⟨c_7, hF⟩ := am_gd hF
  obtain ⟨I_8, e_I_8, hF⟩ := am_let_el hF
  refine n_acopy (pc := 67) (a := 14) (b := 107) e_I_8 c_7 kl_X6_28 rfl rfl (hPl.lt (by decide)) (hPl.lt (by decide)) (Nat.le_trans (by decide) hd) (Nat.le_of_ble_eq_true rfl) dX6_copyFrom_67 ?_
  cases hF
  exact g_vret (pc := 70) rfl (Nat.le_refl _) (Nat.le_refl _) dX6_copyFrom_70 ⟨rfl, rfl, rfl, rfl⟩
def F_X1_copyFrom_108_15 (I : am_IT) : Option (am_IT) := am_let (up2 I 108 0 (I 15 0)) (fun (I_1 : am_IT) => if am_cpok (0 : Int32) (0 : Int32) (112 : Int32) 112 112 = true then (am_let (cpy2 I_1 16 109 (0 : Int32).toNatClampNeg (0 : Int32).toNatClampNeg (112 : Int32).toNatClampNeg) (fun (I_3 : am_IT) => some I_3)) else none)
set_option maxRecDepth 100000 in
set_option maxHeartbeats 4000000 in
theorem s_X1_copyFrom_108_15 {l : Launch} {d N : Nat} {P : am_PT} (hPl : am_Pl 116 N P) (hd : 2 ≤ d) {I : am_IT} {I2 : am_IT} (hF : F_X1_copyFrom_108_15 I = some (I2)) : am_C l d 0 0 mX1_copyFrom [.ref 108, .ref 15] N P I (am_qv N P I2) := by
  refine am_body (sc := am_sc0) (n := 0) (by decide +kernel) (by decide) rfl ?_
  change G am_sc0 l d 0 0 mX1_copyFrom (am_qv N P I2) 0 [.ref 108, .ref 15] [] N P I 0 0
  unfold F_X1_copyFrom_108_15 at hF
  refine g_aload_n (pc := 0) dX1_copyFrom_0 rfl rfl ?_
  refine g_aload_n (pc := 1) dX1_copyFrom_1 rfl rfl ?_
  refine g_getI (pc := 2) (k := 15) kf_X1_9.r rfl rfl (hPl.lt (by decide)) dX1_copyFrom_2 ?_
  obtain ⟨I_1, e_I_1, hF⟩ := am_let_el hF
  refine n_putI (pc := 5) (k := 108) e_I_1 kf_X1_9 rfl rfl (hPl.lt (by decide)) dX1_copyFrom_5 ?_
  refine g_aload_n (pc := 8) dX1_copyFrom_8 rfl rfl ?_
  refine g_getR (pc := 9) (k := 15) (r := 16) kf_X1_15.r rfl rfl (hPl.get (by decide) rfl) (hPl.lt (by decide)) dX1_copyFrom_9 ?_
  refine g_iconst (pc := 12) (v := (0 : Int32)) dX1_copyFrom_12 rfl ?_
  refine g_aload_n (pc := 13) dX1_copyFrom_13 rfl rfl ?_
  refine g_getR (pc := 14) (k := 108) (r := 109) kf_X1_15.r rfl rfl (hPl.get (by decide) rfl) (hPl.lt (by decide)) dX1_copyFrom_14 ?_
  refine g_iconst (pc := 17) (v := (0 : Int32)) dX1_copyFrom_17 rfl ?_
  refine g_aload_n (pc := 18) dX1_copyFrom_18 rfl rfl ?_
  refine g_getR (pc := 19) (k := 108) (r := 109) kf_X1_15.r rfl rfl (hPl.get (by decide) rfl) (hPl.lt (by decide)) dX1_copyFrom_19 ?_
  refine g_alen (pc := 22) (k := 109) (v := 112) rfl (hPl.lt (by decide)) rfl dX1_copyFrom_22 ?_
  obtain ⟨c_2, hF⟩ := am_gd hF
  obtain ⟨I_3, e_I_3, hF⟩ := am_let_el hF
  refine n_acopy (pc := 23) (a := 16) (b := 109) e_I_3 c_2 kl_X1_28 rfl rfl (hPl.lt (by decide)) (hPl.lt (by decide)) (Nat.le_trans (by decide) hd) (Nat.le_of_ble_eq_true rfl) dX1_copyFrom_23 ?_
  cases hF
  exact g_vret (pc := 26) rfl (Nat.le_refl _) (Nat.le_refl _) dX1_copyFrom_26 ⟨rfl, rfl, rfl, rfl⟩
def F_X5_copyFrom_111_18 (I : am_IT) : Option (am_IT) := if am_cpok (0 : Int32) (0 : Int32) (9 : Int32) 9 9 = true then (am_let (cpy2 I 19 112 (0 : Int32).toNatClampNeg (0 : Int32).toNatClampNeg (9 : Int32).toNatClampNeg) (fun (I_2 : am_IT) => if am_cpok (0 : Int32) (0 : Int32) (81 : Int32) 81 81 = true then (am_let (cpy2 I_2 20 113 (0 : Int32).toNatClampNeg (0 : Int32).toNatClampNeg (81 : Int32).toNatClampNeg) (fun (I_4 : am_IT) => some I_4)) else none)) else none
set_option maxRecDepth 100000 in
set_option maxHeartbeats 4000000 in
theorem s_X5_copyFrom_111_18 {l : Launch} {d N : Nat} {P : am_PT} (hPl : am_Pl 116 N P) (hd : 2 ≤ d) {I : am_IT} {I2 : am_IT} (hF : F_X5_copyFrom_111_18 I = some (I2)) : am_C l d 0 0 mX5_copyFrom [.ref 111, .ref 18] N P I (am_qv N P I2) := by
  refine am_body (sc := am_sc0) (n := 0) (by decide +kernel) (by decide) rfl ?_
  change G am_sc0 l d 0 0 mX5_copyFrom (am_qv N P I2) 0 [.ref 111, .ref 18] [] N P I 0 0
  unfold F_X5_copyFrom_111_18 at hF
  refine g_aload_n (pc := 0) dX5_copyFrom_0 rfl rfl ?_
  refine g_getR (pc := 1) (k := 18) (r := 19) kf_X5_9.r rfl rfl (hPl.get (by decide) rfl) (hPl.lt (by decide)) dX5_copyFrom_1 ?_
  refine g_iconst (pc := 4) (v := (0 : Int32)) dX5_copyFrom_4 rfl ?_
  refine g_aload_n (pc := 5) dX5_copyFrom_5 rfl rfl ?_
  refine g_getR (pc := 6) (k := 111) (r := 112) kf_X5_9.r rfl rfl (hPl.get (by decide) rfl) (hPl.lt (by decide)) dX5_copyFrom_6 ?_
  refine g_iconst (pc := 9) (v := (0 : Int32)) dX5_copyFrom_9 rfl ?_
  refine g_aload_n (pc := 10) dX5_copyFrom_10 rfl rfl ?_
  refine g_getR (pc := 11) (k := 111) (r := 112) kf_X5_9.r rfl rfl (hPl.get (by decide) rfl) (hPl.lt (by decide)) dX5_copyFrom_11 ?_
  refine g_alen (pc := 14) (k := 112) (v := 9) rfl (hPl.lt (by decide)) rfl dX5_copyFrom_14 ?_
  obtain ⟨c_1, hF⟩ := am_gd hF
  obtain ⟨I_2, e_I_2, hF⟩ := am_let_el hF
  refine n_acopy (pc := 15) (a := 19) (b := 112) e_I_2 c_1 kl_X5_43 rfl rfl (hPl.lt (by decide)) (hPl.lt (by decide)) (Nat.le_trans (by decide) hd) (Nat.le_of_ble_eq_true rfl) dX5_copyFrom_15 ?_
  refine g_aload_n (pc := 18) dX5_copyFrom_18 rfl rfl ?_
  refine g_getR (pc := 19) (k := 18) (r := 20) kf_X5_15.r rfl rfl (hPl.get (by decide) rfl) (hPl.lt (by decide)) dX5_copyFrom_19 ?_
  refine g_iconst (pc := 22) (v := (0 : Int32)) dX5_copyFrom_22 rfl ?_
  refine g_aload_n (pc := 23) dX5_copyFrom_23 rfl rfl ?_
  refine g_getR (pc := 24) (k := 111) (r := 113) kf_X5_15.r rfl rfl (hPl.get (by decide) rfl) (hPl.lt (by decide)) dX5_copyFrom_24 ?_
  refine g_iconst (pc := 27) (v := (0 : Int32)) dX5_copyFrom_27 rfl ?_
  refine g_aload_n (pc := 28) dX5_copyFrom_28 rfl rfl ?_
  refine g_getR (pc := 29) (k := 111) (r := 113) kf_X5_15.r rfl rfl (hPl.get (by decide) rfl) (hPl.lt (by decide)) dX5_copyFrom_29 ?_
  refine g_alen (pc := 32) (k := 113) (v := 81) rfl (hPl.lt (by decide)) rfl dX5_copyFrom_32 ?_
  obtain ⟨c_3, hF⟩ := am_gd hF
  obtain ⟨I_4, e_I_4, hF⟩ := am_let_el hF
  refine n_acopy (pc := 33) (a := 20) (b := 113) e_I_4 c_3 kl_X5_43 rfl rfl (hPl.lt (by decide)) (hPl.lt (by decide)) (Nat.le_trans (by decide) hd) (Nat.le_of_ble_eq_true rfl) dX5_copyFrom_33 ?_
  cases hF
  exact g_vret (pc := 36) rfl (Nat.le_refl _) (Nat.le_refl _) dX5_copyFrom_36 ⟨rfl, rfl, rfl, rfl⟩
def F_X9_copyFrom_94_1 (I : am_IT) : Option (am_IT) := am_let (up2 I 94 0 (I 1 0)) (fun (I_1 : am_IT) => am_let (up2 I_1 94 1 (I_1 1 1)) (fun (I_2 : am_IT) => am_let (up2 I_2 94 2 (I_2 1 2)) (fun (I_3 : am_IT) => am_let (up2 I_3 94 3 (I_3 1 3)) (fun (I_4 : am_IT) => am_let (up2 I_4 94 4 (I_4 1 4)) (fun (I_5 : am_IT) => am_let (up2 I_5 94 5 (I_5 1 5)) (fun (I_6 : am_IT) => if am_cpok (0 : Int32) (0 : Int32) (4 : Int32) 4 4 = true then (am_let (cpy2 I_6 2 95 (0 : Int32).toNatClampNeg (0 : Int32).toNatClampNeg (4 : Int32).toNatClampNeg) (fun (I_8 : am_IT) => if am_cpok (0 : Int32) (0 : Int32) (7 : Int32) 7 7 = true then (am_let (cpy2 I_8 3 96 (0 : Int32).toNatClampNeg (0 : Int32).toNatClampNeg (7 : Int32).toNatClampNeg) (fun (I_10 : am_IT) => if am_cpok (0 : Int32) (0 : Int32) (7 : Int32) 7 7 = true then (am_let (cpy2 I_10 4 97 (0 : Int32).toNatClampNeg (0 : Int32).toNatClampNeg (7 : Int32).toNatClampNeg) (fun (I_12 : am_IT) => if am_cpok (0 : Int32) (0 : Int32) (56 : Int32) 56 56 = true then (am_let (cpy2 I_12 5 98 (0 : Int32).toNatClampNeg (0 : Int32).toNatClampNeg (56 : Int32).toNatClampNeg) (fun (I_14 : am_IT) => if am_cpok (0 : Int32) (0 : Int32) (60 : Int32) 60 60 = true then (am_let (cpy2 I_14 6 99 (0 : Int32).toNatClampNeg (0 : Int32).toNatClampNeg (60 : Int32).toNatClampNeg) (fun (I_16 : am_IT) => if am_cpok (0 : Int32) (0 : Int32) (28 : Int32) 28 28 = true then (am_let (cpy2 I_16 7 100 (0 : Int32).toNatClampNeg (0 : Int32).toNatClampNeg (28 : Int32).toNatClampNeg) (fun (I_18 : am_IT) => if am_cpok (0 : Int32) (0 : Int32) (28 : Int32) 28 28 = true then (am_let (cpy2 I_18 8 101 (0 : Int32).toNatClampNeg (0 : Int32).toNatClampNeg (28 : Int32).toNatClampNeg) (fun (I_20 : am_IT) => if am_cpok (0 : Int32) (0 : Int32) (7 : Int32) 7 7 = true then (am_let (cpy2 I_20 9 102 (0 : Int32).toNatClampNeg (0 : Int32).toNatClampNeg (7 : Int32).toNatClampNeg) (fun (I_22 : am_IT) => if am_cpok (0 : Int32) (0 : Int32) (49 : Int32) 49 49 = true then (am_let (cpy2 I_22 10 103 (0 : Int32).toNatClampNeg (0 : Int32).toNatClampNeg (49 : Int32).toNatClampNeg) (fun (I_24 : am_IT) => am_b1 (F_X6_copyFrom_104_11 I_24) (fun (I_26 : am_IT) => am_b1 (F_X1_copyFrom_108_15 I_26) (fun (I_28 : am_IT) => am_b1 (F_X5_copyFrom_111_18 I_28) (fun (I_30 : am_IT) => some I_30))))) else none)) else none)) else none)) else none)) else none)) else none)) else none)) else none)) else none))))))
set_option maxRecDepth 100000 in
set_option maxHeartbeats 4000000 in
theorem s_X9_copyFrom_94_1 {l : Launch} {d N : Nat} {P : am_PT} (hPl : am_Pl 116 N P) (hd : 3 ≤ d) {I : am_IT} {I2 : am_IT} (hF : F_X9_copyFrom_94_1 I = some (I2)) : am_C l d 0 0 mX9_copyFrom [.ref 94, .ref 1] N P I (am_qv N P I2) := by
  refine am_body (sc := am_sc0) (n := 0) (by decide +kernel) (by decide) rfl ?_
  change G am_sc0 l d 0 0 mX9_copyFrom (am_qv N P I2) 0 [.ref 94, .ref 1] [] N P I 0 0
  unfold F_X9_copyFrom_94_1 at hF
  refine g_aload_n (pc := 0) dX9_copyFrom_0 rfl rfl ?_
  refine g_aload_n (pc := 1) dX9_copyFrom_1 rfl rfl ?_
  refine g_getI (pc := 2) (k := 1) kf_X9_9.r rfl rfl (hPl.lt (by decide)) dX9_copyFrom_2 ?_
  obtain ⟨I_1, e_I_1, hF⟩ := am_let_el hF
  refine n_putI (pc := 5) (k := 94) e_I_1 kf_X9_9 rfl rfl (hPl.lt (by decide)) dX9_copyFrom_5 ?_
  refine g_aload_n (pc := 8) dX9_copyFrom_8 rfl rfl ?_
  refine g_aload_n (pc := 9) dX9_copyFrom_9 rfl rfl ?_
  refine g_getI (pc := 10) (k := 1) kf_X9_15.r rfl rfl (hPl.lt (by decide)) dX9_copyFrom_10 ?_
  obtain ⟨I_2, e_I_2, hF⟩ := am_let_el hF
  refine n_putI (pc := 13) (k := 94) e_I_2 kf_X9_15 rfl rfl (hPl.lt (by decide)) dX9_copyFrom_13 ?_
  refine g_aload_n (pc := 16) dX9_copyFrom_16 rfl rfl ?_
  refine g_aload_n (pc := 17) dX9_copyFrom_17 rfl rfl ?_
  refine g_getI (pc := 18) (k := 1) kf_X9_18.r rfl rfl (hPl.lt (by decide)) dX9_copyFrom_18 ?_
  obtain ⟨I_3, e_I_3, hF⟩ := am_let_el hF
  refine n_putI (pc := 21) (k := 94) e_I_3 kf_X9_18 rfl rfl (hPl.lt (by decide)) dX9_copyFrom_21 ?_
  refine g_aload_n (pc := 24) dX9_copyFrom_24 rfl rfl ?_
  refine g_aload_n (pc := 25) dX9_copyFrom_25 rfl rfl ?_
  refine g_getI (pc := 26) (k := 1) kf_X9_21.r rfl rfl (hPl.lt (by decide)) dX9_copyFrom_26 ?_
  obtain ⟨I_4, e_I_4, hF⟩ := am_let_el hF
  refine n_putI (pc := 29) (k := 94) e_I_4 kf_X9_21 rfl rfl (hPl.lt (by decide)) dX9_copyFrom_29 ?_
  refine g_aload_n (pc := 32) dX9_copyFrom_32 rfl rfl ?_
  refine g_aload_n (pc := 33) dX9_copyFrom_33 rfl rfl ?_
  refine g_getI (pc := 34) (k := 1) kf_X9_24.r rfl rfl (hPl.lt (by decide)) dX9_copyFrom_34 ?_
  obtain ⟨I_5, e_I_5, hF⟩ := am_let_el hF
  refine n_putI (pc := 37) (k := 94) e_I_5 kf_X9_24 rfl rfl (hPl.lt (by decide)) dX9_copyFrom_37 ?_
  refine g_aload_n (pc := 40) dX9_copyFrom_40 rfl rfl ?_
  refine g_aload_n (pc := 41) dX9_copyFrom_41 rfl rfl ?_
  refine g_getI (pc := 42) (k := 1) kf_X9_27.r rfl rfl (hPl.lt (by decide)) dX9_copyFrom_42 ?_
  obtain ⟨I_6, e_I_6, hF⟩ := am_let_el hF
  refine n_putI (pc := 45) (k := 94) e_I_6 kf_X9_27 rfl rfl (hPl.lt (by decide)) dX9_copyFrom_45 ?_
  refine g_aload_n (pc := 48) dX9_copyFrom_48 rfl rfl ?_
  refine g_getR (pc := 49) (k := 1) (r := 2) kf_X9_30.r rfl rfl (hPl.get (by decide) rfl) (hPl.lt (by decide)) dX9_copyFrom_49 ?_
  refine g_iconst (pc := 52) (v := (0 : Int32)) dX9_copyFrom_52 rfl ?_
  refine g_aload_n (pc := 53) dX9_copyFrom_53 rfl rfl ?_
  refine g_getR (pc := 54) (k := 94) (r := 95) kf_X9_30.r rfl rfl (hPl.get (by decide) rfl) (hPl.lt (by decide)) dX9_copyFrom_54 ?_
  refine g_iconst (pc := 57) (v := (0 : Int32)) dX9_copyFrom_57 rfl ?_
  refine g_aload_n (pc := 58) dX9_copyFrom_58 rfl rfl ?_
  refine g_getR (pc := 59) (k := 94) (r := 95) kf_X9_30.r rfl rfl (hPl.get (by decide) rfl) (hPl.lt (by decide)) dX9_copyFrom_59 ?_
  refine g_alen (pc := 62) (k := 95) (v := 4) rfl (hPl.lt (by decide)) rfl dX9_copyFrom_62 ?_
  obtain ⟨c_7, hF⟩ := am_gd hF
  obtain ⟨I_8, e_I_8, hF⟩ := am_let_el hF
  refine n_acopy (pc := 63) (a := 2) (b := 95) e_I_8 c_7 kl_X9_90 rfl rfl (hPl.lt (by decide)) (hPl.lt (by decide)) (Nat.le_trans (by decide) hd) (Nat.le_of_ble_eq_true rfl) dX9_copyFrom_63 ?_
  refine g_aload_n (pc := 66) dX9_copyFrom_66 rfl rfl ?_
  refine g_getR (pc := 67) (k := 1) (r := 3) kf_X9_34.r rfl rfl (hPl.get (by decide) rfl) (hPl.lt (by decide)) dX9_copyFrom_67 ?_
  refine g_iconst (pc := 70) (v := (0 : Int32)) dX9_copyFrom_70 rfl ?_
  refine g_aload_n (pc := 71) dX9_copyFrom_71 rfl rfl ?_
  refine g_getR (pc := 72) (k := 94) (r := 96) kf_X9_34.r rfl rfl (hPl.get (by decide) rfl) (hPl.lt (by decide)) dX9_copyFrom_72 ?_
  refine g_iconst (pc := 75) (v := (0 : Int32)) dX9_copyFrom_75 rfl ?_
  refine g_aload_n (pc := 76) dX9_copyFrom_76 rfl rfl ?_
  refine g_getR (pc := 77) (k := 94) (r := 96) kf_X9_34.r rfl rfl (hPl.get (by decide) rfl) (hPl.lt (by decide)) dX9_copyFrom_77 ?_
  refine g_alen (pc := 80) (k := 96) (v := 7) rfl (hPl.lt (by decide)) rfl dX9_copyFrom_80 ?_
  obtain ⟨c_9, hF⟩ := am_gd hF
  obtain ⟨I_10, e_I_10, hF⟩ := am_let_el hF
  refine n_acopy (pc := 81) (a := 3) (b := 96) e_I_10 c_9 kl_X9_90 rfl rfl (hPl.lt (by decide)) (hPl.lt (by decide)) (Nat.le_trans (by decide) hd) (Nat.le_of_ble_eq_true rfl) dX9_copyFrom_81 ?_
  refine g_aload_n (pc := 84) dX9_copyFrom_84 rfl rfl ?_
  refine g_getR (pc := 85) (k := 1) (r := 4) kf_X9_37.r rfl rfl (hPl.get (by decide) rfl) (hPl.lt (by decide)) dX9_copyFrom_85 ?_
  refine g_iconst (pc := 88) (v := (0 : Int32)) dX9_copyFrom_88 rfl ?_
  refine g_aload_n (pc := 89) dX9_copyFrom_89 rfl rfl ?_
  refine g_getR (pc := 90) (k := 94) (r := 97) kf_X9_37.r rfl rfl (hPl.get (by decide) rfl) (hPl.lt (by decide)) dX9_copyFrom_90 ?_
  refine g_iconst (pc := 93) (v := (0 : Int32)) dX9_copyFrom_93 rfl ?_
  refine g_aload_n (pc := 94) dX9_copyFrom_94 rfl rfl ?_
  refine g_getR (pc := 95) (k := 94) (r := 97) kf_X9_37.r rfl rfl (hPl.get (by decide) rfl) (hPl.lt (by decide)) dX9_copyFrom_95 ?_
  refine g_alen (pc := 98) (k := 97) (v := 7) rfl (hPl.lt (by decide)) rfl dX9_copyFrom_98 ?_
  obtain ⟨c_11, hF⟩ := am_gd hF
  obtain ⟨I_12, e_I_12, hF⟩ := am_let_el hF
  refine n_acopy (pc := 99) (a := 4) (b := 97) e_I_12 c_11 kl_X9_90 rfl rfl (hPl.lt (by decide)) (hPl.lt (by decide)) (Nat.le_trans (by decide) hd) (Nat.le_of_ble_eq_true rfl) dX9_copyFrom_99 ?_
  refine g_aload_n (pc := 102) dX9_copyFrom_102 rfl rfl ?_
  refine g_getR (pc := 103) (k := 1) (r := 5) kf_X9_40.r rfl rfl (hPl.get (by decide) rfl) (hPl.lt (by decide)) dX9_copyFrom_103 ?_
  refine g_iconst (pc := 106) (v := (0 : Int32)) dX9_copyFrom_106 rfl ?_
  refine g_aload_n (pc := 107) dX9_copyFrom_107 rfl rfl ?_
  refine g_getR (pc := 108) (k := 94) (r := 98) kf_X9_40.r rfl rfl (hPl.get (by decide) rfl) (hPl.lt (by decide)) dX9_copyFrom_108 ?_
  refine g_iconst (pc := 111) (v := (0 : Int32)) dX9_copyFrom_111 rfl ?_
  refine g_aload_n (pc := 112) dX9_copyFrom_112 rfl rfl ?_
  refine g_getR (pc := 113) (k := 94) (r := 98) kf_X9_40.r rfl rfl (hPl.get (by decide) rfl) (hPl.lt (by decide)) dX9_copyFrom_113 ?_
  refine g_alen (pc := 116) (k := 98) (v := 56) rfl (hPl.lt (by decide)) rfl dX9_copyFrom_116 ?_
  obtain ⟨c_13, hF⟩ := am_gd hF
  obtain ⟨I_14, e_I_14, hF⟩ := am_let_el hF
  refine n_acopy (pc := 117) (a := 5) (b := 98) e_I_14 c_13 kl_X9_90 rfl rfl (hPl.lt (by decide)) (hPl.lt (by decide)) (Nat.le_trans (by decide) hd) (Nat.le_of_ble_eq_true rfl) dX9_copyFrom_117 ?_
  refine g_aload_n (pc := 120) dX9_copyFrom_120 rfl rfl ?_
  refine g_getR (pc := 121) (k := 1) (r := 6) kf_X9_43.r rfl rfl (hPl.get (by decide) rfl) (hPl.lt (by decide)) dX9_copyFrom_121 ?_
  refine g_iconst (pc := 124) (v := (0 : Int32)) dX9_copyFrom_124 rfl ?_
  refine g_aload_n (pc := 125) dX9_copyFrom_125 rfl rfl ?_
  refine g_getR (pc := 126) (k := 94) (r := 99) kf_X9_43.r rfl rfl (hPl.get (by decide) rfl) (hPl.lt (by decide)) dX9_copyFrom_126 ?_
  refine g_iconst (pc := 129) (v := (0 : Int32)) dX9_copyFrom_129 rfl ?_
  refine g_aload_n (pc := 130) dX9_copyFrom_130 rfl rfl ?_
  refine g_getR (pc := 131) (k := 94) (r := 99) kf_X9_43.r rfl rfl (hPl.get (by decide) rfl) (hPl.lt (by decide)) dX9_copyFrom_131 ?_
  refine g_alen (pc := 134) (k := 99) (v := 60) rfl (hPl.lt (by decide)) rfl dX9_copyFrom_134 ?_
  obtain ⟨c_15, hF⟩ := am_gd hF
  obtain ⟨I_16, e_I_16, hF⟩ := am_let_el hF
  refine n_acopy (pc := 135) (a := 6) (b := 99) e_I_16 c_15 kl_X9_90 rfl rfl (hPl.lt (by decide)) (hPl.lt (by decide)) (Nat.le_trans (by decide) hd) (Nat.le_of_ble_eq_true rfl) dX9_copyFrom_135 ?_
  refine g_aload_n (pc := 138) dX9_copyFrom_138 rfl rfl ?_
  refine g_getR (pc := 139) (k := 1) (r := 7) kf_X9_46.r rfl rfl (hPl.get (by decide) rfl) (hPl.lt (by decide)) dX9_copyFrom_139 ?_
  refine g_iconst (pc := 142) (v := (0 : Int32)) dX9_copyFrom_142 rfl ?_
  refine g_aload_n (pc := 143) dX9_copyFrom_143 rfl rfl ?_
  refine g_getR (pc := 144) (k := 94) (r := 100) kf_X9_46.r rfl rfl (hPl.get (by decide) rfl) (hPl.lt (by decide)) dX9_copyFrom_144 ?_
  refine g_iconst (pc := 147) (v := (0 : Int32)) dX9_copyFrom_147 rfl ?_
  refine g_aload_n (pc := 148) dX9_copyFrom_148 rfl rfl ?_
  refine g_getR (pc := 149) (k := 94) (r := 100) kf_X9_46.r rfl rfl (hPl.get (by decide) rfl) (hPl.lt (by decide)) dX9_copyFrom_149 ?_
  refine g_alen (pc := 152) (k := 100) (v := 28) rfl (hPl.lt (by decide)) rfl dX9_copyFrom_152 ?_
  obtain ⟨c_17, hF⟩ := am_gd hF
  obtain ⟨I_18, e_I_18, hF⟩ := am_let_el hF
  refine n_acopy (pc := 153) (a := 7) (b := 100) e_I_18 c_17 kl_X9_90 rfl rfl (hPl.lt (by decide)) (hPl.lt (by decide)) (Nat.le_trans (by decide) hd) (Nat.le_of_ble_eq_true rfl) dX9_copyFrom_153 ?_
  refine g_aload_n (pc := 156) dX9_copyFrom_156 rfl rfl ?_
  refine g_getR (pc := 157) (k := 1) (r := 8) kf_X9_49.r rfl rfl (hPl.get (by decide) rfl) (hPl.lt (by decide)) dX9_copyFrom_157 ?_
  refine g_iconst (pc := 160) (v := (0 : Int32)) dX9_copyFrom_160 rfl ?_
  refine g_aload_n (pc := 161) dX9_copyFrom_161 rfl rfl ?_
  refine g_getR (pc := 162) (k := 94) (r := 101) kf_X9_49.r rfl rfl (hPl.get (by decide) rfl) (hPl.lt (by decide)) dX9_copyFrom_162 ?_
  refine g_iconst (pc := 165) (v := (0 : Int32)) dX9_copyFrom_165 rfl ?_
  refine g_aload_n (pc := 166) dX9_copyFrom_166 rfl rfl ?_
  refine g_getR (pc := 167) (k := 94) (r := 101) kf_X9_49.r rfl rfl (hPl.get (by decide) rfl) (hPl.lt (by decide)) dX9_copyFrom_167 ?_
  refine g_alen (pc := 170) (k := 101) (v := 28) rfl (hPl.lt (by decide)) rfl dX9_copyFrom_170 ?_
  obtain ⟨c_19, hF⟩ := am_gd hF
  obtain ⟨I_20, e_I_20, hF⟩ := am_let_el hF
  refine n_acopy (pc := 171) (a := 8) (b := 101) e_I_20 c_19 kl_X9_90 rfl rfl (hPl.lt (by decide)) (hPl.lt (by decide)) (Nat.le_trans (by decide) hd) (Nat.le_of_ble_eq_true rfl) dX9_copyFrom_171 ?_
  refine g_aload_n (pc := 174) dX9_copyFrom_174 rfl rfl ?_
  refine g_getR (pc := 175) (k := 1) (r := 9) kf_X9_52.r rfl rfl (hPl.get (by decide) rfl) (hPl.lt (by decide)) dX9_copyFrom_175 ?_
  refine g_iconst (pc := 178) (v := (0 : Int32)) dX9_copyFrom_178 rfl ?_
  refine g_aload_n (pc := 179) dX9_copyFrom_179 rfl rfl ?_
  refine g_getR (pc := 180) (k := 94) (r := 102) kf_X9_52.r rfl rfl (hPl.get (by decide) rfl) (hPl.lt (by decide)) dX9_copyFrom_180 ?_
  refine g_iconst (pc := 183) (v := (0 : Int32)) dX9_copyFrom_183 rfl ?_
  refine g_aload_n (pc := 184) dX9_copyFrom_184 rfl rfl ?_
  refine g_getR (pc := 185) (k := 94) (r := 102) kf_X9_52.r rfl rfl (hPl.get (by decide) rfl) (hPl.lt (by decide)) dX9_copyFrom_185 ?_
  refine g_alen (pc := 188) (k := 102) (v := 7) rfl (hPl.lt (by decide)) rfl dX9_copyFrom_188 ?_
  obtain ⟨c_21, hF⟩ := am_gd hF
  obtain ⟨I_22, e_I_22, hF⟩ := am_let_el hF
  refine n_acopy (pc := 189) (a := 9) (b := 102) e_I_22 c_21 kl_X9_90 rfl rfl (hPl.lt (by decide)) (hPl.lt (by decide)) (Nat.le_trans (by decide) hd) (Nat.le_of_ble_eq_true rfl) dX9_copyFrom_189 ?_
  refine g_aload_n (pc := 192) dX9_copyFrom_192 rfl rfl ?_
  refine g_getR (pc := 193) (k := 1) (r := 10) kf_X9_55.r rfl rfl (hPl.get (by decide) rfl) (hPl.lt (by decide)) dX9_copyFrom_193 ?_
  refine g_iconst (pc := 196) (v := (0 : Int32)) dX9_copyFrom_196 rfl ?_
  refine g_aload_n (pc := 197) dX9_copyFrom_197 rfl rfl ?_
  refine g_getR (pc := 198) (k := 94) (r := 103) kf_X9_55.r rfl rfl (hPl.get (by decide) rfl) (hPl.lt (by decide)) dX9_copyFrom_198 ?_
  refine g_iconst (pc := 201) (v := (0 : Int32)) dX9_copyFrom_201 rfl ?_
  refine g_aload_n (pc := 202) dX9_copyFrom_202 rfl rfl ?_
  refine g_getR (pc := 203) (k := 94) (r := 103) kf_X9_55.r rfl rfl (hPl.get (by decide) rfl) (hPl.lt (by decide)) dX9_copyFrom_203 ?_
  refine g_alen (pc := 206) (k := 103) (v := 49) rfl (hPl.lt (by decide)) rfl dX9_copyFrom_206 ?_
  obtain ⟨c_23, hF⟩ := am_gd hF
  obtain ⟨I_24, e_I_24, hF⟩ := am_let_el hF
  refine n_acopy (pc := 207) (a := 10) (b := 103) e_I_24 c_23 kl_X9_90 rfl rfl (hPl.lt (by decide)) (hPl.lt (by decide)) (Nat.le_trans (by decide) hd) (Nat.le_of_ble_eq_true rfl) dX9_copyFrom_207 ?_
  refine g_aload_n (pc := 210) dX9_copyFrom_210 rfl rfl ?_
  refine g_getR (pc := 211) (k := 94) (r := 104) kf_X9_61.r rfl rfl (hPl.get (by decide) rfl) (hPl.lt (by decide)) dX9_copyFrom_211 ?_
  refine g_aload_n (pc := 214) dX9_copyFrom_214 rfl rfl ?_
  refine g_getR (pc := 215) (k := 1) (r := 11) kf_X9_61.r rfl rfl (hPl.get (by decide) rfl) (hPl.lt (by decide)) dX9_copyFrom_215 ?_
  obtain ⟨I_26, h_25, hF⟩ := am_b1_el hF
  refine g_cVv (pc := 218) (k := 104) (As := [.ref 11]) (st := []) ky_X6_copyFrom kl_X9_96 (s_X6_copyFrom_104_11 (d := 2) (hPl) (Nat.le_refl _) h_25) rfl rfl rfl (hPl.lt (by decide)) (Nat.le_trans (by decide) hd) (Nat.le_of_ble_eq_true rfl) (Nat.le_refl _) (Nat.le_refl _) dX9_copyFrom_218 ?_
  refine g_aload_n (pc := 221) dX9_copyFrom_221 rfl rfl ?_
  refine g_getR (pc := 222) (k := 94) (r := 108) kf_X9_68.r rfl rfl (hPl.get (by decide) rfl) (hPl.lt (by decide)) dX9_copyFrom_222 ?_
  refine g_aload_n (pc := 225) dX9_copyFrom_225 rfl rfl ?_
  refine g_getR (pc := 226) (k := 1) (r := 15) kf_X9_68.r rfl rfl (hPl.get (by decide) rfl) (hPl.lt (by decide)) dX9_copyFrom_226 ?_
  obtain ⟨I_28, h_27, hF⟩ := am_b1_el hF
  refine g_cVv (pc := 229) (k := 108) (As := [.ref 15]) (st := []) ky_X1_copyFrom kl_X9_100 (s_X1_copyFrom_108_15 (d := 2) (hPl) (Nat.le_refl _) h_27) rfl rfl rfl (hPl.lt (by decide)) (Nat.le_trans (by decide) hd) (Nat.le_of_ble_eq_true rfl) (Nat.le_refl _) (Nat.le_refl _) dX9_copyFrom_229 ?_
  refine g_aload_n (pc := 232) dX9_copyFrom_232 rfl rfl ?_
  refine g_getR (pc := 233) (k := 94) (r := 111) kf_X9_75.r rfl rfl (hPl.get (by decide) rfl) (hPl.lt (by decide)) dX9_copyFrom_233 ?_
  refine g_aload_n (pc := 236) dX9_copyFrom_236 rfl rfl ?_
  refine g_getR (pc := 237) (k := 1) (r := 18) kf_X9_75.r rfl rfl (hPl.get (by decide) rfl) (hPl.lt (by decide)) dX9_copyFrom_237 ?_
  obtain ⟨I_30, h_29, hF⟩ := am_b1_el hF
  refine g_cVv (pc := 240) (k := 111) (As := [.ref 18]) (st := []) ky_X5_copyFrom kl_X9_103 (s_X5_copyFrom_111_18 (d := 2) (hPl) (Nat.le_refl _) h_29) rfl rfl rfl (hPl.lt (by decide)) (Nat.le_trans (by decide) hd) (Nat.le_of_ble_eq_true rfl) (Nat.le_refl _) (Nat.le_refl _) dX9_copyFrom_240 ?_
  cases hF
  exact g_vret (pc := 243) rfl (Nat.le_refl _) (Nat.le_refl _) dX9_copyFrom_243 ⟨rfl, rfl, rfl, rfl⟩
def F_X6_copyFrom_11_104 (I : am_IT) : Option (am_IT) := am_let (up2 I 11 0 (I 104 0)) (fun (I_1 : am_IT) => am_let (up2 I_1 11 1 (I_1 104 1)) (fun (I_2 : am_IT) => if am_cpok (0 : Int32) (0 : Int32) (16 : Int32) 16 16 = true then (am_let (cpy2 I_2 105 12 (0 : Int32).toNatClampNeg (0 : Int32).toNatClampNeg (16 : Int32).toNatClampNeg) (fun (I_4 : am_IT) => if am_cpok (0 : Int32) (0 : Int32) (16 : Int32) 16 16 = true then (am_let (cpy2 I_4 106 13 (0 : Int32).toNatClampNeg (0 : Int32).toNatClampNeg (16 : Int32).toNatClampNeg) (fun (I_6 : am_IT) => if am_cpok (0 : Int32) (0 : Int32) (400 : Int32) 400 400 = true then (am_let (cpy2 I_6 107 14 (0 : Int32).toNatClampNeg (0 : Int32).toNatClampNeg (400 : Int32).toNatClampNeg) (fun (I_8 : am_IT) => some I_8)) else none)) else none)) else none))
set_option maxRecDepth 100000 in
set_option maxHeartbeats 4000000 in
theorem s_X6_copyFrom_11_104 {l : Launch} {d N : Nat} {P : am_PT} (hPl : am_Pl 116 N P) (hd : 2 ≤ d) {I : am_IT} {I2 : am_IT} (hF : F_X6_copyFrom_11_104 I = some (I2)) : am_C l d 0 0 mX6_copyFrom [.ref 11, .ref 104] N P I (am_qv N P I2) := by
  refine am_body (sc := am_sc0) (n := 0) (by decide +kernel) (by decide) rfl ?_
  change G am_sc0 l d 0 0 mX6_copyFrom (am_qv N P I2) 0 [.ref 11, .ref 104] [] N P I 0 0
  unfold F_X6_copyFrom_11_104 at hF
  refine g_aload_n (pc := 0) dX6_copyFrom_0 rfl rfl ?_
  refine g_aload_n (pc := 1) dX6_copyFrom_1 rfl rfl ?_
  refine g_getI (pc := 2) (k := 104) kf_X6_9.r rfl rfl (hPl.lt (by decide)) dX6_copyFrom_2 ?_
  obtain ⟨I_1, e_I_1, hF⟩ := am_let_el hF
  refine n_putI (pc := 5) (k := 11) e_I_1 kf_X6_9 rfl rfl (hPl.lt (by decide)) dX6_copyFrom_5 ?_
  refine g_aload_n (pc := 8) dX6_copyFrom_8 rfl rfl ?_
  refine g_aload_n (pc := 9) dX6_copyFrom_9 rfl rfl ?_
  refine g_getI (pc := 10) (k := 104) kf_X6_15.r rfl rfl (hPl.lt (by decide)) dX6_copyFrom_10 ?_
  obtain ⟨I_2, e_I_2, hF⟩ := am_let_el hF
  refine n_putI (pc := 13) (k := 11) e_I_2 kf_X6_15 rfl rfl (hPl.lt (by decide)) dX6_copyFrom_13 ?_
  refine g_aload_n (pc := 16) dX6_copyFrom_16 rfl rfl ?_
  refine g_getR (pc := 17) (k := 104) (r := 105) kf_X6_18.r rfl rfl (hPl.get (by decide) rfl) (hPl.lt (by decide)) dX6_copyFrom_17 ?_
  refine g_iconst (pc := 20) (v := (0 : Int32)) dX6_copyFrom_20 rfl ?_
  refine g_aload_n (pc := 21) dX6_copyFrom_21 rfl rfl ?_
  refine g_getR (pc := 22) (k := 11) (r := 12) kf_X6_18.r rfl rfl (hPl.get (by decide) rfl) (hPl.lt (by decide)) dX6_copyFrom_22 ?_
  refine g_iconst (pc := 25) (v := (0 : Int32)) dX6_copyFrom_25 rfl ?_
  refine g_aload_n (pc := 26) dX6_copyFrom_26 rfl rfl ?_
  refine g_getR (pc := 27) (k := 11) (r := 12) kf_X6_18.r rfl rfl (hPl.get (by decide) rfl) (hPl.lt (by decide)) dX6_copyFrom_27 ?_
  refine g_alen (pc := 30) (k := 12) (v := 16) rfl (hPl.lt (by decide)) rfl dX6_copyFrom_30 ?_
  obtain ⟨c_3, hF⟩ := am_gd hF
  obtain ⟨I_4, e_I_4, hF⟩ := am_let_el hF
  refine n_acopy (pc := 31) (a := 105) (b := 12) e_I_4 c_3 kl_X6_28 rfl rfl (hPl.lt (by decide)) (hPl.lt (by decide)) (Nat.le_trans (by decide) hd) (Nat.le_of_ble_eq_true rfl) dX6_copyFrom_31 ?_
  refine g_aload_n (pc := 34) dX6_copyFrom_34 rfl rfl ?_
  refine g_getR (pc := 35) (k := 104) (r := 106) kf_X6_22.r rfl rfl (hPl.get (by decide) rfl) (hPl.lt (by decide)) dX6_copyFrom_35 ?_
  refine g_iconst (pc := 38) (v := (0 : Int32)) dX6_copyFrom_38 rfl ?_
  refine g_aload_n (pc := 39) dX6_copyFrom_39 rfl rfl ?_
  refine g_getR (pc := 40) (k := 11) (r := 13) kf_X6_22.r rfl rfl (hPl.get (by decide) rfl) (hPl.lt (by decide)) dX6_copyFrom_40 ?_
  refine g_iconst (pc := 43) (v := (0 : Int32)) dX6_copyFrom_43 rfl ?_
  refine g_aload_n (pc := 44) dX6_copyFrom_44 rfl rfl ?_
  refine g_getR (pc := 45) (k := 11) (r := 13) kf_X6_22.r rfl rfl (hPl.get (by decide) rfl) (hPl.lt (by decide)) dX6_copyFrom_45 ?_
  refine g_alen (pc := 48) (k := 13) (v := 16) rfl (hPl.lt (by decide)) rfl dX6_copyFrom_48 ?_
  obtain ⟨c_5, hF⟩ := am_gd hF
  obtain ⟨I_6, e_I_6, hF⟩ := am_let_el hF
  refine n_acopy (pc := 49) (a := 106) (b := 13) e_I_6 c_5 kl_X6_28 rfl rfl (hPl.lt (by decide)) (hPl.lt (by decide)) (Nat.le_trans (by decide) hd) (Nat.le_of_ble_eq_true rfl) dX6_copyFrom_49 ?_
  refine g_aload_n (pc := 52) dX6_copyFrom_52 rfl rfl ?_
  refine g_getR (pc := 53) (k := 104) (r := 107) kf_X6_25.r rfl rfl (hPl.get (by decide) rfl) (hPl.lt (by decide)) dX6_copyFrom_53 ?_
  refine g_iconst (pc := 56) (v := (0 : Int32)) dX6_copyFrom_56 rfl ?_
  refine g_aload_n (pc := 57) dX6_copyFrom_57 rfl rfl ?_
  refine g_getR (pc := 58) (k := 11) (r := 14) kf_X6_25.r rfl rfl (hPl.get (by decide) rfl) (hPl.lt (by decide)) dX6_copyFrom_58 ?_
  refine g_iconst (pc := 61) (v := (0 : Int32)) dX6_copyFrom_61 rfl ?_
  refine g_aload_n (pc := 62) dX6_copyFrom_62 rfl rfl ?_
  refine g_getR (pc := 63) (k := 11) (r := 14) kf_X6_25.r rfl rfl (hPl.get (by decide) rfl) (hPl.lt (by decide)) dX6_copyFrom_63 ?_
  refine g_alen (pc := 66) (k := 14) (v := 400) rfl (hPl.lt (by decide)) rfl dX6_copyFrom_66 ?_
  obtain ⟨c_7, hF⟩ := am_gd hF
  obtain ⟨I_8, e_I_8, hF⟩ := am_let_el hF
  refine n_acopy (pc := 67) (a := 107) (b := 14) e_I_8 c_7 kl_X6_28 rfl rfl (hPl.lt (by decide)) (hPl.lt (by decide)) (Nat.le_trans (by decide) hd) (Nat.le_of_ble_eq_true rfl) dX6_copyFrom_67 ?_
  cases hF
  exact g_vret (pc := 70) rfl (Nat.le_refl _) (Nat.le_refl _) dX6_copyFrom_70 ⟨rfl, rfl, rfl, rfl⟩
def F_X1_copyFrom_15_108 (I : am_IT) : Option (am_IT) := am_let (up2 I 15 0 (I 108 0)) (fun (I_1 : am_IT) => if am_cpok (0 : Int32) (0 : Int32) (112 : Int32) 112 112 = true then (am_let (cpy2 I_1 109 16 (0 : Int32).toNatClampNeg (0 : Int32).toNatClampNeg (112 : Int32).toNatClampNeg) (fun (I_3 : am_IT) => some I_3)) else none)
set_option maxRecDepth 100000 in
set_option maxHeartbeats 4000000 in
theorem s_X1_copyFrom_15_108 {l : Launch} {d N : Nat} {P : am_PT} (hPl : am_Pl 116 N P) (hd : 2 ≤ d) {I : am_IT} {I2 : am_IT} (hF : F_X1_copyFrom_15_108 I = some (I2)) : am_C l d 0 0 mX1_copyFrom [.ref 15, .ref 108] N P I (am_qv N P I2) := by
  refine am_body (sc := am_sc0) (n := 0) (by decide +kernel) (by decide) rfl ?_
  change G am_sc0 l d 0 0 mX1_copyFrom (am_qv N P I2) 0 [.ref 15, .ref 108] [] N P I 0 0
  unfold F_X1_copyFrom_15_108 at hF
  refine g_aload_n (pc := 0) dX1_copyFrom_0 rfl rfl ?_
  refine g_aload_n (pc := 1) dX1_copyFrom_1 rfl rfl ?_
  refine g_getI (pc := 2) (k := 108) kf_X1_9.r rfl rfl (hPl.lt (by decide)) dX1_copyFrom_2 ?_
  obtain ⟨I_1, e_I_1, hF⟩ := am_let_el hF
  refine n_putI (pc := 5) (k := 15) e_I_1 kf_X1_9 rfl rfl (hPl.lt (by decide)) dX1_copyFrom_5 ?_
  refine g_aload_n (pc := 8) dX1_copyFrom_8 rfl rfl ?_
  refine g_getR (pc := 9) (k := 108) (r := 109) kf_X1_15.r rfl rfl (hPl.get (by decide) rfl) (hPl.lt (by decide)) dX1_copyFrom_9 ?_
  refine g_iconst (pc := 12) (v := (0 : Int32)) dX1_copyFrom_12 rfl ?_
  refine g_aload_n (pc := 13) dX1_copyFrom_13 rfl rfl ?_
  refine g_getR (pc := 14) (k := 15) (r := 16) kf_X1_15.r rfl rfl (hPl.get (by decide) rfl) (hPl.lt (by decide)) dX1_copyFrom_14 ?_
  refine g_iconst (pc := 17) (v := (0 : Int32)) dX1_copyFrom_17 rfl ?_
  refine g_aload_n (pc := 18) dX1_copyFrom_18 rfl rfl ?_
  refine g_getR (pc := 19) (k := 15) (r := 16) kf_X1_15.r rfl rfl (hPl.get (by decide) rfl) (hPl.lt (by decide)) dX1_copyFrom_19 ?_
  refine g_alen (pc := 22) (k := 16) (v := 112) rfl (hPl.lt (by decide)) rfl dX1_copyFrom_22 ?_
  obtain ⟨c_2, hF⟩ := am_gd hF
  obtain ⟨I_3, e_I_3, hF⟩ := am_let_el hF
  refine n_acopy (pc := 23) (a := 109) (b := 16) e_I_3 c_2 kl_X1_28 rfl rfl (hPl.lt (by decide)) (hPl.lt (by decide)) (Nat.le_trans (by decide) hd) (Nat.le_of_ble_eq_true rfl) dX1_copyFrom_23 ?_
  cases hF
  exact g_vret (pc := 26) rfl (Nat.le_refl _) (Nat.le_refl _) dX1_copyFrom_26 ⟨rfl, rfl, rfl, rfl⟩
def F_X5_copyFrom_18_111 (I : am_IT) : Option (am_IT) := if am_cpok (0 : Int32) (0 : Int32) (9 : Int32) 9 9 = true then (am_let (cpy2 I 112 19 (0 : Int32).toNatClampNeg (0 : Int32).toNatClampNeg (9 : Int32).toNatClampNeg) (fun (I_2 : am_IT) => if am_cpok (0 : Int32) (0 : Int32) (81 : Int32) 81 81 = true then (am_let (cpy2 I_2 113 20 (0 : Int32).toNatClampNeg (0 : Int32).toNatClampNeg (81 : Int32).toNatClampNeg) (fun (I_4 : am_IT) => some I_4)) else none)) else none
set_option maxRecDepth 100000 in
set_option maxHeartbeats 4000000 in
theorem s_X5_copyFrom_18_111 {l : Launch} {d N : Nat} {P : am_PT} (hPl : am_Pl 116 N P) (hd : 2 ≤ d) {I : am_IT} {I2 : am_IT} (hF : F_X5_copyFrom_18_111 I = some (I2)) : am_C l d 0 0 mX5_copyFrom [.ref 18, .ref 111] N P I (am_qv N P I2) := by
  refine am_body (sc := am_sc0) (n := 0) (by decide +kernel) (by decide) rfl ?_
  change G am_sc0 l d 0 0 mX5_copyFrom (am_qv N P I2) 0 [.ref 18, .ref 111] [] N P I 0 0
  unfold F_X5_copyFrom_18_111 at hF
  refine g_aload_n (pc := 0) dX5_copyFrom_0 rfl rfl ?_
  refine g_getR (pc := 1) (k := 111) (r := 112) kf_X5_9.r rfl rfl (hPl.get (by decide) rfl) (hPl.lt (by decide)) dX5_copyFrom_1 ?_
  refine g_iconst (pc := 4) (v := (0 : Int32)) dX5_copyFrom_4 rfl ?_
  refine g_aload_n (pc := 5) dX5_copyFrom_5 rfl rfl ?_
  refine g_getR (pc := 6) (k := 18) (r := 19) kf_X5_9.r rfl rfl (hPl.get (by decide) rfl) (hPl.lt (by decide)) dX5_copyFrom_6 ?_
  refine g_iconst (pc := 9) (v := (0 : Int32)) dX5_copyFrom_9 rfl ?_
  refine g_aload_n (pc := 10) dX5_copyFrom_10 rfl rfl ?_
  refine g_getR (pc := 11) (k := 18) (r := 19) kf_X5_9.r rfl rfl (hPl.get (by decide) rfl) (hPl.lt (by decide)) dX5_copyFrom_11 ?_
  refine g_alen (pc := 14) (k := 19) (v := 9) rfl (hPl.lt (by decide)) rfl dX5_copyFrom_14 ?_
  obtain ⟨c_1, hF⟩ := am_gd hF
  obtain ⟨I_2, e_I_2, hF⟩ := am_let_el hF
  refine n_acopy (pc := 15) (a := 112) (b := 19) e_I_2 c_1 kl_X5_43 rfl rfl (hPl.lt (by decide)) (hPl.lt (by decide)) (Nat.le_trans (by decide) hd) (Nat.le_of_ble_eq_true rfl) dX5_copyFrom_15 ?_
  refine g_aload_n (pc := 18) dX5_copyFrom_18 rfl rfl ?_
  refine g_getR (pc := 19) (k := 111) (r := 113) kf_X5_15.r rfl rfl (hPl.get (by decide) rfl) (hPl.lt (by decide)) dX5_copyFrom_19 ?_
  refine g_iconst (pc := 22) (v := (0 : Int32)) dX5_copyFrom_22 rfl ?_
  refine g_aload_n (pc := 23) dX5_copyFrom_23 rfl rfl ?_
  refine g_getR (pc := 24) (k := 18) (r := 20) kf_X5_15.r rfl rfl (hPl.get (by decide) rfl) (hPl.lt (by decide)) dX5_copyFrom_24 ?_
  refine g_iconst (pc := 27) (v := (0 : Int32)) dX5_copyFrom_27 rfl ?_
  refine g_aload_n (pc := 28) dX5_copyFrom_28 rfl rfl ?_
  refine g_getR (pc := 29) (k := 18) (r := 20) kf_X5_15.r rfl rfl (hPl.get (by decide) rfl) (hPl.lt (by decide)) dX5_copyFrom_29 ?_
  refine g_alen (pc := 32) (k := 20) (v := 81) rfl (hPl.lt (by decide)) rfl dX5_copyFrom_32 ?_
  obtain ⟨c_3, hF⟩ := am_gd hF
  obtain ⟨I_4, e_I_4, hF⟩ := am_let_el hF
  refine n_acopy (pc := 33) (a := 113) (b := 20) e_I_4 c_3 kl_X5_43 rfl rfl (hPl.lt (by decide)) (hPl.lt (by decide)) (Nat.le_trans (by decide) hd) (Nat.le_of_ble_eq_true rfl) dX5_copyFrom_33 ?_
  cases hF
  exact g_vret (pc := 36) rfl (Nat.le_refl _) (Nat.le_refl _) dX5_copyFrom_36 ⟨rfl, rfl, rfl, rfl⟩
def F_X9_copyFrom_1_94 (I : am_IT) : Option (am_IT) := am_let (up2 I 1 0 (I 94 0)) (fun (I_1 : am_IT) => am_let (up2 I_1 1 1 (I_1 94 1)) (fun (I_2 : am_IT) => am_let (up2 I_2 1 2 (I_2 94 2)) (fun (I_3 : am_IT) => am_let (up2 I_3 1 3 (I_3 94 3)) (fun (I_4 : am_IT) => am_let (up2 I_4 1 4 (I_4 94 4)) (fun (I_5 : am_IT) => am_let (up2 I_5 1 5 (I_5 94 5)) (fun (I_6 : am_IT) => if am_cpok (0 : Int32) (0 : Int32) (4 : Int32) 4 4 = true then (am_let (cpy2 I_6 95 2 (0 : Int32).toNatClampNeg (0 : Int32).toNatClampNeg (4 : Int32).toNatClampNeg) (fun (I_8 : am_IT) => if am_cpok (0 : Int32) (0 : Int32) (7 : Int32) 7 7 = true then (am_let (cpy2 I_8 96 3 (0 : Int32).toNatClampNeg (0 : Int32).toNatClampNeg (7 : Int32).toNatClampNeg) (fun (I_10 : am_IT) => if am_cpok (0 : Int32) (0 : Int32) (7 : Int32) 7 7 = true then (am_let (cpy2 I_10 97 4 (0 : Int32).toNatClampNeg (0 : Int32).toNatClampNeg (7 : Int32).toNatClampNeg) (fun (I_12 : am_IT) => if am_cpok (0 : Int32) (0 : Int32) (56 : Int32) 56 56 = true then (am_let (cpy2 I_12 98 5 (0 : Int32).toNatClampNeg (0 : Int32).toNatClampNeg (56 : Int32).toNatClampNeg) (fun (I_14 : am_IT) => if am_cpok (0 : Int32) (0 : Int32) (60 : Int32) 60 60 = true then (am_let (cpy2 I_14 99 6 (0 : Int32).toNatClampNeg (0 : Int32).toNatClampNeg (60 : Int32).toNatClampNeg) (fun (I_16 : am_IT) => if am_cpok (0 : Int32) (0 : Int32) (28 : Int32) 28 28 = true then (am_let (cpy2 I_16 100 7 (0 : Int32).toNatClampNeg (0 : Int32).toNatClampNeg (28 : Int32).toNatClampNeg) (fun (I_18 : am_IT) => if am_cpok (0 : Int32) (0 : Int32) (28 : Int32) 28 28 = true then (am_let (cpy2 I_18 101 8 (0 : Int32).toNatClampNeg (0 : Int32).toNatClampNeg (28 : Int32).toNatClampNeg) (fun (I_20 : am_IT) => if am_cpok (0 : Int32) (0 : Int32) (7 : Int32) 7 7 = true then (am_let (cpy2 I_20 102 9 (0 : Int32).toNatClampNeg (0 : Int32).toNatClampNeg (7 : Int32).toNatClampNeg) (fun (I_22 : am_IT) => if am_cpok (0 : Int32) (0 : Int32) (49 : Int32) 49 49 = true then (am_let (cpy2 I_22 103 10 (0 : Int32).toNatClampNeg (0 : Int32).toNatClampNeg (49 : Int32).toNatClampNeg) (fun (I_24 : am_IT) => am_b1 (F_X6_copyFrom_11_104 I_24) (fun (I_26 : am_IT) => am_b1 (F_X1_copyFrom_15_108 I_26) (fun (I_28 : am_IT) => am_b1 (F_X5_copyFrom_18_111 I_28) (fun (I_30 : am_IT) => some I_30))))) else none)) else none)) else none)) else none)) else none)) else none)) else none)) else none)) else none))))))
set_option maxRecDepth 100000 in
set_option maxHeartbeats 4000000 in
theorem s_X9_copyFrom_1_94 {l : Launch} {d N : Nat} {P : am_PT} (hPl : am_Pl 116 N P) (hd : 3 ≤ d) {I : am_IT} {I2 : am_IT} (hF : F_X9_copyFrom_1_94 I = some (I2)) : am_C l d 0 0 mX9_copyFrom [.ref 1, .ref 94] N P I (am_qv N P I2) := by
  refine am_body (sc := am_sc0) (n := 0) (by decide +kernel) (by decide) rfl ?_
  change G am_sc0 l d 0 0 mX9_copyFrom (am_qv N P I2) 0 [.ref 1, .ref 94] [] N P I 0 0
  unfold F_X9_copyFrom_1_94 at hF
  refine g_aload_n (pc := 0) dX9_copyFrom_0 rfl rfl ?_
  refine g_aload_n (pc := 1) dX9_copyFrom_1 rfl rfl ?_
  refine g_getI (pc := 2) (k := 94) kf_X9_9.r rfl rfl (hPl.lt (by decide)) dX9_copyFrom_2 ?_
  obtain ⟨I_1, e_I_1, hF⟩ := am_let_el hF
  refine n_putI (pc := 5) (k := 1) e_I_1 kf_X9_9 rfl rfl (hPl.lt (by decide)) dX9_copyFrom_5 ?_
  refine g_aload_n (pc := 8) dX9_copyFrom_8 rfl rfl ?_
  refine g_aload_n (pc := 9) dX9_copyFrom_9 rfl rfl ?_
  refine g_getI (pc := 10) (k := 94) kf_X9_15.r rfl rfl (hPl.lt (by decide)) dX9_copyFrom_10 ?_
  obtain ⟨I_2, e_I_2, hF⟩ := am_let_el hF
  refine n_putI (pc := 13) (k := 1) e_I_2 kf_X9_15 rfl rfl (hPl.lt (by decide)) dX9_copyFrom_13 ?_
  refine g_aload_n (pc := 16) dX9_copyFrom_16 rfl rfl ?_
  refine g_aload_n (pc := 17) dX9_copyFrom_17 rfl rfl ?_
  refine g_getI (pc := 18) (k := 94) kf_X9_18.r rfl rfl (hPl.lt (by decide)) dX9_copyFrom_18 ?_
  obtain ⟨I_3, e_I_3, hF⟩ := am_let_el hF
  refine n_putI (pc := 21) (k := 1) e_I_3 kf_X9_18 rfl rfl (hPl.lt (by decide)) dX9_copyFrom_21 ?_
  refine g_aload_n (pc := 24) dX9_copyFrom_24 rfl rfl ?_
  refine g_aload_n (pc := 25) dX9_copyFrom_25 rfl rfl ?_
  refine g_getI (pc := 26) (k := 94) kf_X9_21.r rfl rfl (hPl.lt (by decide)) dX9_copyFrom_26 ?_
  obtain ⟨I_4, e_I_4, hF⟩ := am_let_el hF
  refine n_putI (pc := 29) (k := 1) e_I_4 kf_X9_21 rfl rfl (hPl.lt (by decide)) dX9_copyFrom_29 ?_
  refine g_aload_n (pc := 32) dX9_copyFrom_32 rfl rfl ?_
  refine g_aload_n (pc := 33) dX9_copyFrom_33 rfl rfl ?_
  refine g_getI (pc := 34) (k := 94) kf_X9_24.r rfl rfl (hPl.lt (by decide)) dX9_copyFrom_34 ?_
  obtain ⟨I_5, e_I_5, hF⟩ := am_let_el hF
  refine n_putI (pc := 37) (k := 1) e_I_5 kf_X9_24 rfl rfl (hPl.lt (by decide)) dX9_copyFrom_37 ?_
  refine g_aload_n (pc := 40) dX9_copyFrom_40 rfl rfl ?_
  refine g_aload_n (pc := 41) dX9_copyFrom_41 rfl rfl ?_
  refine g_getI (pc := 42) (k := 94) kf_X9_27.r rfl rfl (hPl.lt (by decide)) dX9_copyFrom_42 ?_
  obtain ⟨I_6, e_I_6, hF⟩ := am_let_el hF
  refine n_putI (pc := 45) (k := 1) e_I_6 kf_X9_27 rfl rfl (hPl.lt (by decide)) dX9_copyFrom_45 ?_
  refine g_aload_n (pc := 48) dX9_copyFrom_48 rfl rfl ?_
  refine g_getR (pc := 49) (k := 94) (r := 95) kf_X9_30.r rfl rfl (hPl.get (by decide) rfl) (hPl.lt (by decide)) dX9_copyFrom_49 ?_
  refine g_iconst (pc := 52) (v := (0 : Int32)) dX9_copyFrom_52 rfl ?_
  refine g_aload_n (pc := 53) dX9_copyFrom_53 rfl rfl ?_
  refine g_getR (pc := 54) (k := 1) (r := 2) kf_X9_30.r rfl rfl (hPl.get (by decide) rfl) (hPl.lt (by decide)) dX9_copyFrom_54 ?_
  refine g_iconst (pc := 57) (v := (0 : Int32)) dX9_copyFrom_57 rfl ?_
  refine g_aload_n (pc := 58) dX9_copyFrom_58 rfl rfl ?_
  refine g_getR (pc := 59) (k := 1) (r := 2) kf_X9_30.r rfl rfl (hPl.get (by decide) rfl) (hPl.lt (by decide)) dX9_copyFrom_59 ?_
  refine g_alen (pc := 62) (k := 2) (v := 4) rfl (hPl.lt (by decide)) rfl dX9_copyFrom_62 ?_
  obtain ⟨c_7, hF⟩ := am_gd hF
  obtain ⟨I_8, e_I_8, hF⟩ := am_let_el hF
  refine n_acopy (pc := 63) (a := 95) (b := 2) e_I_8 c_7 kl_X9_90 rfl rfl (hPl.lt (by decide)) (hPl.lt (by decide)) (Nat.le_trans (by decide) hd) (Nat.le_of_ble_eq_true rfl) dX9_copyFrom_63 ?_
  refine g_aload_n (pc := 66) dX9_copyFrom_66 rfl rfl ?_
  refine g_getR (pc := 67) (k := 94) (r := 96) kf_X9_34.r rfl rfl (hPl.get (by decide) rfl) (hPl.lt (by decide)) dX9_copyFrom_67 ?_
  refine g_iconst (pc := 70) (v := (0 : Int32)) dX9_copyFrom_70 rfl ?_
  refine g_aload_n (pc := 71) dX9_copyFrom_71 rfl rfl ?_
  refine g_getR (pc := 72) (k := 1) (r := 3) kf_X9_34.r rfl rfl (hPl.get (by decide) rfl) (hPl.lt (by decide)) dX9_copyFrom_72 ?_
  refine g_iconst (pc := 75) (v := (0 : Int32)) dX9_copyFrom_75 rfl ?_
  refine g_aload_n (pc := 76) dX9_copyFrom_76 rfl rfl ?_
  refine g_getR (pc := 77) (k := 1) (r := 3) kf_X9_34.r rfl rfl (hPl.get (by decide) rfl) (hPl.lt (by decide)) dX9_copyFrom_77 ?_
  refine g_alen (pc := 80) (k := 3) (v := 7) rfl (hPl.lt (by decide)) rfl dX9_copyFrom_80 ?_
  obtain ⟨c_9, hF⟩ := am_gd hF
  obtain ⟨I_10, e_I_10, hF⟩ := am_let_el hF
  refine n_acopy (pc := 81) (a := 96) (b := 3) e_I_10 c_9 kl_X9_90 rfl rfl (hPl.lt (by decide)) (hPl.lt (by decide)) (Nat.le_trans (by decide) hd) (Nat.le_of_ble_eq_true rfl) dX9_copyFrom_81 ?_
  refine g_aload_n (pc := 84) dX9_copyFrom_84 rfl rfl ?_
  refine g_getR (pc := 85) (k := 94) (r := 97) kf_X9_37.r rfl rfl (hPl.get (by decide) rfl) (hPl.lt (by decide)) dX9_copyFrom_85 ?_
  refine g_iconst (pc := 88) (v := (0 : Int32)) dX9_copyFrom_88 rfl ?_
  refine g_aload_n (pc := 89) dX9_copyFrom_89 rfl rfl ?_
  refine g_getR (pc := 90) (k := 1) (r := 4) kf_X9_37.r rfl rfl (hPl.get (by decide) rfl) (hPl.lt (by decide)) dX9_copyFrom_90 ?_
  refine g_iconst (pc := 93) (v := (0 : Int32)) dX9_copyFrom_93 rfl ?_
  refine g_aload_n (pc := 94) dX9_copyFrom_94 rfl rfl ?_
  refine g_getR (pc := 95) (k := 1) (r := 4) kf_X9_37.r rfl rfl (hPl.get (by decide) rfl) (hPl.lt (by decide)) dX9_copyFrom_95 ?_
  refine g_alen (pc := 98) (k := 4) (v := 7) rfl (hPl.lt (by decide)) rfl dX9_copyFrom_98 ?_
  obtain ⟨c_11, hF⟩ := am_gd hF
  obtain ⟨I_12, e_I_12, hF⟩ := am_let_el hF
  refine n_acopy (pc := 99) (a := 97) (b := 4) e_I_12 c_11 kl_X9_90 rfl rfl (hPl.lt (by decide)) (hPl.lt (by decide)) (Nat.le_trans (by decide) hd) (Nat.le_of_ble_eq_true rfl) dX9_copyFrom_99 ?_
  refine g_aload_n (pc := 102) dX9_copyFrom_102 rfl rfl ?_
  refine g_getR (pc := 103) (k := 94) (r := 98) kf_X9_40.r rfl rfl (hPl.get (by decide) rfl) (hPl.lt (by decide)) dX9_copyFrom_103 ?_
  refine g_iconst (pc := 106) (v := (0 : Int32)) dX9_copyFrom_106 rfl ?_
  refine g_aload_n (pc := 107) dX9_copyFrom_107 rfl rfl ?_
  refine g_getR (pc := 108) (k := 1) (r := 5) kf_X9_40.r rfl rfl (hPl.get (by decide) rfl) (hPl.lt (by decide)) dX9_copyFrom_108 ?_
  refine g_iconst (pc := 111) (v := (0 : Int32)) dX9_copyFrom_111 rfl ?_
  refine g_aload_n (pc := 112) dX9_copyFrom_112 rfl rfl ?_
  refine g_getR (pc := 113) (k := 1) (r := 5) kf_X9_40.r rfl rfl (hPl.get (by decide) rfl) (hPl.lt (by decide)) dX9_copyFrom_113 ?_
  refine g_alen (pc := 116) (k := 5) (v := 56) rfl (hPl.lt (by decide)) rfl dX9_copyFrom_116 ?_
  obtain ⟨c_13, hF⟩ := am_gd hF
  obtain ⟨I_14, e_I_14, hF⟩ := am_let_el hF
  refine n_acopy (pc := 117) (a := 98) (b := 5) e_I_14 c_13 kl_X9_90 rfl rfl (hPl.lt (by decide)) (hPl.lt (by decide)) (Nat.le_trans (by decide) hd) (Nat.le_of_ble_eq_true rfl) dX9_copyFrom_117 ?_
  refine g_aload_n (pc := 120) dX9_copyFrom_120 rfl rfl ?_
  refine g_getR (pc := 121) (k := 94) (r := 99) kf_X9_43.r rfl rfl (hPl.get (by decide) rfl) (hPl.lt (by decide)) dX9_copyFrom_121 ?_
  refine g_iconst (pc := 124) (v := (0 : Int32)) dX9_copyFrom_124 rfl ?_
  refine g_aload_n (pc := 125) dX9_copyFrom_125 rfl rfl ?_
  refine g_getR (pc := 126) (k := 1) (r := 6) kf_X9_43.r rfl rfl (hPl.get (by decide) rfl) (hPl.lt (by decide)) dX9_copyFrom_126 ?_
  refine g_iconst (pc := 129) (v := (0 : Int32)) dX9_copyFrom_129 rfl ?_
  refine g_aload_n (pc := 130) dX9_copyFrom_130 rfl rfl ?_
  refine g_getR (pc := 131) (k := 1) (r := 6) kf_X9_43.r rfl rfl (hPl.get (by decide) rfl) (hPl.lt (by decide)) dX9_copyFrom_131 ?_
  refine g_alen (pc := 134) (k := 6) (v := 60) rfl (hPl.lt (by decide)) rfl dX9_copyFrom_134 ?_
  obtain ⟨c_15, hF⟩ := am_gd hF
  obtain ⟨I_16, e_I_16, hF⟩ := am_let_el hF
  refine n_acopy (pc := 135) (a := 99) (b := 6) e_I_16 c_15 kl_X9_90 rfl rfl (hPl.lt (by decide)) (hPl.lt (by decide)) (Nat.le_trans (by decide) hd) (Nat.le_of_ble_eq_true rfl) dX9_copyFrom_135 ?_
  refine g_aload_n (pc := 138) dX9_copyFrom_138 rfl rfl ?_
  refine g_getR (pc := 139) (k := 94) (r := 100) kf_X9_46.r rfl rfl (hPl.get (by decide) rfl) (hPl.lt (by decide)) dX9_copyFrom_139 ?_
  refine g_iconst (pc := 142) (v := (0 : Int32)) dX9_copyFrom_142 rfl ?_
  refine g_aload_n (pc := 143) dX9_copyFrom_143 rfl rfl ?_
  refine g_getR (pc := 144) (k := 1) (r := 7) kf_X9_46.r rfl rfl (hPl.get (by decide) rfl) (hPl.lt (by decide)) dX9_copyFrom_144 ?_
  refine g_iconst (pc := 147) (v := (0 : Int32)) dX9_copyFrom_147 rfl ?_
  refine g_aload_n (pc := 148) dX9_copyFrom_148 rfl rfl ?_
  refine g_getR (pc := 149) (k := 1) (r := 7) kf_X9_46.r rfl rfl (hPl.get (by decide) rfl) (hPl.lt (by decide)) dX9_copyFrom_149 ?_
  refine g_alen (pc := 152) (k := 7) (v := 28) rfl (hPl.lt (by decide)) rfl dX9_copyFrom_152 ?_
  obtain ⟨c_17, hF⟩ := am_gd hF
  obtain ⟨I_18, e_I_18, hF⟩ := am_let_el hF
  refine n_acopy (pc := 153) (a := 100) (b := 7) e_I_18 c_17 kl_X9_90 rfl rfl (hPl.lt (by decide)) (hPl.lt (by decide)) (Nat.le_trans (by decide) hd) (Nat.le_of_ble_eq_true rfl) dX9_copyFrom_153 ?_
  refine g_aload_n (pc := 156) dX9_copyFrom_156 rfl rfl ?_
  refine g_getR (pc := 157) (k := 94) (r := 101) kf_X9_49.r rfl rfl (hPl.get (by decide) rfl) (hPl.lt (by decide)) dX9_copyFrom_157 ?_
  refine g_iconst (pc := 160) (v := (0 : Int32)) dX9_copyFrom_160 rfl ?_
  refine g_aload_n (pc := 161) dX9_copyFrom_161 rfl rfl ?_
  refine g_getR (pc := 162) (k := 1) (r := 8) kf_X9_49.r rfl rfl (hPl.get (by decide) rfl) (hPl.lt (by decide)) dX9_copyFrom_162 ?_
  refine g_iconst (pc := 165) (v := (0 : Int32)) dX9_copyFrom_165 rfl ?_
  refine g_aload_n (pc := 166) dX9_copyFrom_166 rfl rfl ?_
  refine g_getR (pc := 167) (k := 1) (r := 8) kf_X9_49.r rfl rfl (hPl.get (by decide) rfl) (hPl.lt (by decide)) dX9_copyFrom_167 ?_
  refine g_alen (pc := 170) (k := 8) (v := 28) rfl (hPl.lt (by decide)) rfl dX9_copyFrom_170 ?_
  obtain ⟨c_19, hF⟩ := am_gd hF
  obtain ⟨I_20, e_I_20, hF⟩ := am_let_el hF
  refine n_acopy (pc := 171) (a := 101) (b := 8) e_I_20 c_19 kl_X9_90 rfl rfl (hPl.lt (by decide)) (hPl.lt (by decide)) (Nat.le_trans (by decide) hd) (Nat.le_of_ble_eq_true rfl) dX9_copyFrom_171 ?_
  refine g_aload_n (pc := 174) dX9_copyFrom_174 rfl rfl ?_
  refine g_getR (pc := 175) (k := 94) (r := 102) kf_X9_52.r rfl rfl (hPl.get (by decide) rfl) (hPl.lt (by decide)) dX9_copyFrom_175 ?_
  refine g_iconst (pc := 178) (v := (0 : Int32)) dX9_copyFrom_178 rfl ?_
  refine g_aload_n (pc := 179) dX9_copyFrom_179 rfl rfl ?_
  refine g_getR (pc := 180) (k := 1) (r := 9) kf_X9_52.r rfl rfl (hPl.get (by decide) rfl) (hPl.lt (by decide)) dX9_copyFrom_180 ?_
  refine g_iconst (pc := 183) (v := (0 : Int32)) dX9_copyFrom_183 rfl ?_
  refine g_aload_n (pc := 184) dX9_copyFrom_184 rfl rfl ?_
  refine g_getR (pc := 185) (k := 1) (r := 9) kf_X9_52.r rfl rfl (hPl.get (by decide) rfl) (hPl.lt (by decide)) dX9_copyFrom_185 ?_
  refine g_alen (pc := 188) (k := 9) (v := 7) rfl (hPl.lt (by decide)) rfl dX9_copyFrom_188 ?_
  obtain ⟨c_21, hF⟩ := am_gd hF
  obtain ⟨I_22, e_I_22, hF⟩ := am_let_el hF
  refine n_acopy (pc := 189) (a := 102) (b := 9) e_I_22 c_21 kl_X9_90 rfl rfl (hPl.lt (by decide)) (hPl.lt (by decide)) (Nat.le_trans (by decide) hd) (Nat.le_of_ble_eq_true rfl) dX9_copyFrom_189 ?_
  refine g_aload_n (pc := 192) dX9_copyFrom_192 rfl rfl ?_
  refine g_getR (pc := 193) (k := 94) (r := 103) kf_X9_55.r rfl rfl (hPl.get (by decide) rfl) (hPl.lt (by decide)) dX9_copyFrom_193 ?_
  refine g_iconst (pc := 196) (v := (0 : Int32)) dX9_copyFrom_196 rfl ?_
  refine g_aload_n (pc := 197) dX9_copyFrom_197 rfl rfl ?_
  refine g_getR (pc := 198) (k := 1) (r := 10) kf_X9_55.r rfl rfl (hPl.get (by decide) rfl) (hPl.lt (by decide)) dX9_copyFrom_198 ?_
  refine g_iconst (pc := 201) (v := (0 : Int32)) dX9_copyFrom_201 rfl ?_
  refine g_aload_n (pc := 202) dX9_copyFrom_202 rfl rfl ?_
  refine g_getR (pc := 203) (k := 1) (r := 10) kf_X9_55.r rfl rfl (hPl.get (by decide) rfl) (hPl.lt (by decide)) dX9_copyFrom_203 ?_
  refine g_alen (pc := 206) (k := 10) (v := 49) rfl (hPl.lt (by decide)) rfl dX9_copyFrom_206 ?_
  obtain ⟨c_23, hF⟩ := am_gd hF
  obtain ⟨I_24, e_I_24, hF⟩ := am_let_el hF
  refine n_acopy (pc := 207) (a := 103) (b := 10) e_I_24 c_23 kl_X9_90 rfl rfl (hPl.lt (by decide)) (hPl.lt (by decide)) (Nat.le_trans (by decide) hd) (Nat.le_of_ble_eq_true rfl) dX9_copyFrom_207 ?_
  refine g_aload_n (pc := 210) dX9_copyFrom_210 rfl rfl ?_
  refine g_getR (pc := 211) (k := 1) (r := 11) kf_X9_61.r rfl rfl (hPl.get (by decide) rfl) (hPl.lt (by decide)) dX9_copyFrom_211 ?_
  refine g_aload_n (pc := 214) dX9_copyFrom_214 rfl rfl ?_
  refine g_getR (pc := 215) (k := 94) (r := 104) kf_X9_61.r rfl rfl (hPl.get (by decide) rfl) (hPl.lt (by decide)) dX9_copyFrom_215 ?_
  obtain ⟨I_26, h_25, hF⟩ := am_b1_el hF
  refine g_cVv (pc := 218) (k := 11) (As := [.ref 104]) (st := []) ky_X6_copyFrom kl_X9_96 (s_X6_copyFrom_11_104 (d := 2) (hPl) (Nat.le_refl _) h_25) rfl rfl rfl (hPl.lt (by decide)) (Nat.le_trans (by decide) hd) (Nat.le_of_ble_eq_true rfl) (Nat.le_refl _) (Nat.le_refl _) dX9_copyFrom_218 ?_
  refine g_aload_n (pc := 221) dX9_copyFrom_221 rfl rfl ?_
  refine g_getR (pc := 222) (k := 1) (r := 15) kf_X9_68.r rfl rfl (hPl.get (by decide) rfl) (hPl.lt (by decide)) dX9_copyFrom_222 ?_
  refine g_aload_n (pc := 225) dX9_copyFrom_225 rfl rfl ?_
  refine g_getR (pc := 226) (k := 94) (r := 108) kf_X9_68.r rfl rfl (hPl.get (by decide) rfl) (hPl.lt (by decide)) dX9_copyFrom_226 ?_
  obtain ⟨I_28, h_27, hF⟩ := am_b1_el hF
  refine g_cVv (pc := 229) (k := 15) (As := [.ref 108]) (st := []) ky_X1_copyFrom kl_X9_100 (s_X1_copyFrom_15_108 (d := 2) (hPl) (Nat.le_refl _) h_27) rfl rfl rfl (hPl.lt (by decide)) (Nat.le_trans (by decide) hd) (Nat.le_of_ble_eq_true rfl) (Nat.le_refl _) (Nat.le_refl _) dX9_copyFrom_229 ?_
  refine g_aload_n (pc := 232) dX9_copyFrom_232 rfl rfl ?_
  refine g_getR (pc := 233) (k := 1) (r := 18) kf_X9_75.r rfl rfl (hPl.get (by decide) rfl) (hPl.lt (by decide)) dX9_copyFrom_233 ?_
  refine g_aload_n (pc := 236) dX9_copyFrom_236 rfl rfl ?_
  refine g_getR (pc := 237) (k := 94) (r := 111) kf_X9_75.r rfl rfl (hPl.get (by decide) rfl) (hPl.lt (by decide)) dX9_copyFrom_237 ?_
  obtain ⟨I_30, h_29, hF⟩ := am_b1_el hF
  refine g_cVv (pc := 240) (k := 18) (As := [.ref 111]) (st := []) ky_X5_copyFrom kl_X9_103 (s_X5_copyFrom_18_111 (d := 2) (hPl) (Nat.le_refl _) h_29) rfl rfl rfl (hPl.lt (by decide)) (Nat.le_trans (by decide) hd) (Nat.le_of_ble_eq_true rfl) (Nat.le_refl _) (Nat.le_refl _) dX9_copyFrom_240 ?_
  cases hF
  exact g_vret (pc := 243) rfl (Nat.le_refl _) (Nat.le_refl _) dX9_copyFrom_243 ⟨rfl, rfl, rfl, rfl⟩
/-! methods that make cells -/
def am_qa (N : Nat) (P : am_PT) (I : am_IT) : Option Value → Nat → am_PT → am_IT → Prop := fun v N' P' I' => v = none ∧ N' = N ∧ P' = P ∧ I' = I
def am_qj (r : Int32) (N : Nat) (P : am_PT) (I : am_IT) : Option Value → Nat → am_PT → am_IT → Prop := fun v N' P' I' => (r = 0 ∨ r = 1) ∧ v = some (.int r) ∧ N' = N ∧ P' = P ∧ I' = I
def am_plb (b : Nat) (P : am_PT) : Bool := (List.range b).all (fun k => (List.range (am_pt.getD k []).length).all (fun j => match am_P1 k j with
  | none => true
  | some r => P k j == some r))
theorem am_plb_use {b N : Nat} {P : am_PT} (h : am_plb b P = true) (hb : b ≤ N) : am_Pl b N P := by
  refine ⟨hb, fun k j r hk hr => ?_⟩
  have h1 := List.all_eq_true.mp h k (List.mem_range.mpr hk)
  have hj : j < (am_pt.getD k []).length := by
    by_cases hj : j < (am_pt.getD k []).length
    · exact hj
    · unfold am_P1 at hr
      rw [List.getD_eq_getElem?_getD, List.getElem?_eq_none (by omega)] at hr
      cases hr
  have h2 := List.all_eq_true.mp h1 j (List.mem_range.mpr hj)
  rw [hr] at h2
  exact of_decide_eq_true (by simpa using h2)
section GA
variable {sc : am_ST} {l : Launch} {d mc ms : Nat} {mi : am_M} {Q : Option Value → Nat → am_PT → am_IT → Prop} {pc : Nat} {ls st : List Value} {N : Nat} {P : am_PT} {I : am_IT} {nc ns : Nat}
theorem n_newa {n : Nat} {x : Int32} {P2 : am_PT} {I2 : am_IT} (hP : zr P N none = P2) (hI : zr I N 0 = I2) (hT : am_T N = .inl n) (hN1 : N < 1000000) (hx0 : ¬ x < 0) (hxn : x.toNatClampNeg = n) (hn : n ≤ 4096) (hc1 : nc + 1 ≤ mc) (hc2 : ns + n ≤ ms) (hk : Cond.arrayClass .int ∈ lwg) (hdg : decode mi.2.1 pc = .ok (.newarray .int, 2))
    (kk : G sc l d mc ms mi Q (pc + 2) ls (.ref N :: st) (N + 1) P2 I2 (nc + 1) (ns + n)) : G sc l d mc ms mi Q pc ls (.int x :: st) N P I nc ns := by
  subst hP; subst hI; exact g_newa hT hN1 hx0 hxn hn hc1 hc2 hk hdg kk
theorem n_new {idx ci n : Nat} {P2 : am_PT} {I2 : am_IT} (hP : zr P N none = P2) (hI : zr I N 0 = I2) (hw : am_nw1 mi.1.cls idx ci n) (hT : am_T N = .inr ci) (hN1 : N < 1000000) (hc1 : nc + 1 ≤ mc) (hc2 : ns + n ≤ ms) (hdg : decode mi.2.1 pc = .ok (.new idx, 3))
    (kk : G sc l d mc ms mi Q (pc + 3) ls (.ref N :: st) (N + 1) P2 I2 (nc + 1) (ns + n)) : G sc l d mc ms mi Q pc ls st N P I nc ns := by
  subst hP; subst hI; exact g_new hw hT hN1 hc1 hc2 hdg kk
theorem n_putN {idx ci j k : Nat} {tj : FieldType} {P2 : am_PT} (hP : up2 P k j none = P2) (hf : am_fl mi.1.cls idx ci j tj false) (hT : am_T k = .inr ci) (hR : am_R ci j = true) (hkN : k < N) (hdg : decode mi.2.1 pc = .ok (.putfield idx, 3))
    (kk : G sc l d mc ms mi Q (pc + 3) ls st N P2 I nc ns) : G sc l d mc ms mi Q pc ls (.null :: .ref k :: st) N P I nc ns := by
  subst hP; exact g_putN hf hT hR hkN hdg kk
end GA
set_option maxRecDepth 100000 in
def F_X6_init_11 (P : am_PT) (I : am_IT) : Option (am_PT × am_IT) := am_let (up2 I 11 0 (0 : Int32)) (fun (I_1 : am_IT) => am_let (up2 I_1 11 1 (0 : Int32)) (fun (I_2 : am_IT) => am_let (zr P 12 none) (fun (P_3 : am_PT) => am_let (zr I_2 12 0) (fun (I_4 : am_IT) => am_let (up2 P_3 11 2 (some 12)) (fun (P_5 : am_PT) => am_let (zr P_5 13 none) (fun (P_6 : am_PT) => am_let (zr I_4 13 0) (fun (I_7 : am_IT) => am_let (up2 P_6 11 3 (some 13)) (fun (P_8 : am_PT) => am_let (zr P_8 14 none) (fun (P_9 : am_PT) => am_let (zr I_7 14 0) (fun (I_10 : am_IT) => am_let (up2 P_9 11 4 (some 14)) (fun (P_11 : am_PT) => some (P_11, I_10))))))))))))
set_option maxRecDepth 100000 in
set_option maxHeartbeats 4000000 in
theorem s_X6_init_11 {l : Launch} {d : Nat} (hd : 1 ≤ d) {P : am_PT} {I : am_IT} {P2 : am_PT} {I2 : am_IT} (hF : F_X6_init_11 P I = some (P2, I2)) : am_C l d 3 432 mX6_init [.ref 11] 12 P I (am_qa 15 P2 I2) := by
  refine am_body (sc := am_sc0) (n := 0) (by decide +kernel) (by decide) rfl ?_
  change G am_sc0 l d 3 432 mX6_init (am_qa 15 P2 I2) 0 [.ref 11] [] 12 P I 0 0
  unfold F_X6_init_11 at hF
  refine g_aload_n (pc := 0) dX6_init_0 rfl rfl ?_
  refine g_objInit (pc := 1) (k := 11) kl_X6_3 kz_oi kz_oc (Nat.le_trans (by decide) hd) (Nat.le_of_ble_eq_true rfl) dX6_init_1 ?_
  refine g_aload_n (pc := 4) dX6_init_4 rfl rfl ?_
  refine g_iconst (pc := 5) (v := (0 : Int32)) dX6_init_5 rfl ?_
  obtain ⟨I_1, e_I_1, hF⟩ := am_let_el hF
  refine n_putI (pc := 6) (k := 11) e_I_1 kf_X6_9 rfl rfl (by decide) dX6_init_6 ?_
  refine g_aload_n (pc := 9) dX6_init_9 rfl rfl ?_
  refine g_iconst (pc := 10) (v := (0 : Int32)) dX6_init_10 rfl ?_
  obtain ⟨I_2, e_I_2, hF⟩ := am_let_el hF
  refine n_putI (pc := 11) (k := 11) e_I_2 kf_X6_15 rfl rfl (by decide) dX6_init_11 ?_
  refine g_aload_n (pc := 14) dX6_init_14 rfl rfl ?_
  refine g_bipush (pc := 15) (v := (16 : Int32)) dX6_init_15 rfl ?_
  obtain ⟨P_3, e_P_3, hF⟩ := am_let_el hF
  obtain ⟨I_4, e_I_4, hF⟩ := am_let_el hF
  refine n_newa (pc := 17) (N := 12) (n := 16) e_P_3 e_I_4 rfl (by decide) (by decide) rfl (by decide) (by decide) (by decide) kz_arr dX6_init_17 ?_
  obtain ⟨P_5, e_P_5, hF⟩ := am_let_el hF
  refine n_putR (pc := 19) (k := 11) e_P_5 kf_X6_18 rfl rfl (by decide) (fun _ => rfl) dX6_init_19 ?_
  refine g_aload_n (pc := 22) dX6_init_22 rfl rfl ?_
  refine g_bipush (pc := 23) (v := (16 : Int32)) dX6_init_23 rfl ?_
  obtain ⟨P_6, e_P_6, hF⟩ := am_let_el hF
  obtain ⟨I_7, e_I_7, hF⟩ := am_let_el hF
  refine n_newa (pc := 25) (N := 13) (n := 16) e_P_6 e_I_7 rfl (by decide) (by decide) rfl (by decide) (by decide) (by decide) kz_arr dX6_init_25 ?_
  obtain ⟨P_8, e_P_8, hF⟩ := am_let_el hF
  refine n_putR (pc := 27) (k := 11) e_P_8 kf_X6_22 rfl rfl (by decide) (fun _ => rfl) dX6_init_27 ?_
  refine g_aload_n (pc := 30) dX6_init_30 rfl rfl ?_
  refine g_sipush (pc := 31) (v := (400 : Int32)) dX6_init_31 rfl ?_
  obtain ⟨P_9, e_P_9, hF⟩ := am_let_el hF
  obtain ⟨I_10, e_I_10, hF⟩ := am_let_el hF
  refine n_newa (pc := 34) (N := 14) (n := 400) e_P_9 e_I_10 rfl (by decide) (by decide) rfl (by decide) (by decide) (by decide) kz_arr dX6_init_34 ?_
  obtain ⟨P_11, e_P_11, hF⟩ := am_let_el hF
  refine n_putR (pc := 36) (k := 11) e_P_11 kf_X6_25 rfl rfl (by decide) (fun _ => rfl) dX6_init_36 ?_
  cases hF
  exact g_vret (pc := 39) rfl (by decide) (by decide) dX6_init_39 ⟨rfl, rfl, rfl, rfl⟩
set_option maxRecDepth 100000 in
def F_X1_init_15 (P : am_PT) (I : am_IT) : Option (am_PT × am_IT) := am_let (up2 I 15 0 (0 : Int32)) (fun (I_1 : am_IT) => am_let (zr P 16 none) (fun (P_2 : am_PT) => am_let (zr I_1 16 0) (fun (I_3 : am_IT) => am_let (up2 P_2 15 1 (some 16)) (fun (P_4 : am_PT) => am_let (zr P_4 17 none) (fun (P_5 : am_PT) => am_let (zr I_3 17 0) (fun (I_6 : am_IT) => am_let (up2 P_5 15 2 (some 17)) (fun (P_7 : am_PT) => some (P_7, I_6))))))))
set_option maxRecDepth 100000 in
set_option maxHeartbeats 4000000 in
theorem s_X1_init_15 {l : Launch} {d : Nat} (hd : 1 ≤ d) {P : am_PT} {I : am_IT} {P2 : am_PT} {I2 : am_IT} (hF : F_X1_init_15 P I = some (P2, I2)) : am_C l d 2 128 mX1_init [.ref 15] 16 P I (am_qa 18 P2 I2) := by
  refine am_body (sc := am_sc0) (n := 0) (by decide +kernel) (by decide) rfl ?_
  change G am_sc0 l d 2 128 mX1_init (am_qa 18 P2 I2) 0 [.ref 15] [] 16 P I 0 0
  unfold F_X1_init_15 at hF
  refine g_aload_n (pc := 0) dX1_init_0 rfl rfl ?_
  refine g_objInit (pc := 1) (k := 15) kl_X1_3 kz_oi kz_oc (Nat.le_trans (by decide) hd) (Nat.le_of_ble_eq_true rfl) dX1_init_1 ?_
  refine g_aload_n (pc := 4) dX1_init_4 rfl rfl ?_
  refine g_iconst (pc := 5) (v := (0 : Int32)) dX1_init_5 rfl ?_
  obtain ⟨I_1, e_I_1, hF⟩ := am_let_el hF
  refine n_putI (pc := 6) (k := 15) e_I_1 kf_X1_9 rfl rfl (by decide) dX1_init_6 ?_
  refine g_aload_n (pc := 9) dX1_init_9 rfl rfl ?_
  refine g_bipush (pc := 10) (v := (112 : Int32)) dX1_init_10 rfl ?_
  obtain ⟨P_2, e_P_2, hF⟩ := am_let_el hF
  obtain ⟨I_3, e_I_3, hF⟩ := am_let_el hF
  refine n_newa (pc := 12) (N := 16) (n := 112) e_P_2 e_I_3 rfl (by decide) (by decide) rfl (by decide) (by decide) (by decide) kz_arr dX1_init_12 ?_
  obtain ⟨P_4, e_P_4, hF⟩ := am_let_el hF
  refine n_putR (pc := 14) (k := 15) e_P_4 kf_X1_15 rfl rfl (by decide) (fun _ => rfl) dX1_init_14 ?_
  refine g_aload_n (pc := 17) dX1_init_17 rfl rfl ?_
  refine g_bipush (pc := 18) (v := (16 : Int32)) dX1_init_18 rfl ?_
  obtain ⟨P_5, e_P_5, hF⟩ := am_let_el hF
  obtain ⟨I_6, e_I_6, hF⟩ := am_let_el hF
  refine n_newa (pc := 20) (N := 17) (n := 16) e_P_5 e_I_6 rfl (by decide) (by decide) rfl (by decide) (by decide) (by decide) kz_arr dX1_init_20 ?_
  obtain ⟨P_7, e_P_7, hF⟩ := am_let_el hF
  refine n_putR (pc := 22) (k := 15) e_P_7 kf_X1_19 rfl rfl (by decide) (fun _ => rfl) dX1_init_22 ?_
  cases hF
  exact g_vret (pc := 25) rfl (by decide) (by decide) dX1_init_25 ⟨rfl, rfl, rfl, rfl⟩
set_option maxRecDepth 100000 in
def F_X5_init_18 (P : am_PT) (I : am_IT) : Option (am_PT × am_IT) := am_let (zr P 19 none) (fun (P_1 : am_PT) => am_let (zr I 19 0) (fun (I_2 : am_IT) => am_let (up2 P_1 18 0 (some 19)) (fun (P_3 : am_PT) => am_let (zr P_3 20 none) (fun (P_4 : am_PT) => am_let (zr I_2 20 0) (fun (I_5 : am_IT) => am_let (up2 P_4 18 1 (some 20)) (fun (P_6 : am_PT) => am_let (zr P_6 21 none) (fun (P_7 : am_PT) => am_let (zr I_5 21 0) (fun (I_8 : am_IT) => am_let (up2 P_7 18 2 (some 21)) (fun (P_9 : am_PT) => am_let (zr P_9 22 none) (fun (P_10 : am_PT) => am_let (zr I_8 22 0) (fun (I_11 : am_IT) => am_let (up2 P_10 18 3 (some 22)) (fun (P_12 : am_PT) => am_let (up2 I_11 18 4 (0 : Int32)) (fun (I_13 : am_IT) => am_let (up2 I_13 18 5 (0 : Int32)) (fun (I_14 : am_IT) => am_let (up2 I_14 18 6 (-1 : Int32)) (fun (I_15 : am_IT) => am_let (up2 I_15 18 7 (0 : Int32)) (fun (I_16 : am_IT) => some (P_12, I_16)))))))))))))))))
set_option maxRecDepth 100000 in
set_option maxHeartbeats 4000000 in
theorem s_X5_init_18 {l : Launch} {d : Nat} (hd : 1 ≤ d) {P : am_PT} {I : am_IT} {P2 : am_PT} {I2 : am_IT} (hF : F_X5_init_18 P I = some (P2, I2)) : am_C l d 4 108 mX5_init [.ref 18] 19 P I (am_qa 23 P2 I2) := by
  refine am_body (sc := am_sc0) (n := 0) (by decide +kernel) (by decide) rfl ?_
  change G am_sc0 l d 4 108 mX5_init (am_qa 23 P2 I2) 0 [.ref 18] [] 19 P I 0 0
  unfold F_X5_init_18 at hF
  refine g_aload_n (pc := 0) dX5_init_0 rfl rfl ?_
  refine g_objInit (pc := 1) (k := 18) kl_X5_3 kz_oi kz_oc (Nat.le_trans (by decide) hd) (Nat.le_of_ble_eq_true rfl) dX5_init_1 ?_
  refine g_aload_n (pc := 4) dX5_init_4 rfl rfl ?_
  refine g_bipush (pc := 5) (v := (9 : Int32)) dX5_init_5 rfl ?_
  obtain ⟨P_1, e_P_1, hF⟩ := am_let_el hF
  obtain ⟨I_2, e_I_2, hF⟩ := am_let_el hF
  refine n_newa (pc := 7) (N := 19) (n := 9) e_P_1 e_I_2 rfl (by decide) (by decide) rfl (by decide) (by decide) (by decide) kz_arr dX5_init_7 ?_
  obtain ⟨P_3, e_P_3, hF⟩ := am_let_el hF
  refine n_putR (pc := 9) (k := 18) e_P_3 kf_X5_9 rfl rfl (by decide) (fun _ => rfl) dX5_init_9 ?_
  refine g_aload_n (pc := 12) dX5_init_12 rfl rfl ?_
  refine g_bipush (pc := 13) (v := (81 : Int32)) dX5_init_13 rfl ?_
  obtain ⟨P_4, e_P_4, hF⟩ := am_let_el hF
  obtain ⟨I_5, e_I_5, hF⟩ := am_let_el hF
  refine n_newa (pc := 15) (N := 20) (n := 81) e_P_4 e_I_5 rfl (by decide) (by decide) rfl (by decide) (by decide) (by decide) kz_arr dX5_init_15 ?_
  obtain ⟨P_6, e_P_6, hF⟩ := am_let_el hF
  refine n_putR (pc := 17) (k := 18) e_P_6 kf_X5_15 rfl rfl (by decide) (fun _ => rfl) dX5_init_17 ?_
  refine g_aload_n (pc := 20) dX5_init_20 rfl rfl ?_
  refine g_bipush (pc := 21) (v := (9 : Int32)) dX5_init_21 rfl ?_
  obtain ⟨P_7, e_P_7, hF⟩ := am_let_el hF
  obtain ⟨I_8, e_I_8, hF⟩ := am_let_el hF
  refine n_newa (pc := 23) (N := 21) (n := 9) e_P_7 e_I_8 rfl (by decide) (by decide) rfl (by decide) (by decide) (by decide) kz_arr dX5_init_23 ?_
  obtain ⟨P_9, e_P_9, hF⟩ := am_let_el hF
  refine n_putR (pc := 25) (k := 18) e_P_9 kf_X5_18 rfl rfl (by decide) (fun _ => rfl) dX5_init_25 ?_
  refine g_aload_n (pc := 28) dX5_init_28 rfl rfl ?_
  refine g_bipush (pc := 29) (v := (9 : Int32)) dX5_init_29 rfl ?_
  obtain ⟨P_10, e_P_10, hF⟩ := am_let_el hF
  obtain ⟨I_11, e_I_11, hF⟩ := am_let_el hF
  refine n_newa (pc := 31) (N := 22) (n := 9) e_P_10 e_I_11 rfl (by decide) (by decide) rfl (by decide) (by decide) (by decide) kz_arr dX5_init_31 ?_
  obtain ⟨P_12, e_P_12, hF⟩ := am_let_el hF
  refine n_putR (pc := 33) (k := 18) e_P_12 kf_X5_21 rfl rfl (by decide) (fun _ => rfl) dX5_init_33 ?_
  refine g_aload_n (pc := 36) dX5_init_36 rfl rfl ?_
  refine g_iconst (pc := 37) (v := (0 : Int32)) dX5_init_37 rfl ?_
  obtain ⟨I_13, e_I_13, hF⟩ := am_let_el hF
  refine n_putI (pc := 38) (k := 18) e_I_13 kf_X5_24 rfl rfl (by decide) dX5_init_38 ?_
  refine g_aload_n (pc := 41) dX5_init_41 rfl rfl ?_
  refine g_iconst (pc := 42) (v := (0 : Int32)) dX5_init_42 rfl ?_
  obtain ⟨I_14, e_I_14, hF⟩ := am_let_el hF
  refine n_putI (pc := 43) (k := 18) e_I_14 kf_X5_28 rfl rfl (by decide) dX5_init_43 ?_
  refine g_aload_n (pc := 46) dX5_init_46 rfl rfl ?_
  refine g_iconst (pc := 47) (v := (-1 : Int32)) dX5_init_47 (by decide) ?_
  obtain ⟨I_15, e_I_15, hF⟩ := am_let_el hF
  refine n_putI (pc := 48) (k := 18) e_I_15 kf_X5_31 rfl rfl (by decide) dX5_init_48 ?_
  refine g_aload_n (pc := 51) dX5_init_51 rfl rfl ?_
  refine g_iconst (pc := 52) (v := (0 : Int32)) dX5_init_52 rfl ?_
  obtain ⟨I_16, e_I_16, hF⟩ := am_let_el hF
  refine n_putI (pc := 53) (k := 18) e_I_16 kf_X5_34 rfl rfl (by decide) dX5_init_53 ?_
  cases hF
  exact g_vret (pc := 56) rfl (by decide) (by decide) dX5_init_56 ⟨rfl, rfl, rfl, rfl⟩
set_option maxRecDepth 100000 in
def F_X9_init_1 (P : am_PT) (I : am_IT) : Option (am_PT × am_IT) := am_let (up2 I 1 0 (3 : Int32)) (fun (I_1 : am_IT) => am_let (up2 I_1 1 1 (0 : Int32)) (fun (I_2 : am_IT) => am_let (up2 I_2 1 2 (0 : Int32)) (fun (I_3 : am_IT) => am_let (up2 I_3 1 3 (0 : Int32)) (fun (I_4 : am_IT) => am_let (up2 I_4 1 4 (0 : Int32)) (fun (I_5 : am_IT) => am_let (up2 I_5 1 5 (0 : Int32)) (fun (I_6 : am_IT) => am_let (zr P 2 none) (fun (P_7 : am_PT) => am_let (zr I_6 2 0) (fun (I_8 : am_IT) => am_let (up2 P_7 1 6 (some 2)) (fun (P_9 : am_PT) => am_let (zr P_9 3 none) (fun (P_10 : am_PT) => am_let (zr I_8 3 0) (fun (I_11 : am_IT) => am_let (up2 P_10 1 7 (some 3)) (fun (P_12 : am_PT) => am_let (zr P_12 4 none) (fun (P_13 : am_PT) => am_let (zr I_11 4 0) (fun (I_14 : am_IT) => am_let (up2 P_13 1 8 (some 4)) (fun (P_15 : am_PT) => am_let (zr P_15 5 none) (fun (P_16 : am_PT) => am_let (zr I_14 5 0) (fun (I_17 : am_IT) => am_let (up2 P_16 1 9 (some 5)) (fun (P_18 : am_PT) => am_let (zr P_18 6 none) (fun (P_19 : am_PT) => am_let (zr I_17 6 0) (fun (I_20 : am_IT) => am_let (up2 P_19 1 10 (some 6)) (fun (P_21 : am_PT) => am_let (zr P_21 7 none) (fun (P_22 : am_PT) => am_let (zr I_20 7 0) (fun (I_23 : am_IT) => am_let (up2 P_22 1 11 (some 7)) (fun (P_24 : am_PT) => am_let (zr P_24 8 none) (fun (P_25 : am_PT) => am_let (zr I_23 8 0) (fun (I_26 : am_IT) => am_let (up2 P_25 1 12 (some 8)) (fun (P_27 : am_PT) => am_let (zr P_27 9 none) (fun (P_28 : am_PT) => am_let (zr I_26 9 0) (fun (I_29 : am_IT) => am_let (up2 P_28 1 13 (some 9)) (fun (P_30 : am_PT) => am_let (zr P_30 10 none) (fun (P_31 : am_PT) => am_let (zr I_29 10 0) (fun (I_32 : am_IT) => am_let (up2 P_31 1 14 (some 10)) (fun (P_33 : am_PT) => am_let (zr P_33 11 none) (fun (P_34 : am_PT) => am_let (zr I_32 11 0) (fun (I_35 : am_IT) => am_b2 (F_X6_init_11 P_34 I_35) (fun (P_37 : am_PT) (I_38 : am_IT) => am_let (up2 P_37 1 15 (some 11)) (fun (P_39 : am_PT) => am_let (zr P_39 15 none) (fun (P_40 : am_PT) => am_let (zr I_38 15 0) (fun (I_41 : am_IT) => am_b2 (F_X1_init_15 P_40 I_41) (fun (P_43 : am_PT) (I_44 : am_IT) => am_let (up2 P_43 1 16 (some 15)) (fun (P_45 : am_PT) => am_let (zr P_45 18 none) (fun (P_46 : am_PT) => am_let (zr I_44 18 0) (fun (I_47 : am_IT) => am_b2 (F_X5_init_18 P_46 I_47) (fun (P_49 : am_PT) (I_50 : am_IT) => am_let (up2 P_49 1 17 (some 18)) (fun (P_51 : am_PT) => some (P_51, I_50))))))))))))))))))))))))))))))))))))))))))))))
set_option maxRecDepth 100000 in
set_option maxHeartbeats 4000000 in
theorem s_X9_init_1 {l : Launch} {d : Nat} (hd : 2 ≤ d) {P : am_PT} {I : am_IT} {P2 : am_PT} {I2 : am_IT} (hF : F_X9_init_1 P I = some (P2, I2)) : am_C l d 21 930 mX9_init [.ref 1] 2 P I (am_qa 23 P2 I2) := by
  refine am_body (sc := am_sc0) (n := 0) (by decide +kernel) (by decide) rfl ?_
  change G am_sc0 l d 21 930 mX9_init (am_qa 23 P2 I2) 0 [.ref 1] [] 2 P I 0 0
  unfold F_X9_init_1 at hF
  refine g_aload_n (pc := 0) dX9_init_0 rfl rfl ?_
  refine g_objInit (pc := 1) (k := 1) kl_X9_3 kz_oi kz_oc (Nat.le_trans (by decide) hd) (Nat.le_of_ble_eq_true rfl) dX9_init_1 ?_
  refine g_aload_n (pc := 4) dX9_init_4 rfl rfl ?_
  refine g_iconst (pc := 5) (v := (3 : Int32)) dX9_init_5 rfl ?_
  obtain ⟨I_1, e_I_1, hF⟩ := am_let_el hF
  refine n_putI (pc := 6) (k := 1) e_I_1 kf_X9_9 rfl rfl (by decide) dX9_init_6 ?_
  refine g_aload_n (pc := 9) dX9_init_9 rfl rfl ?_
  refine g_iconst (pc := 10) (v := (0 : Int32)) dX9_init_10 rfl ?_
  obtain ⟨I_2, e_I_2, hF⟩ := am_let_el hF
  refine n_putI (pc := 11) (k := 1) e_I_2 kf_X9_15 rfl rfl (by decide) dX9_init_11 ?_
  refine g_aload_n (pc := 14) dX9_init_14 rfl rfl ?_
  refine g_iconst (pc := 15) (v := (0 : Int32)) dX9_init_15 rfl ?_
  obtain ⟨I_3, e_I_3, hF⟩ := am_let_el hF
  refine n_putI (pc := 16) (k := 1) e_I_3 kf_X9_18 rfl rfl (by decide) dX9_init_16 ?_
  refine g_aload_n (pc := 19) dX9_init_19 rfl rfl ?_
  refine g_iconst (pc := 20) (v := (0 : Int32)) dX9_init_20 rfl ?_
  obtain ⟨I_4, e_I_4, hF⟩ := am_let_el hF
  refine n_putI (pc := 21) (k := 1) e_I_4 kf_X9_21 rfl rfl (by decide) dX9_init_21 ?_
  refine g_aload_n (pc := 24) dX9_init_24 rfl rfl ?_
  refine g_iconst (pc := 25) (v := (0 : Int32)) dX9_init_25 rfl ?_
  obtain ⟨I_5, e_I_5, hF⟩ := am_let_el hF
  refine n_putI (pc := 26) (k := 1) e_I_5 kf_X9_24 rfl rfl (by decide) dX9_init_26 ?_
  refine g_aload_n (pc := 29) dX9_init_29 rfl rfl ?_
  refine g_iconst (pc := 30) (v := (0 : Int32)) dX9_init_30 rfl ?_
  obtain ⟨I_6, e_I_6, hF⟩ := am_let_el hF
  refine n_putI (pc := 31) (k := 1) e_I_6 kf_X9_27 rfl rfl (by decide) dX9_init_31 ?_
  refine g_aload_n (pc := 34) dX9_init_34 rfl rfl ?_
  refine g_iconst (pc := 35) (v := (4 : Int32)) dX9_init_35 rfl ?_
  obtain ⟨P_7, e_P_7, hF⟩ := am_let_el hF
  obtain ⟨I_8, e_I_8, hF⟩ := am_let_el hF
  refine n_newa (pc := 36) (N := 2) (n := 4) e_P_7 e_I_8 rfl (by decide) (by decide) rfl (by decide) (by decide) (by decide) kz_arr dX9_init_36 ?_
  obtain ⟨P_9, e_P_9, hF⟩ := am_let_el hF
  refine n_putR (pc := 38) (k := 1) e_P_9 kf_X9_30 rfl rfl (by decide) (fun _ => rfl) dX9_init_38 ?_
  refine g_aload_n (pc := 41) dX9_init_41 rfl rfl ?_
  refine g_bipush (pc := 42) (v := (7 : Int32)) dX9_init_42 rfl ?_
  obtain ⟨P_10, e_P_10, hF⟩ := am_let_el hF
  obtain ⟨I_11, e_I_11, hF⟩ := am_let_el hF
  refine n_newa (pc := 44) (N := 3) (n := 7) e_P_10 e_I_11 rfl (by decide) (by decide) rfl (by decide) (by decide) (by decide) kz_arr dX9_init_44 ?_
  obtain ⟨P_12, e_P_12, hF⟩ := am_let_el hF
  refine n_putR (pc := 46) (k := 1) e_P_12 kf_X9_34 rfl rfl (by decide) (fun _ => rfl) dX9_init_46 ?_
  refine g_aload_n (pc := 49) dX9_init_49 rfl rfl ?_
  refine g_bipush (pc := 50) (v := (7 : Int32)) dX9_init_50 rfl ?_
  obtain ⟨P_13, e_P_13, hF⟩ := am_let_el hF
  obtain ⟨I_14, e_I_14, hF⟩ := am_let_el hF
  refine n_newa (pc := 52) (N := 4) (n := 7) e_P_13 e_I_14 rfl (by decide) (by decide) rfl (by decide) (by decide) (by decide) kz_arr dX9_init_52 ?_
  obtain ⟨P_15, e_P_15, hF⟩ := am_let_el hF
  refine n_putR (pc := 54) (k := 1) e_P_15 kf_X9_37 rfl rfl (by decide) (fun _ => rfl) dX9_init_54 ?_
  refine g_aload_n (pc := 57) dX9_init_57 rfl rfl ?_
  refine g_bipush (pc := 58) (v := (56 : Int32)) dX9_init_58 rfl ?_
  obtain ⟨P_16, e_P_16, hF⟩ := am_let_el hF
  obtain ⟨I_17, e_I_17, hF⟩ := am_let_el hF
  refine n_newa (pc := 60) (N := 5) (n := 56) e_P_16 e_I_17 rfl (by decide) (by decide) rfl (by decide) (by decide) (by decide) kz_arr dX9_init_60 ?_
  obtain ⟨P_18, e_P_18, hF⟩ := am_let_el hF
  refine n_putR (pc := 62) (k := 1) e_P_18 kf_X9_40 rfl rfl (by decide) (fun _ => rfl) dX9_init_62 ?_
  refine g_aload_n (pc := 65) dX9_init_65 rfl rfl ?_
  refine g_bipush (pc := 66) (v := (60 : Int32)) dX9_init_66 rfl ?_
  obtain ⟨P_19, e_P_19, hF⟩ := am_let_el hF
  obtain ⟨I_20, e_I_20, hF⟩ := am_let_el hF
  refine n_newa (pc := 68) (N := 6) (n := 60) e_P_19 e_I_20 rfl (by decide) (by decide) rfl (by decide) (by decide) (by decide) kz_arr dX9_init_68 ?_
  obtain ⟨P_21, e_P_21, hF⟩ := am_let_el hF
  refine n_putR (pc := 70) (k := 1) e_P_21 kf_X9_43 rfl rfl (by decide) (fun _ => rfl) dX9_init_70 ?_
  refine g_aload_n (pc := 73) dX9_init_73 rfl rfl ?_
  refine g_bipush (pc := 74) (v := (28 : Int32)) dX9_init_74 rfl ?_
  obtain ⟨P_22, e_P_22, hF⟩ := am_let_el hF
  obtain ⟨I_23, e_I_23, hF⟩ := am_let_el hF
  refine n_newa (pc := 76) (N := 7) (n := 28) e_P_22 e_I_23 rfl (by decide) (by decide) rfl (by decide) (by decide) (by decide) kz_arr dX9_init_76 ?_
  obtain ⟨P_24, e_P_24, hF⟩ := am_let_el hF
  refine n_putR (pc := 78) (k := 1) e_P_24 kf_X9_46 rfl rfl (by decide) (fun _ => rfl) dX9_init_78 ?_
  refine g_aload_n (pc := 81) dX9_init_81 rfl rfl ?_
  refine g_bipush (pc := 82) (v := (28 : Int32)) dX9_init_82 rfl ?_
  obtain ⟨P_25, e_P_25, hF⟩ := am_let_el hF
  obtain ⟨I_26, e_I_26, hF⟩ := am_let_el hF
  refine n_newa (pc := 84) (N := 8) (n := 28) e_P_25 e_I_26 rfl (by decide) (by decide) rfl (by decide) (by decide) (by decide) kz_arr dX9_init_84 ?_
  obtain ⟨P_27, e_P_27, hF⟩ := am_let_el hF
  refine n_putR (pc := 86) (k := 1) e_P_27 kf_X9_49 rfl rfl (by decide) (fun _ => rfl) dX9_init_86 ?_
  refine g_aload_n (pc := 89) dX9_init_89 rfl rfl ?_
  refine g_bipush (pc := 90) (v := (7 : Int32)) dX9_init_90 rfl ?_
  obtain ⟨P_28, e_P_28, hF⟩ := am_let_el hF
  obtain ⟨I_29, e_I_29, hF⟩ := am_let_el hF
  refine n_newa (pc := 92) (N := 9) (n := 7) e_P_28 e_I_29 rfl (by decide) (by decide) rfl (by decide) (by decide) (by decide) kz_arr dX9_init_92 ?_
  obtain ⟨P_30, e_P_30, hF⟩ := am_let_el hF
  refine n_putR (pc := 94) (k := 1) e_P_30 kf_X9_52 rfl rfl (by decide) (fun _ => rfl) dX9_init_94 ?_
  refine g_aload_n (pc := 97) dX9_init_97 rfl rfl ?_
  refine g_bipush (pc := 98) (v := (49 : Int32)) dX9_init_98 rfl ?_
  obtain ⟨P_31, e_P_31, hF⟩ := am_let_el hF
  obtain ⟨I_32, e_I_32, hF⟩ := am_let_el hF
  refine n_newa (pc := 100) (N := 10) (n := 49) e_P_31 e_I_32 rfl (by decide) (by decide) rfl (by decide) (by decide) (by decide) kz_arr dX9_init_100 ?_
  obtain ⟨P_33, e_P_33, hF⟩ := am_let_el hF
  refine n_putR (pc := 102) (k := 1) e_P_33 kf_X9_55 rfl rfl (by decide) (fun _ => rfl) dX9_init_102 ?_
  refine g_aload_n (pc := 105) dX9_init_105 rfl rfl ?_
  obtain ⟨P_34, e_P_34, hF⟩ := am_let_el hF
  obtain ⟨I_35, e_I_35, hF⟩ := am_let_el hF
  refine n_new (pc := 106) (N := 11) e_P_34 e_I_35 kn_X9_58 rfl (by decide) (by decide) (by decide) dX9_init_106 ?_
  refine g_dup (pc := 109) dX9_init_109 ?_
  obtain ⟨P_37, I_38, h_36, hF⟩ := am_b2_el hF
  refine g_callIN (pc := 110) (k := 11) (As := []) (st := [.ref 11, .ref 1]) ky_X6_init (show (_, _, _, "PaintedByOthers") ∈ am_nest by decide +kernel) (s_X6_init_11 (d := 1) (Nat.le_refl _) h_36) rfl rfl (Nat.le_trans (by decide) hd) (Nat.le_of_ble_eq_true rfl) (by decide) (by decide) dX9_init_110 ?_
  rintro _ _ _ _ ⟨rfl, rfl, rfl, rfl⟩
  obtain ⟨P_39, e_P_39, hF⟩ := am_let_el hF
  refine n_putR (pc := 113) (k := 1) e_P_39 kf_X9_61 rfl rfl (by decide) (fun _ => rfl) dX9_init_113 ?_
  refine g_aload_n (pc := 116) dX9_init_116 rfl rfl ?_
  obtain ⟨P_40, e_P_40, hF⟩ := am_let_el hF
  obtain ⟨I_41, e_I_41, hF⟩ := am_let_el hF
  refine n_new (pc := 117) (N := 15) e_P_40 e_I_41 kn_X9_65 rfl (by decide) (by decide) (by decide) dX9_init_117 ?_
  refine g_dup (pc := 120) dX9_init_120 ?_
  obtain ⟨P_43, I_44, h_42, hF⟩ := am_b2_el hF
  refine g_callIN (pc := 121) (k := 15) (As := []) (st := [.ref 15, .ref 1]) ky_X1_init (show (_, _, _, "PaintedByOthers") ∈ am_nest by decide +kernel) (s_X1_init_15 (d := 1) (Nat.le_refl _) h_42) rfl rfl (Nat.le_trans (by decide) hd) (Nat.le_of_ble_eq_true rfl) (by decide) (by decide) dX9_init_121 ?_
  rintro _ _ _ _ ⟨rfl, rfl, rfl, rfl⟩
  obtain ⟨P_45, e_P_45, hF⟩ := am_let_el hF
  refine n_putR (pc := 124) (k := 1) e_P_45 kf_X9_68 rfl rfl (by decide) (fun _ => rfl) dX9_init_124 ?_
  refine g_aload_n (pc := 127) dX9_init_127 rfl rfl ?_
  obtain ⟨P_46, e_P_46, hF⟩ := am_let_el hF
  obtain ⟨I_47, e_I_47, hF⟩ := am_let_el hF
  refine n_new (pc := 128) (N := 18) e_P_46 e_I_47 kn_X9_72 rfl (by decide) (by decide) (by decide) dX9_init_128 ?_
  refine g_dup (pc := 131) dX9_init_131 ?_
  obtain ⟨P_49, I_50, h_48, hF⟩ := am_b2_el hF
  refine g_callIN (pc := 132) (k := 18) (As := []) (st := [.ref 18, .ref 1]) ky_X5_init (show (_, _, _, "PaintedByOthers") ∈ am_nest by decide +kernel) (s_X5_init_18 (d := 1) (Nat.le_refl _) h_48) rfl rfl (Nat.le_trans (by decide) hd) (Nat.le_of_ble_eq_true rfl) (by decide) (by decide) dX9_init_132 ?_
  rintro _ _ _ _ ⟨rfl, rfl, rfl, rfl⟩
  obtain ⟨P_51, e_P_51, hF⟩ := am_let_el hF
  refine n_putR (pc := 135) (k := 1) e_P_51 kf_X9_75 rfl rfl (by decide) (fun _ => rfl) dX9_init_135 ?_
  cases hF
  exact g_vret (pc := 138) rfl (by decide) (by decide) dX9_init_138 ⟨rfl, rfl, rfl, rfl⟩
set_option maxRecDepth 100000 in
def F_X8_init_23_1 (P : am_PT) (I : am_IT) : Option (am_PT × am_IT) := am_let (zr P 24 none) (fun (P_1 : am_PT) => am_let (zr I 24 0) (fun (I_2 : am_IT) => am_let (up2 P_1 23 1 (some 24)) (fun (P_3 : am_PT) => am_let (up2 P_3 23 0 (some 1)) (fun (P_4 : am_PT) => some (P_4, I_2)))))
set_option maxRecDepth 100000 in
set_option maxHeartbeats 4000000 in
theorem s_X8_init_23_1 {l : Launch} {d : Nat} (hd : 1 ≤ d) {P : am_PT} {I : am_IT} {P2 : am_PT} {I2 : am_IT} (hF : F_X8_init_23_1 P I = some (P2, I2)) : am_C l d 1 56 mX8_init [.ref 23, .ref 1] 24 P I (am_qa 25 P2 I2) := by
  refine am_body (sc := am_sc0) (n := 0) (by decide +kernel) (by decide) rfl ?_
  change G am_sc0 l d 1 56 mX8_init (am_qa 25 P2 I2) 0 [.ref 23, .ref 1] [] 24 P I 0 0
  unfold F_X8_init_23_1 at hF
  refine g_aload_n (pc := 0) dX8_init_0 rfl rfl ?_
  refine g_objInit (pc := 1) (k := 23) kl_X8_3 kz_oi kz_oc (Nat.le_trans (by decide) hd) (Nat.le_of_ble_eq_true rfl) dX8_init_1 ?_
  refine g_aload_n (pc := 4) dX8_init_4 rfl rfl ?_
  refine g_bipush (pc := 5) (v := (56 : Int32)) dX8_init_5 rfl ?_
  obtain ⟨P_1, e_P_1, hF⟩ := am_let_el hF
  obtain ⟨I_2, e_I_2, hF⟩ := am_let_el hF
  refine n_newa (pc := 7) (N := 24) (n := 56) e_P_1 e_I_2 rfl (by decide) (by decide) rfl (by decide) (by decide) (by decide) kz_arr dX8_init_7 ?_
  obtain ⟨P_3, e_P_3, hF⟩ := am_let_el hF
  refine n_putR (pc := 9) (k := 23) e_P_3 kf_X8_9 rfl rfl (by decide) (fun _ => rfl) dX8_init_9 ?_
  refine g_aload_n (pc := 12) dX8_init_12 rfl rfl ?_
  refine g_aload_n (pc := 13) dX8_init_13 rfl rfl ?_
  obtain ⟨P_4, e_P_4, hF⟩ := am_let_el hF
  refine n_putR (pc := 14) (k := 23) e_P_4 kf_X8_15 rfl rfl (by decide) (fun _ => rfl) dX8_init_14 ?_
  cases hF
  exact g_vret (pc := 17) rfl (by decide) (by decide) dX8_init_17 ⟨rfl, rfl, rfl, rfl⟩
set_option maxRecDepth 100000 in
def F_X2_init_25_1_23 (P : am_PT) (I : am_IT) : Option (am_PT × am_IT) := am_let (zr P 26 none) (fun (P_1 : am_PT) => am_let (zr I 26 0) (fun (I_2 : am_IT) => am_let (up2 P_1 25 0 (some 26)) (fun (P_3 : am_PT) => am_let (up2 I_2 25 1 (-1 : Int32)) (fun (I_4 : am_IT) => am_let (up2 I_4 25 2 (0 : Int32)) (fun (I_5 : am_IT) => am_let (zr P_3 27 none) (fun (P_6 : am_PT) => am_let (zr I_5 27 0) (fun (I_7 : am_IT) => am_let (up2 P_6 25 5 (some 27)) (fun (P_8 : am_PT) => am_let (zr P_8 28 none) (fun (P_9 : am_PT) => am_let (zr I_7 28 0) (fun (I_10 : am_IT) => am_let (up2 P_9 25 6 (some 28)) (fun (P_11 : am_PT) => am_let (zr P_11 29 none) (fun (P_12 : am_PT) => am_let (zr I_10 29 0) (fun (I_13 : am_IT) => am_let (up2 P_12 25 7 (some 29)) (fun (P_14 : am_PT) => am_let (up2 P_14 25 3 (some 1)) (fun (P_15 : am_PT) => am_let (up2 P_15 25 4 (some 23)) (fun (P_16 : am_PT) => some (P_16, I_13)))))))))))))))))
set_option maxRecDepth 100000 in
set_option maxHeartbeats 4000000 in
theorem s_X2_init_25_1_23 {l : Launch} {d : Nat} (hd : 1 ≤ d) {P : am_PT} {I : am_IT} {P2 : am_PT} {I2 : am_IT} (hF : F_X2_init_25_1_23 P I = some (P2, I2)) : am_C l d 4 73 mX2_init [.ref 25, .ref 1, .ref 23] 26 P I (am_qa 30 P2 I2) := by
  refine am_body (sc := am_sc0) (n := 0) (by decide +kernel) (by decide) rfl ?_
  change G am_sc0 l d 4 73 mX2_init (am_qa 30 P2 I2) 0 [.ref 25, .ref 1, .ref 23] [] 26 P I 0 0
  unfold F_X2_init_25_1_23 at hF
  refine g_aload_n (pc := 0) dX2_init_0 rfl rfl ?_
  refine g_objInit (pc := 1) (k := 25) kl_X2_3 kz_oi kz_oc (Nat.le_trans (by decide) hd) (Nat.le_of_ble_eq_true rfl) dX2_init_1 ?_
  refine g_aload_n (pc := 4) dX2_init_4 rfl rfl ?_
  refine g_bipush (pc := 5) (v := (7 : Int32)) dX2_init_5 rfl ?_
  obtain ⟨P_1, e_P_1, hF⟩ := am_let_el hF
  obtain ⟨I_2, e_I_2, hF⟩ := am_let_el hF
  refine n_newa (pc := 7) (N := 26) (n := 7) e_P_1 e_I_2 rfl (by decide) (by decide) rfl (by decide) (by decide) (by decide) kz_arr dX2_init_7 ?_
  obtain ⟨P_3, e_P_3, hF⟩ := am_let_el hF
  refine n_putR (pc := 9) (k := 25) e_P_3 kf_X2_9 rfl rfl (by decide) (fun _ => rfl) dX2_init_9 ?_
  refine g_aload_n (pc := 12) dX2_init_12 rfl rfl ?_
  refine g_iconst (pc := 13) (v := (-1 : Int32)) dX2_init_13 (by decide) ?_
  obtain ⟨I_4, e_I_4, hF⟩ := am_let_el hF
  refine n_putI (pc := 14) (k := 25) e_I_4 kf_X2_15 rfl rfl (by decide) dX2_init_14 ?_
  refine g_aload_n (pc := 17) dX2_init_17 rfl rfl ?_
  refine g_iconst (pc := 18) (v := (0 : Int32)) dX2_init_18 rfl ?_
  obtain ⟨I_5, e_I_5, hF⟩ := am_let_el hF
  refine n_putI (pc := 19) (k := 25) e_I_5 kf_X2_19 rfl rfl (by decide) dX2_init_19 ?_
  refine g_aload_n (pc := 22) dX2_init_22 rfl rfl ?_
  refine g_bipush (pc := 23) (v := (28 : Int32)) dX2_init_23 rfl ?_
  obtain ⟨P_6, e_P_6, hF⟩ := am_let_el hF
  obtain ⟨I_7, e_I_7, hF⟩ := am_let_el hF
  refine n_newa (pc := 25) (N := 27) (n := 28) e_P_6 e_I_7 rfl (by decide) (by decide) rfl (by decide) (by decide) (by decide) kz_arr dX2_init_25 ?_
  obtain ⟨P_8, e_P_8, hF⟩ := am_let_el hF
  refine n_putR (pc := 27) (k := 25) e_P_8 kf_X2_22 rfl rfl (by decide) (fun _ => rfl) dX2_init_27 ?_
  refine g_aload_n (pc := 30) dX2_init_30 rfl rfl ?_
  refine g_bipush (pc := 31) (v := (6 : Int32)) dX2_init_31 rfl ?_
  obtain ⟨P_9, e_P_9, hF⟩ := am_let_el hF
  obtain ⟨I_10, e_I_10, hF⟩ := am_let_el hF
  refine n_newa (pc := 33) (N := 28) (n := 6) e_P_9 e_I_10 rfl (by decide) (by decide) rfl (by decide) (by decide) (by decide) kz_arr dX2_init_33 ?_
  obtain ⟨P_11, e_P_11, hF⟩ := am_let_el hF
  refine n_putR (pc := 35) (k := 25) e_P_11 kf_X2_25 rfl rfl (by decide) (fun _ => rfl) dX2_init_35 ?_
  refine g_aload_n (pc := 38) dX2_init_38 rfl rfl ?_
  refine g_bipush (pc := 39) (v := (32 : Int32)) dX2_init_39 rfl ?_
  obtain ⟨P_12, e_P_12, hF⟩ := am_let_el hF
  obtain ⟨I_13, e_I_13, hF⟩ := am_let_el hF
  refine n_newa (pc := 41) (N := 29) (n := 32) e_P_12 e_I_13 rfl (by decide) (by decide) rfl (by decide) (by decide) (by decide) kz_arr dX2_init_41 ?_
  obtain ⟨P_14, e_P_14, hF⟩ := am_let_el hF
  refine n_putR (pc := 43) (k := 25) e_P_14 kf_X2_28 rfl rfl (by decide) (fun _ => rfl) dX2_init_43 ?_
  refine g_aload_n (pc := 46) dX2_init_46 rfl rfl ?_
  refine g_aload_n (pc := 47) dX2_init_47 rfl rfl ?_
  obtain ⟨P_15, e_P_15, hF⟩ := am_let_el hF
  refine n_putR (pc := 48) (k := 25) e_P_15 kf_X2_31 rfl rfl (by decide) (fun _ => rfl) dX2_init_48 ?_
  refine g_aload_n (pc := 51) dX2_init_51 rfl rfl ?_
  refine g_aload_n (pc := 52) dX2_init_52 rfl rfl ?_
  obtain ⟨P_16, e_P_16, hF⟩ := am_let_el hF
  refine n_putR (pc := 53) (k := 25) e_P_16 kf_X2_35 rfl rfl (by decide) (fun _ => rfl) dX2_init_53 ?_
  cases hF
  exact g_vret (pc := 56) rfl (by decide) (by decide) dX2_init_56 ⟨rfl, rfl, rfl, rfl⟩
set_option maxRecDepth 100000 in
def F_X0_init_30_1_23 (P : am_PT) (I : am_IT) : Option (am_PT × am_IT) := am_let (zr P 31 none) (fun (P_1 : am_PT) => am_let (zr I 31 0) (fun (I_2 : am_IT) => am_let (up2 P_1 30 0 (some 31)) (fun (P_3 : am_PT) => am_let (zr P_3 32 none) (fun (P_4 : am_PT) => am_let (zr I_2 32 0) (fun (I_5 : am_IT) => am_let (up2 P_4 30 3 (some 32)) (fun (P_6 : am_PT) => am_let (zr P_6 33 none) (fun (P_7 : am_PT) => am_let (zr I_5 33 0) (fun (I_8 : am_IT) => am_let (up2 P_7 30 4 (some 33)) (fun (P_9 : am_PT) => am_let (zr P_9 34 none) (fun (P_10 : am_PT) => am_let (zr I_8 34 0) (fun (I_11 : am_IT) => am_let (up2 P_10 30 5 (some 34)) (fun (P_12 : am_PT) => am_let (zr P_12 35 none) (fun (P_13 : am_PT) => am_let (zr I_11 35 0) (fun (I_14 : am_IT) => am_let (up2 P_13 30 6 (some 35)) (fun (P_15 : am_PT) => am_let (up2 I_14 30 7 (0 : Int32)) (fun (I_16 : am_IT) => am_let (up2 P_15 30 1 (some 1)) (fun (P_17 : am_PT) => am_let (up2 P_17 30 2 (some 23)) (fun (P_18 : am_PT) => some (P_18, I_16)))))))))))))))))))
set_option maxRecDepth 100000 in
set_option maxHeartbeats 4000000 in
theorem s_X0_init_30_1_23 {l : Launch} {d : Nat} (hd : 1 ≤ d) {P : am_PT} {I : am_IT} {P2 : am_PT} {I2 : am_IT} (hF : F_X0_init_30_1_23 P I = some (P2, I2)) : am_C l d 5 98 mX0_init [.ref 30, .ref 1, .ref 23] 31 P I (am_qa 36 P2 I2) := by
  refine am_body (sc := am_sc0) (n := 0) (by decide +kernel) (by decide) rfl ?_
  change G am_sc0 l d 5 98 mX0_init (am_qa 36 P2 I2) 0 [.ref 30, .ref 1, .ref 23] [] 31 P I 0 0
  unfold F_X0_init_30_1_23 at hF
  refine g_aload_n (pc := 0) dX0_init_0 rfl rfl ?_
  refine g_objInit (pc := 1) (k := 30) kl_X0_3 kz_oi kz_oc (Nat.le_trans (by decide) hd) (Nat.le_of_ble_eq_true rfl) dX0_init_1 ?_
  refine g_aload_n (pc := 4) dX0_init_4 rfl rfl ?_
  refine g_bipush (pc := 5) (v := (7 : Int32)) dX0_init_5 rfl ?_
  obtain ⟨P_1, e_P_1, hF⟩ := am_let_el hF
  obtain ⟨I_2, e_I_2, hF⟩ := am_let_el hF
  refine n_newa (pc := 7) (N := 31) (n := 7) e_P_1 e_I_2 rfl (by decide) (by decide) rfl (by decide) (by decide) (by decide) kz_arr dX0_init_7 ?_
  obtain ⟨P_3, e_P_3, hF⟩ := am_let_el hF
  refine n_putR (pc := 9) (k := 30) e_P_3 kf_X0_9 rfl rfl (by decide) (fun _ => rfl) dX0_init_9 ?_
  refine g_aload_n (pc := 12) dX0_init_12 rfl rfl ?_
  refine g_bipush (pc := 13) (v := (28 : Int32)) dX0_init_13 rfl ?_
  obtain ⟨P_4, e_P_4, hF⟩ := am_let_el hF
  obtain ⟨I_5, e_I_5, hF⟩ := am_let_el hF
  refine n_newa (pc := 15) (N := 32) (n := 28) e_P_4 e_I_5 rfl (by decide) (by decide) rfl (by decide) (by decide) (by decide) kz_arr dX0_init_15 ?_
  obtain ⟨P_6, e_P_6, hF⟩ := am_let_el hF
  refine n_putR (pc := 17) (k := 30) e_P_6 kf_X0_15 rfl rfl (by decide) (fun _ => rfl) dX0_init_17 ?_
  refine g_aload_n (pc := 20) dX0_init_20 rfl rfl ?_
  refine g_bipush (pc := 21) (v := (49 : Int32)) dX0_init_21 rfl ?_
  obtain ⟨P_7, e_P_7, hF⟩ := am_let_el hF
  obtain ⟨I_8, e_I_8, hF⟩ := am_let_el hF
  refine n_newa (pc := 23) (N := 33) (n := 49) e_P_7 e_I_8 rfl (by decide) (by decide) rfl (by decide) (by decide) (by decide) kz_arr dX0_init_23 ?_
  obtain ⟨P_9, e_P_9, hF⟩ := am_let_el hF
  refine n_putR (pc := 25) (k := 30) e_P_9 kf_X0_18 rfl rfl (by decide) (fun _ => rfl) dX0_init_25 ?_
  refine g_aload_n (pc := 28) dX0_init_28 rfl rfl ?_
  refine g_bipush (pc := 29) (v := (7 : Int32)) dX0_init_29 rfl ?_
  obtain ⟨P_10, e_P_10, hF⟩ := am_let_el hF
  obtain ⟨I_11, e_I_11, hF⟩ := am_let_el hF
  refine n_newa (pc := 31) (N := 34) (n := 7) e_P_10 e_I_11 rfl (by decide) (by decide) rfl (by decide) (by decide) (by decide) kz_arr dX0_init_31 ?_
  obtain ⟨P_12, e_P_12, hF⟩ := am_let_el hF
  refine n_putR (pc := 33) (k := 30) e_P_12 kf_X0_21 rfl rfl (by decide) (fun _ => rfl) dX0_init_33 ?_
  refine g_aload_n (pc := 36) dX0_init_36 rfl rfl ?_
  refine g_bipush (pc := 37) (v := (7 : Int32)) dX0_init_37 rfl ?_
  obtain ⟨P_13, e_P_13, hF⟩ := am_let_el hF
  obtain ⟨I_14, e_I_14, hF⟩ := am_let_el hF
  refine n_newa (pc := 39) (N := 35) (n := 7) e_P_13 e_I_14 rfl (by decide) (by decide) rfl (by decide) (by decide) (by decide) kz_arr dX0_init_39 ?_
  obtain ⟨P_15, e_P_15, hF⟩ := am_let_el hF
  refine n_putR (pc := 41) (k := 30) e_P_15 kf_X0_24 rfl rfl (by decide) (fun _ => rfl) dX0_init_41 ?_
  refine g_aload_n (pc := 44) dX0_init_44 rfl rfl ?_
  refine g_iconst (pc := 45) (v := (0 : Int32)) dX0_init_45 rfl ?_
  obtain ⟨I_16, e_I_16, hF⟩ := am_let_el hF
  refine n_putI (pc := 46) (k := 30) e_I_16 kf_X0_27 rfl rfl (by decide) dX0_init_46 ?_
  refine g_aload_n (pc := 49) dX0_init_49 rfl rfl ?_
  refine g_aload_n (pc := 50) dX0_init_50 rfl rfl ?_
  obtain ⟨P_17, e_P_17, hF⟩ := am_let_el hF
  refine n_putR (pc := 51) (k := 30) e_P_17 kf_X0_31 rfl rfl (by decide) (fun _ => rfl) dX0_init_51 ?_
  refine g_aload_n (pc := 54) dX0_init_54 rfl rfl ?_
  refine g_aload_n (pc := 55) dX0_init_55 rfl rfl ?_
  obtain ⟨P_18, e_P_18, hF⟩ := am_let_el hF
  refine n_putR (pc := 56) (k := 30) e_P_18 kf_X0_35 rfl rfl (by decide) (fun _ => rfl) dX0_init_56 ?_
  cases hF
  exact g_vret (pc := 59) rfl (by decide) (by decide) dX0_init_59 ⟨rfl, rfl, rfl, rfl⟩
set_option maxRecDepth 100000 in
def F_X10_init_36_1_23 (P : am_PT) (I : am_IT) : Option (am_PT × am_IT) := am_let (zr P 37 none) (fun (P_1 : am_PT) => am_let (zr I 37 0) (fun (I_2 : am_IT) => am_let (up2 P_1 36 2 (some 37)) (fun (P_3 : am_PT) => am_let (zr P_3 38 none) (fun (P_4 : am_PT) => am_let (zr I_2 38 0) (fun (I_5 : am_IT) => am_let (up2 P_4 36 3 (some 38)) (fun (P_6 : am_PT) => am_let (zr P_6 39 none) (fun (P_7 : am_PT) => am_let (zr I_5 39 0) (fun (I_8 : am_IT) => am_let (up2 P_7 36 4 (some 39)) (fun (P_9 : am_PT) => am_let (up2 P_9 36 0 (some 1)) (fun (P_10 : am_PT) => am_let (up2 P_10 36 1 (some 23)) (fun (P_11 : am_PT) => some (P_11, I_8))))))))))))
set_option maxRecDepth 100000 in
set_option maxHeartbeats 4000000 in
theorem s_X10_init_36_1_23 {l : Launch} {d : Nat} (hd : 1 ≤ d) {P : am_PT} {I : am_IT} {P2 : am_PT} {I2 : am_IT} (hF : F_X10_init_36_1_23 P I = some (P2, I2)) : am_C l d 3 63 mX10_init [.ref 36, .ref 1, .ref 23] 37 P I (am_qa 40 P2 I2) := by
  refine am_body (sc := am_sc0) (n := 0) (by decide +kernel) (by decide) rfl ?_
  change G am_sc0 l d 3 63 mX10_init (am_qa 40 P2 I2) 0 [.ref 36, .ref 1, .ref 23] [] 37 P I 0 0
  unfold F_X10_init_36_1_23 at hF
  refine g_aload_n (pc := 0) dX10_init_0 rfl rfl ?_
  refine g_objInit (pc := 1) (k := 36) kl_X10_3 kz_oi kz_oc (Nat.le_trans (by decide) hd) (Nat.le_of_ble_eq_true rfl) dX10_init_1 ?_
  refine g_aload_n (pc := 4) dX10_init_4 rfl rfl ?_
  refine g_bipush (pc := 5) (v := (7 : Int32)) dX10_init_5 rfl ?_
  obtain ⟨P_1, e_P_1, hF⟩ := am_let_el hF
  obtain ⟨I_2, e_I_2, hF⟩ := am_let_el hF
  refine n_newa (pc := 7) (N := 37) (n := 7) e_P_1 e_I_2 rfl (by decide) (by decide) rfl (by decide) (by decide) (by decide) kz_arr dX10_init_7 ?_
  obtain ⟨P_3, e_P_3, hF⟩ := am_let_el hF
  refine n_putR (pc := 9) (k := 36) e_P_3 kf_X10_9 rfl rfl (by decide) (fun _ => rfl) dX10_init_9 ?_
  refine g_aload_n (pc := 12) dX10_init_12 rfl rfl ?_
  refine g_bipush (pc := 13) (v := (28 : Int32)) dX10_init_13 rfl ?_
  obtain ⟨P_4, e_P_4, hF⟩ := am_let_el hF
  obtain ⟨I_5, e_I_5, hF⟩ := am_let_el hF
  refine n_newa (pc := 15) (N := 38) (n := 28) e_P_4 e_I_5 rfl (by decide) (by decide) rfl (by decide) (by decide) (by decide) kz_arr dX10_init_15 ?_
  obtain ⟨P_6, e_P_6, hF⟩ := am_let_el hF
  refine n_putR (pc := 17) (k := 36) e_P_6 kf_X10_15 rfl rfl (by decide) (fun _ => rfl) dX10_init_17 ?_
  refine g_aload_n (pc := 20) dX10_init_20 rfl rfl ?_
  refine g_bipush (pc := 21) (v := (28 : Int32)) dX10_init_21 rfl ?_
  obtain ⟨P_7, e_P_7, hF⟩ := am_let_el hF
  obtain ⟨I_8, e_I_8, hF⟩ := am_let_el hF
  refine n_newa (pc := 23) (N := 39) (n := 28) e_P_7 e_I_8 rfl (by decide) (by decide) rfl (by decide) (by decide) (by decide) kz_arr dX10_init_23 ?_
  obtain ⟨P_9, e_P_9, hF⟩ := am_let_el hF
  refine n_putR (pc := 25) (k := 36) e_P_9 kf_X10_18 rfl rfl (by decide) (fun _ => rfl) dX10_init_25 ?_
  refine g_aload_n (pc := 28) dX10_init_28 rfl rfl ?_
  refine g_aload_n (pc := 29) dX10_init_29 rfl rfl ?_
  obtain ⟨P_10, e_P_10, hF⟩ := am_let_el hF
  refine n_putR (pc := 30) (k := 36) e_P_10 kf_X10_21 rfl rfl (by decide) (fun _ => rfl) dX10_init_30 ?_
  refine g_aload_n (pc := 33) dX10_init_33 rfl rfl ?_
  refine g_aload_n (pc := 34) dX10_init_34 rfl rfl ?_
  obtain ⟨P_11, e_P_11, hF⟩ := am_let_el hF
  refine n_putR (pc := 35) (k := 36) e_P_11 kf_X10_25 rfl rfl (by decide) (fun _ => rfl) dX10_init_35 ?_
  cases hF
  exact g_vret (pc := 38) rfl (by decide) (by decide) dX10_init_38 ⟨rfl, rfl, rfl, rfl⟩
set_option maxRecDepth 100000 in
def F_X4_init_40_1_23 (P : am_PT) (I : am_IT) : Option (am_PT × am_IT) := am_let (up2 I 40 0 (0 : Int32)) (fun (I_1 : am_IT) => am_let (up2 I_1 40 1 (-1 : Int32)) (fun (I_2 : am_IT) => am_let (zr P 41 none) (fun (P_3 : am_PT) => am_let (zr I_2 41 0) (fun (I_4 : am_IT) => am_let (up2 P_3 40 4 (some 41)) (fun (P_5 : am_PT) => am_let (zr P_5 42 none) (fun (P_6 : am_PT) => am_let (zr I_4 42 0) (fun (I_7 : am_IT) => am_let (up2 P_6 40 5 (some 42)) (fun (P_8 : am_PT) => am_let (up2 P_8 40 2 (some 1)) (fun (P_9 : am_PT) => am_let (up2 P_9 40 3 (some 23)) (fun (P_10 : am_PT) => some (P_10, I_7)))))))))))
set_option maxRecDepth 100000 in
set_option maxHeartbeats 4000000 in
theorem s_X4_init_40_1_23 {l : Launch} {d : Nat} (hd : 1 ≤ d) {P : am_PT} {I : am_IT} {P2 : am_PT} {I2 : am_IT} (hF : F_X4_init_40_1_23 P I = some (P2, I2)) : am_C l d 2 14 mX4_init [.ref 40, .ref 1, .ref 23] 41 P I (am_qa 43 P2 I2) := by
  refine am_body (sc := am_sc0) (n := 0) (by decide +kernel) (by decide) rfl ?_
  change G am_sc0 l d 2 14 mX4_init (am_qa 43 P2 I2) 0 [.ref 40, .ref 1, .ref 23] [] 41 P I 0 0
  unfold F_X4_init_40_1_23 at hF
  refine g_aload_n (pc := 0) dX4_init_0 rfl rfl ?_
  refine g_objInit (pc := 1) (k := 40) kl_X4_3 kz_oi kz_oc (Nat.le_trans (by decide) hd) (Nat.le_of_ble_eq_true rfl) dX4_init_1 ?_
  refine g_aload_n (pc := 4) dX4_init_4 rfl rfl ?_
  refine g_iconst (pc := 5) (v := (0 : Int32)) dX4_init_5 rfl ?_
  obtain ⟨I_1, e_I_1, hF⟩ := am_let_el hF
  refine n_putI (pc := 6) (k := 40) e_I_1 kf_X4_9 rfl rfl (by decide) dX4_init_6 ?_
  refine g_aload_n (pc := 9) dX4_init_9 rfl rfl ?_
  refine g_iconst (pc := 10) (v := (-1 : Int32)) dX4_init_10 (by decide) ?_
  obtain ⟨I_2, e_I_2, hF⟩ := am_let_el hF
  refine n_putI (pc := 11) (k := 40) e_I_2 kf_X4_15 rfl rfl (by decide) dX4_init_11 ?_
  refine g_aload_n (pc := 14) dX4_init_14 rfl rfl ?_
  refine g_bipush (pc := 15) (v := (7 : Int32)) dX4_init_15 rfl ?_
  obtain ⟨P_3, e_P_3, hF⟩ := am_let_el hF
  obtain ⟨I_4, e_I_4, hF⟩ := am_let_el hF
  refine n_newa (pc := 17) (N := 41) (n := 7) e_P_3 e_I_4 rfl (by decide) (by decide) rfl (by decide) (by decide) (by decide) kz_arr dX4_init_17 ?_
  obtain ⟨P_5, e_P_5, hF⟩ := am_let_el hF
  refine n_putR (pc := 19) (k := 40) e_P_5 kf_X4_18 rfl rfl (by decide) (fun _ => rfl) dX4_init_19 ?_
  refine g_aload_n (pc := 22) dX4_init_22 rfl rfl ?_
  refine g_bipush (pc := 23) (v := (7 : Int32)) dX4_init_23 rfl ?_
  obtain ⟨P_6, e_P_6, hF⟩ := am_let_el hF
  obtain ⟨I_7, e_I_7, hF⟩ := am_let_el hF
  refine n_newa (pc := 25) (N := 42) (n := 7) e_P_6 e_I_7 rfl (by decide) (by decide) rfl (by decide) (by decide) (by decide) kz_arr dX4_init_25 ?_
  obtain ⟨P_8, e_P_8, hF⟩ := am_let_el hF
  refine n_putR (pc := 27) (k := 40) e_P_8 kf_X4_22 rfl rfl (by decide) (fun _ => rfl) dX4_init_27 ?_
  refine g_aload_n (pc := 30) dX4_init_30 rfl rfl ?_
  refine g_aload_n (pc := 31) dX4_init_31 rfl rfl ?_
  obtain ⟨P_9, e_P_9, hF⟩ := am_let_el hF
  refine n_putR (pc := 32) (k := 40) e_P_9 kf_X4_25 rfl rfl (by decide) (fun _ => rfl) dX4_init_32 ?_
  refine g_aload_n (pc := 35) dX4_init_35 rfl rfl ?_
  refine g_aload_n (pc := 36) dX4_init_36 rfl rfl ?_
  obtain ⟨P_10, e_P_10, hF⟩ := am_let_el hF
  refine n_putR (pc := 37) (k := 40) e_P_10 kf_X4_29 rfl rfl (by decide) (fun _ => rfl) dX4_init_37 ?_
  cases hF
  exact g_vret (pc := 40) rfl (by decide) (by decide) dX4_init_40 ⟨rfl, rfl, rfl, rfl⟩
set_option maxRecDepth 100000 in
def F_X3_init_43_1_23 (P : am_PT) (I : am_IT) : Option (am_PT × am_IT) := am_let (zr P 44 none) (fun (P_1 : am_PT) => am_let (zr I 44 0) (fun (I_2 : am_IT) => am_let (up2 P_1 43 0 (some 44)) (fun (P_3 : am_PT) => am_let (zr P_3 45 none) (fun (P_4 : am_PT) => am_let (zr I_2 45 0) (fun (I_5 : am_IT) => am_let (up2 P_4 43 3 (some 45)) (fun (P_6 : am_PT) => am_let (zr P_6 46 none) (fun (P_7 : am_PT) => am_let (zr I_5 46 0) (fun (I_8 : am_IT) => am_let (up2 P_7 43 4 (some 46)) (fun (P_9 : am_PT) => am_let (up2 P_9 43 1 (some 1)) (fun (P_10 : am_PT) => am_let (up2 P_10 43 2 (some 23)) (fun (P_11 : am_PT) => some (P_11, I_8))))))))))))
set_option maxRecDepth 100000 in
set_option maxHeartbeats 4000000 in
theorem s_X3_init_43_1_23 {l : Launch} {d : Nat} (hd : 1 ≤ d) {P : am_PT} {I : am_IT} {P2 : am_PT} {I2 : am_IT} (hF : F_X3_init_43_1_23 P I = some (P2, I2)) : am_C l d 3 319 mX3_init [.ref 43, .ref 1, .ref 23] 44 P I (am_qa 47 P2 I2) := by
  refine am_body (sc := am_sc0) (n := 0) (by decide +kernel) (by decide) rfl ?_
  change G am_sc0 l d 3 319 mX3_init (am_qa 47 P2 I2) 0 [.ref 43, .ref 1, .ref 23] [] 44 P I 0 0
  unfold F_X3_init_43_1_23 at hF
  refine g_aload_n (pc := 0) dX3_init_0 rfl rfl ?_
  refine g_objInit (pc := 1) (k := 43) kl_X3_3 kz_oi kz_oc (Nat.le_trans (by decide) hd) (Nat.le_of_ble_eq_true rfl) dX3_init_1 ?_
  refine g_aload_n (pc := 4) dX3_init_4 rfl rfl ?_
  refine g_bipush (pc := 5) (v := (7 : Int32)) dX3_init_5 rfl ?_
  obtain ⟨P_1, e_P_1, hF⟩ := am_let_el hF
  obtain ⟨I_2, e_I_2, hF⟩ := am_let_el hF
  refine n_newa (pc := 7) (N := 44) (n := 7) e_P_1 e_I_2 rfl (by decide) (by decide) rfl (by decide) (by decide) (by decide) kz_arr dX3_init_7 ?_
  obtain ⟨P_3, e_P_3, hF⟩ := am_let_el hF
  refine n_putR (pc := 9) (k := 43) e_P_3 kf_X3_9 rfl rfl (by decide) (fun _ => rfl) dX3_init_9 ?_
  refine g_aload_n (pc := 12) dX3_init_12 rfl rfl ?_
  refine g_bipush (pc := 13) (v := (56 : Int32)) dX3_init_13 rfl ?_
  obtain ⟨P_4, e_P_4, hF⟩ := am_let_el hF
  obtain ⟨I_5, e_I_5, hF⟩ := am_let_el hF
  refine n_newa (pc := 15) (N := 45) (n := 56) e_P_4 e_I_5 rfl (by decide) (by decide) rfl (by decide) (by decide) (by decide) kz_arr dX3_init_15 ?_
  obtain ⟨P_6, e_P_6, hF⟩ := am_let_el hF
  refine n_putR (pc := 17) (k := 43) e_P_6 kf_X3_15 rfl rfl (by decide) (fun _ => rfl) dX3_init_17 ?_
  refine g_aload_n (pc := 20) dX3_init_20 rfl rfl ?_
  refine g_sipush (pc := 21) (v := (256 : Int32)) dX3_init_21 rfl ?_
  obtain ⟨P_7, e_P_7, hF⟩ := am_let_el hF
  obtain ⟨I_8, e_I_8, hF⟩ := am_let_el hF
  refine n_newa (pc := 24) (N := 46) (n := 256) e_P_7 e_I_8 rfl (by decide) (by decide) rfl (by decide) (by decide) (by decide) kz_arr dX3_init_24 ?_
  obtain ⟨P_9, e_P_9, hF⟩ := am_let_el hF
  refine n_putR (pc := 26) (k := 43) e_P_9 kf_X3_18 rfl rfl (by decide) (fun _ => rfl) dX3_init_26 ?_
  refine g_aload_n (pc := 29) dX3_init_29 rfl rfl ?_
  refine g_aload_n (pc := 30) dX3_init_30 rfl rfl ?_
  obtain ⟨P_10, e_P_10, hF⟩ := am_let_el hF
  refine n_putR (pc := 31) (k := 43) e_P_10 kf_X3_21 rfl rfl (by decide) (fun _ => rfl) dX3_init_31 ?_
  refine g_aload_n (pc := 34) dX3_init_34 rfl rfl ?_
  refine g_aload_n (pc := 35) dX3_init_35 rfl rfl ?_
  obtain ⟨P_11, e_P_11, hF⟩ := am_let_el hF
  refine n_putR (pc := 36) (k := 43) e_P_11 kf_X3_25 rfl rfl (by decide) (fun _ => rfl) dX3_init_36 ?_
  cases hF
  exact g_vret (pc := 39) rfl (by decide) (by decide) dX3_init_39 ⟨rfl, rfl, rfl, rfl⟩
set_option maxRecDepth 100000 in
def F_X6_init_48 (P : am_PT) (I : am_IT) : Option (am_PT × am_IT) := am_let (up2 I 48 0 (0 : Int32)) (fun (I_1 : am_IT) => am_let (up2 I_1 48 1 (0 : Int32)) (fun (I_2 : am_IT) => am_let (zr P 49 none) (fun (P_3 : am_PT) => am_let (zr I_2 49 0) (fun (I_4 : am_IT) => am_let (up2 P_3 48 2 (some 49)) (fun (P_5 : am_PT) => am_let (zr P_5 50 none) (fun (P_6 : am_PT) => am_let (zr I_4 50 0) (fun (I_7 : am_IT) => am_let (up2 P_6 48 3 (some 50)) (fun (P_8 : am_PT) => am_let (zr P_8 51 none) (fun (P_9 : am_PT) => am_let (zr I_7 51 0) (fun (I_10 : am_IT) => am_let (up2 P_9 48 4 (some 51)) (fun (P_11 : am_PT) => some (P_11, I_10))))))))))))
set_option maxRecDepth 100000 in
set_option maxHeartbeats 4000000 in
theorem s_X6_init_48 {l : Launch} {d : Nat} (hd : 1 ≤ d) {P : am_PT} {I : am_IT} {P2 : am_PT} {I2 : am_IT} (hF : F_X6_init_48 P I = some (P2, I2)) : am_C l d 3 432 mX6_init [.ref 48] 49 P I (am_qa 52 P2 I2) := by
  refine am_body (sc := am_sc0) (n := 0) (by decide +kernel) (by decide) rfl ?_
  change G am_sc0 l d 3 432 mX6_init (am_qa 52 P2 I2) 0 [.ref 48] [] 49 P I 0 0
  unfold F_X6_init_48 at hF
  refine g_aload_n (pc := 0) dX6_init_0 rfl rfl ?_
  refine g_objInit (pc := 1) (k := 48) kl_X6_3 kz_oi kz_oc (Nat.le_trans (by decide) hd) (Nat.le_of_ble_eq_true rfl) dX6_init_1 ?_
  refine g_aload_n (pc := 4) dX6_init_4 rfl rfl ?_
  refine g_iconst (pc := 5) (v := (0 : Int32)) dX6_init_5 rfl ?_
  obtain ⟨I_1, e_I_1, hF⟩ := am_let_el hF
  refine n_putI (pc := 6) (k := 48) e_I_1 kf_X6_9 rfl rfl (by decide) dX6_init_6 ?_
  refine g_aload_n (pc := 9) dX6_init_9 rfl rfl ?_
  refine g_iconst (pc := 10) (v := (0 : Int32)) dX6_init_10 rfl ?_
  obtain ⟨I_2, e_I_2, hF⟩ := am_let_el hF
  refine n_putI (pc := 11) (k := 48) e_I_2 kf_X6_15 rfl rfl (by decide) dX6_init_11 ?_
  refine g_aload_n (pc := 14) dX6_init_14 rfl rfl ?_
  refine g_bipush (pc := 15) (v := (16 : Int32)) dX6_init_15 rfl ?_
  obtain ⟨P_3, e_P_3, hF⟩ := am_let_el hF
  obtain ⟨I_4, e_I_4, hF⟩ := am_let_el hF
  refine n_newa (pc := 17) (N := 49) (n := 16) e_P_3 e_I_4 rfl (by decide) (by decide) rfl (by decide) (by decide) (by decide) kz_arr dX6_init_17 ?_
  obtain ⟨P_5, e_P_5, hF⟩ := am_let_el hF
  refine n_putR (pc := 19) (k := 48) e_P_5 kf_X6_18 rfl rfl (by decide) (fun _ => rfl) dX6_init_19 ?_
  refine g_aload_n (pc := 22) dX6_init_22 rfl rfl ?_
  refine g_bipush (pc := 23) (v := (16 : Int32)) dX6_init_23 rfl ?_
  obtain ⟨P_6, e_P_6, hF⟩ := am_let_el hF
  obtain ⟨I_7, e_I_7, hF⟩ := am_let_el hF
  refine n_newa (pc := 25) (N := 50) (n := 16) e_P_6 e_I_7 rfl (by decide) (by decide) rfl (by decide) (by decide) (by decide) kz_arr dX6_init_25 ?_
  obtain ⟨P_8, e_P_8, hF⟩ := am_let_el hF
  refine n_putR (pc := 27) (k := 48) e_P_8 kf_X6_22 rfl rfl (by decide) (fun _ => rfl) dX6_init_27 ?_
  refine g_aload_n (pc := 30) dX6_init_30 rfl rfl ?_
  refine g_sipush (pc := 31) (v := (400 : Int32)) dX6_init_31 rfl ?_
  obtain ⟨P_9, e_P_9, hF⟩ := am_let_el hF
  obtain ⟨I_10, e_I_10, hF⟩ := am_let_el hF
  refine n_newa (pc := 34) (N := 51) (n := 400) e_P_9 e_I_10 rfl (by decide) (by decide) rfl (by decide) (by decide) (by decide) kz_arr dX6_init_34 ?_
  obtain ⟨P_11, e_P_11, hF⟩ := am_let_el hF
  refine n_putR (pc := 36) (k := 48) e_P_11 kf_X6_25 rfl rfl (by decide) (fun _ => rfl) dX6_init_36 ?_
  cases hF
  exact g_vret (pc := 39) rfl (by decide) (by decide) dX6_init_39 ⟨rfl, rfl, rfl, rfl⟩
set_option maxRecDepth 100000 in
def F_X7_init_47 (P : am_PT) (I : am_IT) : Option (am_PT × am_IT) := am_let (zr P 48 none) (fun (P_1 : am_PT) => am_let (zr I 48 0) (fun (I_2 : am_IT) => am_b2 (F_X6_init_48 P_1 I_2) (fun (P_4 : am_PT) (I_5 : am_IT) => am_let (up2 P_4 47 0 (some 48)) (fun (P_6 : am_PT) => am_let (up2 I_5 47 1 (0 : Int32)) (fun (I_7 : am_IT) => am_let (up2 I_7 47 2 (-1 : Int32)) (fun (I_8 : am_IT) => am_let (zr P_6 52 none) (fun (P_9 : am_PT) => am_let (zr I_8 52 0) (fun (I_10 : am_IT) => am_let (up2 P_9 47 3 (some 52)) (fun (P_11 : am_PT) => am_let (zr P_11 53 none) (fun (P_12 : am_PT) => am_let (zr I_10 53 0) (fun (I_13 : am_IT) => am_let (up2 P_12 47 4 (some 53)) (fun (P_14 : am_PT) => am_let (up2 I_13 47 5 (0 : Int32)) (fun (I_15 : am_IT) => am_let (up2 I_15 47 6 (0 : Int32)) (fun (I_16 : am_IT) => am_let (up2 I_16 47 7 (300 : Int32)) (fun (I_17 : am_IT) => some (P_14, I_17))))))))))))))))
set_option maxRecDepth 100000 in
set_option maxHeartbeats 4000000 in
theorem s_X7_init_47 {l : Launch} {d : Nat} (hd : 2 ≤ d) {P : am_PT} {I : am_IT} {P2 : am_PT} {I2 : am_IT} (hF : F_X7_init_47 P I = some (P2, I2)) : am_C l d 6 1239 mX7_init [.ref 47] 48 P I (am_qa 54 P2 I2) := by
  refine am_body (sc := am_sc0) (n := 0) (by decide +kernel) (by decide) rfl ?_
  change G am_sc0 l d 6 1239 mX7_init (am_qa 54 P2 I2) 0 [.ref 47] [] 48 P I 0 0
  unfold F_X7_init_47 at hF
  refine g_aload_n (pc := 0) dX7_init_0 rfl rfl ?_
  refine g_objInit (pc := 1) (k := 47) kl_X7_3 kz_oi kz_oc (Nat.le_trans (by decide) hd) (Nat.le_of_ble_eq_true rfl) dX7_init_1 ?_
  refine g_aload_n (pc := 4) dX7_init_4 rfl rfl ?_
  obtain ⟨P_1, e_P_1, hF⟩ := am_let_el hF
  obtain ⟨I_2, e_I_2, hF⟩ := am_let_el hF
  refine n_new (pc := 5) (N := 48) e_P_1 e_I_2 kn_X7_9 rfl (by decide) (by decide) (by decide) dX7_init_5 ?_
  refine g_dup (pc := 8) dX7_init_8 ?_
  obtain ⟨P_4, I_5, h_3, hF⟩ := am_b2_el hF
  refine g_callIN (pc := 9) (k := 48) (As := []) (st := [.ref 48, .ref 47]) ky_X6_init (show (_, _, _, "PaintedByOthers") ∈ am_nest by decide +kernel) (s_X6_init_48 (d := 1) (Nat.le_refl _) h_3) rfl rfl (Nat.le_trans (by decide) hd) (Nat.le_of_ble_eq_true rfl) (by decide) (by decide) dX7_init_9 ?_
  rintro _ _ _ _ ⟨rfl, rfl, rfl, rfl⟩
  obtain ⟨P_6, e_P_6, hF⟩ := am_let_el hF
  refine n_putR (pc := 12) (k := 47) e_P_6 kf_X7_12 rfl rfl (by decide) (fun _ => rfl) dX7_init_12 ?_
  refine g_aload_n (pc := 15) dX7_init_15 rfl rfl ?_
  refine g_iconst (pc := 16) (v := (0 : Int32)) dX7_init_16 rfl ?_
  obtain ⟨I_7, e_I_7, hF⟩ := am_let_el hF
  refine n_putI (pc := 17) (k := 47) e_I_7 kf_X7_18 rfl rfl (by decide) dX7_init_17 ?_
  refine g_aload_n (pc := 20) dX7_init_20 rfl rfl ?_
  refine g_iconst (pc := 21) (v := (-1 : Int32)) dX7_init_21 (by decide) ?_
  obtain ⟨I_8, e_I_8, hF⟩ := am_let_el hF
  refine n_putI (pc := 22) (k := 47) e_I_8 kf_X7_22 rfl rfl (by decide) dX7_init_22 ?_
  refine g_aload_n (pc := 25) dX7_init_25 rfl rfl ?_
  refine g_sipush (pc := 26) (v := (401 : Int32)) dX7_init_26 rfl ?_
  obtain ⟨P_9, e_P_9, hF⟩ := am_let_el hF
  obtain ⟨I_10, e_I_10, hF⟩ := am_let_el hF
  refine n_newa (pc := 29) (N := 52) (n := 401) e_P_9 e_I_10 rfl (by decide) (by decide) rfl (by decide) (by decide) (by decide) kz_arr dX7_init_29 ?_
  obtain ⟨P_11, e_P_11, hF⟩ := am_let_el hF
  refine n_putR (pc := 31) (k := 47) e_P_11 kf_X7_25 rfl rfl (by decide) (fun _ => rfl) dX7_init_31 ?_
  refine g_aload_n (pc := 34) dX7_init_34 rfl rfl ?_
  refine g_sipush (pc := 35) (v := (401 : Int32)) dX7_init_35 rfl ?_
  obtain ⟨P_12, e_P_12, hF⟩ := am_let_el hF
  obtain ⟨I_13, e_I_13, hF⟩ := am_let_el hF
  refine n_newa (pc := 38) (N := 53) (n := 401) e_P_12 e_I_13 rfl (by decide) (by decide) rfl (by decide) (by decide) (by decide) kz_arr dX7_init_38 ?_
  obtain ⟨P_14, e_P_14, hF⟩ := am_let_el hF
  refine n_putR (pc := 40) (k := 47) e_P_14 kf_X7_29 rfl rfl (by decide) (fun _ => rfl) dX7_init_40 ?_
  refine g_aload_n (pc := 43) dX7_init_43 rfl rfl ?_
  refine g_iconst (pc := 44) (v := (0 : Int32)) dX7_init_44 rfl ?_
  obtain ⟨I_15, e_I_15, hF⟩ := am_let_el hF
  refine n_putI (pc := 45) (k := 47) e_I_15 kf_X7_32 rfl rfl (by decide) dX7_init_45 ?_
  refine g_aload_n (pc := 48) dX7_init_48 rfl rfl ?_
  refine g_iconst (pc := 49) (v := (0 : Int32)) dX7_init_49 rfl ?_
  obtain ⟨I_16, e_I_16, hF⟩ := am_let_el hF
  refine n_putI (pc := 50) (k := 47) e_I_16 kf_X7_35 rfl rfl (by decide) dX7_init_50 ?_
  refine g_aload_n (pc := 53) dX7_init_53 rfl rfl ?_
  refine g_sipush (pc := 54) (v := (300 : Int32)) dX7_init_54 rfl ?_
  obtain ⟨I_17, e_I_17, hF⟩ := am_let_el hF
  refine n_putI (pc := 57) (k := 47) e_I_17 kf_X7_38 rfl rfl (by decide) dX7_init_57 ?_
  cases hF
  exact g_vret (pc := 60) rfl (by decide) (by decide) dX7_init_60 ⟨rfl, rfl, rfl, rfl⟩
set_option maxRecDepth 100000 in
def F_X11_init_0 (P : am_PT) (I : am_IT) : Option (am_PT × am_IT) := am_let (zr P 1 none) (fun (P_1 : am_PT) => am_let (zr I 1 0) (fun (I_2 : am_IT) => am_b2 (F_X9_init_1 P_1 I_2) (fun (P_4 : am_PT) (I_5 : am_IT) => am_let (up2 P_4 0 0 (some 1)) (fun (P_6 : am_PT) => am_let (zr P_6 23 none) (fun (P_7 : am_PT) => am_let (zr I_5 23 0) (fun (I_8 : am_IT) => if P_7 0 0 = some 1 then (am_b2 (F_X8_init_23_1 P_7 I_8) (fun (P_11 : am_PT) (I_12 : am_IT) => am_let (up2 P_11 0 1 (some 23)) (fun (P_13 : am_PT) => am_let (zr P_13 25 none) (fun (P_14 : am_PT) => am_let (zr I_12 25 0) (fun (I_15 : am_IT) => if P_14 0 0 = some 1 then (if P_14 0 1 = some 23 then (am_b2 (F_X2_init_25_1_23 P_14 I_15) (fun (P_19 : am_PT) (I_20 : am_IT) => am_let (up2 P_19 0 2 (some 25)) (fun (P_21 : am_PT) => am_let (zr P_21 30 none) (fun (P_22 : am_PT) => am_let (zr I_20 30 0) (fun (I_23 : am_IT) => if P_22 0 0 = some 1 then (if P_22 0 1 = some 23 then (am_b2 (F_X0_init_30_1_23 P_22 I_23) (fun (P_27 : am_PT) (I_28 : am_IT) => am_let (up2 P_27 0 3 (some 30)) (fun (P_29 : am_PT) => am_let (zr P_29 36 none) (fun (P_30 : am_PT) => am_let (zr I_28 36 0) (fun (I_31 : am_IT) => if P_30 0 0 = some 1 then (if P_30 0 1 = some 23 then (am_b2 (F_X10_init_36_1_23 P_30 I_31) (fun (P_35 : am_PT) (I_36 : am_IT) => am_let (up2 P_35 0 4 (some 36)) (fun (P_37 : am_PT) => am_let (zr P_37 40 none) (fun (P_38 : am_PT) => am_let (zr I_36 40 0) (fun (I_39 : am_IT) => if P_38 0 0 = some 1 then (if P_38 0 1 = some 23 then (am_b2 (F_X4_init_40_1_23 P_38 I_39) (fun (P_43 : am_PT) (I_44 : am_IT) => am_let (up2 P_43 0 5 (some 40)) (fun (P_45 : am_PT) => am_let (zr P_45 43 none) (fun (P_46 : am_PT) => am_let (zr I_44 43 0) (fun (I_47 : am_IT) => if P_46 0 0 = some 1 then (if P_46 0 1 = some 23 then (am_b2 (F_X3_init_43_1_23 P_46 I_47) (fun (P_51 : am_PT) (I_52 : am_IT) => am_let (up2 P_51 0 6 (some 43)) (fun (P_53 : am_PT) => am_let (zr P_53 47 none) (fun (P_54 : am_PT) => am_let (zr I_52 47 0) (fun (I_55 : am_IT) => am_b2 (F_X7_init_47 P_54 I_55) (fun (P_57 : am_PT) (I_58 : am_IT) => am_let (up2 P_57 0 7 (some 47)) (fun (P_59 : am_PT) => am_let (zr P_59 54 none) (fun (P_60 : am_PT) => am_let (zr I_58 54 0) (fun (I_61 : am_IT) => am_let (up2 P_60 0 8 (some 54)) (fun (P_62 : am_PT) => am_let (up2 I_61 0 9 (0 : Int32)) (fun (I_63 : am_IT) => am_let (up2 I_63 0 10 (0 : Int32)) (fun (I_64 : am_IT) => am_let (up2 I_64 0 11 (-1 : Int32)) (fun (I_65 : am_IT) => am_let (up2 P_62 0 12 none) (fun (P_66 : am_PT) => some (P_66, I_65))))))))))))))) else none) else none))))) else none) else none))))) else none) else none))))) else none) else none))))) else none) else none))))) else none))))))
set_option maxRecDepth 100000 in
set_option maxHeartbeats 4000000 in
theorem s_X11_init_0 {l : Launch} {d : Nat} (hd : 3 ≤ d) {P : am_PT} {I : am_IT} {P2 : am_PT} {I2 : am_IT} (hF : F_X11_init_0 P I = some (P2, I2)) : am_C l d 54 3252 mX11_init [.ref 0] 1 P I (am_qa 55 P2 I2) := by
  refine am_body (sc := am_sc0) (n := 0) (by decide +kernel) (by decide) rfl ?_
  change G am_sc0 l d 54 3252 mX11_init (am_qa 55 P2 I2) 0 [.ref 0] [] 1 P I 0 0
  unfold F_X11_init_0 at hF
  refine g_aload_n (pc := 0) dX11_init_0 rfl rfl ?_
  refine g_objInit (pc := 1) (k := 0) kl_X11_3 kz_oi kz_oc (Nat.le_trans (by decide) hd) (Nat.le_of_ble_eq_true rfl) dX11_init_1 ?_
  refine g_aload_n (pc := 4) dX11_init_4 rfl rfl ?_
  obtain ⟨P_1, e_P_1, hF⟩ := am_let_el hF
  obtain ⟨I_2, e_I_2, hF⟩ := am_let_el hF
  refine n_new (pc := 5) (N := 1) e_P_1 e_I_2 kn_X11_9 rfl (by decide) (by decide) (by decide) dX11_init_5 ?_
  refine g_dup (pc := 8) dX11_init_8 ?_
  obtain ⟨P_4, I_5, h_3, hF⟩ := am_b2_el hF
  refine g_callIN (pc := 9) (k := 1) (As := []) (st := [.ref 1, .ref 0]) ky_X9_init (show (_, _, _, "PaintedByOthers") ∈ am_nest by decide +kernel) (s_X9_init_1 (d := 2) (Nat.le_refl _) h_3) rfl rfl (Nat.le_trans (by decide) hd) (Nat.le_of_ble_eq_true rfl) (by decide) (by decide) dX11_init_9 ?_
  rintro _ _ _ _ ⟨rfl, rfl, rfl, rfl⟩
  obtain ⟨P_6, e_P_6, hF⟩ := am_let_el hF
  refine n_putR (pc := 12) (k := 0) e_P_6 kf_X11_12 rfl rfl (by decide) (fun _ => rfl) dX11_init_12 ?_
  refine g_aload_n (pc := 15) dX11_init_15 rfl rfl ?_
  obtain ⟨P_7, e_P_7, hF⟩ := am_let_el hF
  obtain ⟨I_8, e_I_8, hF⟩ := am_let_el hF
  refine n_new (pc := 16) (N := 23) e_P_7 e_I_8 kn_X11_16 rfl (by decide) (by decide) (by decide) dX11_init_16 ?_
  refine g_dup (pc := 19) dX11_init_19 ?_
  refine g_aload_n (pc := 20) dX11_init_20 rfl rfl ?_
  obtain ⟨c_9, hF⟩ := am_gd hF
  refine g_getR (pc := 21) (k := 0) (r := 1) kf_X11_12.r rfl rfl c_9 (by decide) dX11_init_21 ?_
  obtain ⟨P_11, I_12, h_10, hF⟩ := am_b2_el hF
  refine g_callI (pc := 24) (k := 23) (As := [.ref 1]) (st := [.ref 23, .ref 0]) ky_X8_init kl_X11_18 (s_X8_init_23_1 (d := 1) (Nat.le_refl _) h_10) rfl rfl (Nat.le_trans (by decide) hd) (Nat.le_of_ble_eq_true rfl) (by decide) (by decide) dX11_init_24 ?_
  rintro _ _ _ _ ⟨rfl, rfl, rfl, rfl⟩
  obtain ⟨P_13, e_P_13, hF⟩ := am_let_el hF
  refine n_putR (pc := 27) (k := 0) e_P_13 kf_X11_21 rfl rfl (by decide) (fun _ => rfl) dX11_init_27 ?_
  refine g_aload_n (pc := 30) dX11_init_30 rfl rfl ?_
  obtain ⟨P_14, e_P_14, hF⟩ := am_let_el hF
  obtain ⟨I_15, e_I_15, hF⟩ := am_let_el hF
  refine n_new (pc := 31) (N := 25) e_P_14 e_I_15 kn_X11_25 rfl (by decide) (by decide) (by decide) dX11_init_31 ?_
  refine g_dup (pc := 34) dX11_init_34 ?_
  refine g_aload_n (pc := 35) dX11_init_35 rfl rfl ?_
  obtain ⟨c_16, hF⟩ := am_gd hF
  refine g_getR (pc := 36) (k := 0) (r := 1) kf_X11_12.r rfl rfl c_16 (by decide) dX11_init_36 ?_
  refine g_aload_n (pc := 39) dX11_init_39 rfl rfl ?_
  obtain ⟨c_17, hF⟩ := am_gd hF
  refine g_getR (pc := 40) (k := 0) (r := 23) kf_X11_21.r rfl rfl c_17 (by decide) dX11_init_40 ?_
  obtain ⟨P_19, I_20, h_18, hF⟩ := am_b2_el hF
  refine g_callI (pc := 43) (k := 25) (As := [.ref 1, .ref 23]) (st := [.ref 25, .ref 0]) ky_X2_init kl_X11_27 (s_X2_init_25_1_23 (d := 1) (Nat.le_refl _) h_18) rfl rfl (Nat.le_trans (by decide) hd) (Nat.le_of_ble_eq_true rfl) (by decide) (by decide) dX11_init_43 ?_
  rintro _ _ _ _ ⟨rfl, rfl, rfl, rfl⟩
  obtain ⟨P_21, e_P_21, hF⟩ := am_let_el hF
  refine n_putR (pc := 46) (k := 0) e_P_21 kf_X11_30 rfl rfl (by decide) (fun _ => rfl) dX11_init_46 ?_
  refine g_aload_n (pc := 49) dX11_init_49 rfl rfl ?_
  obtain ⟨P_22, e_P_22, hF⟩ := am_let_el hF
  obtain ⟨I_23, e_I_23, hF⟩ := am_let_el hF
  refine n_new (pc := 50) (N := 30) e_P_22 e_I_23 kn_X11_34 rfl (by decide) (by decide) (by decide) dX11_init_50 ?_
  refine g_dup (pc := 53) dX11_init_53 ?_
  refine g_aload_n (pc := 54) dX11_init_54 rfl rfl ?_
  obtain ⟨c_24, hF⟩ := am_gd hF
  refine g_getR (pc := 55) (k := 0) (r := 1) kf_X11_12.r rfl rfl c_24 (by decide) dX11_init_55 ?_
  refine g_aload_n (pc := 58) dX11_init_58 rfl rfl ?_
  obtain ⟨c_25, hF⟩ := am_gd hF
  refine g_getR (pc := 59) (k := 0) (r := 23) kf_X11_21.r rfl rfl c_25 (by decide) dX11_init_59 ?_
  obtain ⟨P_27, I_28, h_26, hF⟩ := am_b2_el hF
  refine g_callI (pc := 62) (k := 30) (As := [.ref 1, .ref 23]) (st := [.ref 30, .ref 0]) ky_X0_init kl_X11_36 (s_X0_init_30_1_23 (d := 1) (Nat.le_refl _) h_26) rfl rfl (Nat.le_trans (by decide) hd) (Nat.le_of_ble_eq_true rfl) (by decide) (by decide) dX11_init_62 ?_
  rintro _ _ _ _ ⟨rfl, rfl, rfl, rfl⟩
  obtain ⟨P_29, e_P_29, hF⟩ := am_let_el hF
  refine n_putR (pc := 65) (k := 0) e_P_29 kf_X11_37 rfl rfl (by decide) (fun _ => rfl) dX11_init_65 ?_
  refine g_aload_n (pc := 68) dX11_init_68 rfl rfl ?_
  obtain ⟨P_30, e_P_30, hF⟩ := am_let_el hF
  obtain ⟨I_31, e_I_31, hF⟩ := am_let_el hF
  refine n_new (pc := 69) (N := 36) e_P_30 e_I_31 kn_X11_41 rfl (by decide) (by decide) (by decide) dX11_init_69 ?_
  refine g_dup (pc := 72) dX11_init_72 ?_
  refine g_aload_n (pc := 73) dX11_init_73 rfl rfl ?_
  obtain ⟨c_32, hF⟩ := am_gd hF
  refine g_getR (pc := 74) (k := 0) (r := 1) kf_X11_12.r rfl rfl c_32 (by decide) dX11_init_74 ?_
  refine g_aload_n (pc := 77) dX11_init_77 rfl rfl ?_
  obtain ⟨c_33, hF⟩ := am_gd hF
  refine g_getR (pc := 78) (k := 0) (r := 23) kf_X11_21.r rfl rfl c_33 (by decide) dX11_init_78 ?_
  obtain ⟨P_35, I_36, h_34, hF⟩ := am_b2_el hF
  refine g_callI (pc := 81) (k := 36) (As := [.ref 1, .ref 23]) (st := [.ref 36, .ref 0]) ky_X10_init kl_X11_43 (s_X10_init_36_1_23 (d := 1) (Nat.le_refl _) h_34) rfl rfl (Nat.le_trans (by decide) hd) (Nat.le_of_ble_eq_true rfl) (by decide) (by decide) dX11_init_81 ?_
  rintro _ _ _ _ ⟨rfl, rfl, rfl, rfl⟩
  obtain ⟨P_37, e_P_37, hF⟩ := am_let_el hF
  refine n_putR (pc := 84) (k := 0) e_P_37 kf_X11_44 rfl rfl (by decide) (fun _ => rfl) dX11_init_84 ?_
  refine g_aload_n (pc := 87) dX11_init_87 rfl rfl ?_
  obtain ⟨P_38, e_P_38, hF⟩ := am_let_el hF
  obtain ⟨I_39, e_I_39, hF⟩ := am_let_el hF
  refine n_new (pc := 88) (N := 40) e_P_38 e_I_39 kn_X11_48 rfl (by decide) (by decide) (by decide) dX11_init_88 ?_
  refine g_dup (pc := 91) dX11_init_91 ?_
  refine g_aload_n (pc := 92) dX11_init_92 rfl rfl ?_
  obtain ⟨c_40, hF⟩ := am_gd hF
  refine g_getR (pc := 93) (k := 0) (r := 1) kf_X11_12.r rfl rfl c_40 (by decide) dX11_init_93 ?_
  refine g_aload_n (pc := 96) dX11_init_96 rfl rfl ?_
  obtain ⟨c_41, hF⟩ := am_gd hF
  refine g_getR (pc := 97) (k := 0) (r := 23) kf_X11_21.r rfl rfl c_41 (by decide) dX11_init_97 ?_
  obtain ⟨P_43, I_44, h_42, hF⟩ := am_b2_el hF
  refine g_callI (pc := 100) (k := 40) (As := [.ref 1, .ref 23]) (st := [.ref 40, .ref 0]) ky_X4_init kl_X11_50 (s_X4_init_40_1_23 (d := 1) (Nat.le_refl _) h_42) rfl rfl (Nat.le_trans (by decide) hd) (Nat.le_of_ble_eq_true rfl) (by decide) (by decide) dX11_init_100 ?_
  rintro _ _ _ _ ⟨rfl, rfl, rfl, rfl⟩
  obtain ⟨P_45, e_P_45, hF⟩ := am_let_el hF
  refine n_putR (pc := 103) (k := 0) e_P_45 kf_X11_51 rfl rfl (by decide) (fun _ => rfl) dX11_init_103 ?_
  refine g_aload_n (pc := 106) dX11_init_106 rfl rfl ?_
  obtain ⟨P_46, e_P_46, hF⟩ := am_let_el hF
  obtain ⟨I_47, e_I_47, hF⟩ := am_let_el hF
  refine n_new (pc := 107) (N := 43) e_P_46 e_I_47 kn_X11_55 rfl (by decide) (by decide) (by decide) dX11_init_107 ?_
  refine g_dup (pc := 110) dX11_init_110 ?_
  refine g_aload_n (pc := 111) dX11_init_111 rfl rfl ?_
  obtain ⟨c_48, hF⟩ := am_gd hF
  refine g_getR (pc := 112) (k := 0) (r := 1) kf_X11_12.r rfl rfl c_48 (by decide) dX11_init_112 ?_
  refine g_aload_n (pc := 115) dX11_init_115 rfl rfl ?_
  obtain ⟨c_49, hF⟩ := am_gd hF
  refine g_getR (pc := 116) (k := 0) (r := 23) kf_X11_21.r rfl rfl c_49 (by decide) dX11_init_116 ?_
  obtain ⟨P_51, I_52, h_50, hF⟩ := am_b2_el hF
  refine g_callI (pc := 119) (k := 43) (As := [.ref 1, .ref 23]) (st := [.ref 43, .ref 0]) ky_X3_init kl_X11_57 (s_X3_init_43_1_23 (d := 1) (Nat.le_refl _) h_50) rfl rfl (Nat.le_trans (by decide) hd) (Nat.le_of_ble_eq_true rfl) (by decide) (by decide) dX11_init_119 ?_
  rintro _ _ _ _ ⟨rfl, rfl, rfl, rfl⟩
  obtain ⟨P_53, e_P_53, hF⟩ := am_let_el hF
  refine n_putR (pc := 122) (k := 0) e_P_53 kf_X11_58 rfl rfl (by decide) (fun _ => rfl) dX11_init_122 ?_
  refine g_aload_n (pc := 125) dX11_init_125 rfl rfl ?_
  obtain ⟨P_54, e_P_54, hF⟩ := am_let_el hF
  obtain ⟨I_55, e_I_55, hF⟩ := am_let_el hF
  refine n_new (pc := 126) (N := 47) e_P_54 e_I_55 kn_X11_62 rfl (by decide) (by decide) (by decide) dX11_init_126 ?_
  refine g_dup (pc := 129) dX11_init_129 ?_
  obtain ⟨P_57, I_58, h_56, hF⟩ := am_b2_el hF
  refine g_callIN (pc := 130) (k := 47) (As := []) (st := [.ref 47, .ref 0]) ky_X7_init (show (_, _, _, "PaintedByOthers") ∈ am_nest by decide +kernel) (s_X7_init_47 (d := 2) (Nat.le_refl _) h_56) rfl rfl (Nat.le_trans (by decide) hd) (Nat.le_of_ble_eq_true rfl) (by decide) (by decide) dX11_init_130 ?_
  rintro _ _ _ _ ⟨rfl, rfl, rfl, rfl⟩
  obtain ⟨P_59, e_P_59, hF⟩ := am_let_el hF
  refine n_putR (pc := 133) (k := 0) e_P_59 kf_X11_65 rfl rfl (by decide) (fun _ => rfl) dX11_init_133 ?_
  refine g_aload_n (pc := 136) dX11_init_136 rfl rfl ?_
  refine g_sipush (pc := 137) (v := (400 : Int32)) dX11_init_137 rfl ?_
  obtain ⟨P_60, e_P_60, hF⟩ := am_let_el hF
  obtain ⟨I_61, e_I_61, hF⟩ := am_let_el hF
  refine n_newa (pc := 140) (N := 54) (n := 400) e_P_60 e_I_61 rfl (by decide) (by decide) rfl (by decide) (by decide) (by decide) kz_arr dX11_init_140 ?_
  obtain ⟨P_62, e_P_62, hF⟩ := am_let_el hF
  refine n_putR (pc := 142) (k := 0) e_P_62 kf_X11_69 rfl rfl (by decide) (fun _ => rfl) dX11_init_142 ?_
  refine g_aload_n (pc := 145) dX11_init_145 rfl rfl ?_
  refine g_iconst (pc := 146) (v := (0 : Int32)) dX11_init_146 rfl ?_
  obtain ⟨I_63, e_I_63, hF⟩ := am_let_el hF
  refine n_putI (pc := 147) (k := 0) e_I_63 kf_X11_73 rfl rfl (by decide) dX11_init_147 ?_
  refine g_aload_n (pc := 150) dX11_init_150 rfl rfl ?_
  refine g_iconst (pc := 151) (v := (0 : Int32)) dX11_init_151 rfl ?_
  obtain ⟨I_64, e_I_64, hF⟩ := am_let_el hF
  refine n_putI (pc := 152) (k := 0) e_I_64 kf_X11_77 rfl rfl (by decide) dX11_init_152 ?_
  refine g_aload_n (pc := 155) dX11_init_155 rfl rfl ?_
  refine g_iconst (pc := 156) (v := (-1 : Int32)) dX11_init_156 (by decide) ?_
  obtain ⟨I_65, e_I_65, hF⟩ := am_let_el hF
  refine n_putI (pc := 157) (k := 0) e_I_65 kf_X11_80 rfl rfl (by decide) dX11_init_157 ?_
  refine g_aload_n (pc := 160) dX11_init_160 rfl rfl ?_
  refine g_null (pc := 161) dX11_init_161 ?_
  obtain ⟨P_66, e_P_66, hF⟩ := am_let_el hF
  refine n_putN (pc := 162) (k := 0) e_P_66 kf_X11_83 rfl rfl (by decide) dX11_init_162 ?_
  cases hF
  exact g_vret (pc := 165) rfl (by decide) (by decide) dX11_init_165 ⟨rfl, rfl, rfl, rfl⟩
set_option maxRecDepth 100000 in
def F_X12_init_55 (P : am_PT) (I : am_IT) : Option (am_PT × am_IT) := am_let (up2 I 55 2 (3 : Int32)) (fun (I_1 : am_IT) => am_let (zr P 56 none) (fun (P_2 : am_PT) => am_let (zr I_1 56 0) (fun (I_3 : am_IT) => am_let (up2 P_2 55 3 (some 56)) (fun (P_4 : am_PT) => am_let (zr P_4 57 none) (fun (P_5 : am_PT) => am_let (zr I_3 57 0) (fun (I_6 : am_IT) => am_let (up2 P_5 55 6 (some 57)) (fun (P_7 : am_PT) => am_let (zr P_7 58 none) (fun (P_8 : am_PT) => am_let (zr I_6 58 0) (fun (I_9 : am_IT) => am_let (up2 P_8 55 7 (some 58)) (fun (P_10 : am_PT) => am_let (zr P_10 59 none) (fun (P_11 : am_PT) => am_let (zr I_9 59 0) (fun (I_12 : am_IT) => am_let (up2 P_11 55 9 (some 59)) (fun (P_13 : am_PT) => am_let (zr P_13 60 none) (fun (P_14 : am_PT) => am_let (zr I_12 60 0) (fun (I_15 : am_IT) => am_let (up2 P_14 55 10 (some 60)) (fun (P_16 : am_PT) => am_let (zr P_16 61 none) (fun (P_17 : am_PT) => am_let (zr I_15 61 0) (fun (I_18 : am_IT) => am_let (up2 P_17 55 11 (some 61)) (fun (P_19 : am_PT) => am_let (zr P_19 62 none) (fun (P_20 : am_PT) => am_let (zr I_18 62 0) (fun (I_21 : am_IT) => am_let (up2 P_20 55 12 (some 62)) (fun (P_22 : am_PT) => am_let (zr P_22 63 none) (fun (P_23 : am_PT) => am_let (zr I_21 63 0) (fun (I_24 : am_IT) => am_let (up2 P_23 55 14 (some 63)) (fun (P_25 : am_PT) => am_let (zr P_25 64 none) (fun (P_26 : am_PT) => am_let (zr I_24 64 0) (fun (I_27 : am_IT) => am_let (up2 P_26 55 15 (some 64)) (fun (P_28 : am_PT) => am_let (zr P_28 65 none) (fun (P_29 : am_PT) => am_let (zr I_27 65 0) (fun (I_30 : am_IT) => am_let (up2 P_29 55 16 (some 65)) (fun (P_31 : am_PT) => am_let (zr P_31 66 none) (fun (P_32 : am_PT) => am_let (zr I_30 66 0) (fun (I_33 : am_IT) => am_let (up2 P_32 55 17 (some 66)) (fun (P_34 : am_PT) => am_let (zr P_34 67 none) (fun (P_35 : am_PT) => am_let (zr I_33 67 0) (fun (I_36 : am_IT) => am_let (up2 P_35 55 19 (some 67)) (fun (P_37 : am_PT) => am_let (zr P_37 68 none) (fun (P_38 : am_PT) => am_let (zr I_36 68 0) (fun (I_39 : am_IT) => am_let (up2 P_38 55 20 (some 68)) (fun (P_40 : am_PT) => am_let (zr P_40 69 none) (fun (P_41 : am_PT) => am_let (zr I_39 69 0) (fun (I_42 : am_IT) => am_let (up2 P_41 55 21 (some 69)) (fun (P_43 : am_PT) => am_let (zr P_43 70 none) (fun (P_44 : am_PT) => am_let (zr I_42 70 0) (fun (I_45 : am_IT) => am_let (up2 P_44 55 22 (some 70)) (fun (P_46 : am_PT) => am_let (zr P_46 71 none) (fun (P_47 : am_PT) => am_let (zr I_45 71 0) (fun (I_48 : am_IT) => am_let (up2 P_47 55 23 (some 71)) (fun (P_49 : am_PT) => am_let (zr P_49 72 none) (fun (P_50 : am_PT) => am_let (zr I_48 72 0) (fun (I_51 : am_IT) => am_let (up2 P_50 55 24 (some 72)) (fun (P_52 : am_PT) => am_let (zr P_52 73 none) (fun (P_53 : am_PT) => am_let (zr I_51 73 0) (fun (I_54 : am_IT) => am_let (up2 P_53 55 25 (some 73)) (fun (P_55 : am_PT) => am_let (zr P_55 74 none) (fun (P_56 : am_PT) => am_let (zr I_54 74 0) (fun (I_57 : am_IT) => am_let (up2 I_57 74 0 (32 : Int32)) (fun (I_58 : am_IT) => am_let (up2 I_58 74 1 (98 : Int32)) (fun (I_59 : am_IT) => am_let (up2 I_59 74 2 (121 : Int32)) (fun (I_60 : am_IT) => am_let (up2 I_60 74 3 (32 : Int32)) (fun (I_61 : am_IT) => am_let (up2 I_61 74 4 (109 : Int32)) (fun (I_62 : am_IT) => am_let (up2 I_62 74 5 (111 : Int32)) (fun (I_63 : am_IT) => am_let (up2 I_63 74 6 (115 : Int32)) (fun (I_64 : am_IT) => am_let (up2 I_64 74 7 (116 : Int32)) (fun (I_65 : am_IT) => am_let (up2 I_65 74 8 (32 : Int32)) (fun (I_66 : am_IT) => am_let (up2 I_66 74 9 (119 : Int32)) (fun (I_67 : am_IT) => am_let (up2 I_67 74 10 (105 : Int32)) (fun (I_68 : am_IT) => am_let (up2 I_68 74 11 (110 : Int32)) (fun (I_69 : am_IT) => am_let (up2 I_69 74 12 (100 : Int32)) (fun (I_70 : am_IT) => am_let (up2 I_70 74 13 (111 : Int32)) (fun (I_71 : am_IT) => am_let (up2 I_71 74 14 (119 : Int32)) (fun (I_72 : am_IT) => am_let (up2 I_72 74 15 (32 : Int32)) (fun (I_73 : am_IT) => am_let (up2 I_73 74 16 (121 : Int32)) (fun (I_74 : am_IT) => am_let (up2 I_74 74 17 (97 : Int32)) (fun (I_75 : am_IT) => am_let (up2 I_75 74 18 (114 : Int32)) (fun (I_76 : am_IT) => am_let (up2 I_76 74 19 (100 : Int32)) (fun (I_77 : am_IT) => am_let (up2 I_77 74 20 (115 : Int32)) (fun (I_78 : am_IT) => am_let (up2 I_78 74 21 (32 : Int32)) (fun (I_79 : am_IT) => am_let (up2 I_79 74 22 (115 : Int32)) (fun (I_80 : am_IT) => am_let (up2 I_80 74 23 (117 : Int32)) (fun (I_81 : am_IT) => am_let (up2 I_81 74 24 (109 : Int32)) (fun (I_82 : am_IT) => am_let (up2 I_82 74 25 (32 : Int32)) (fun (I_83 : am_IT) => am_let (up2 I_83 74 26 (116 : Int32)) (fun (I_84 : am_IT) => am_let (up2 I_84 74 27 (117 : Int32)) (fun (I_85 : am_IT) => am_let (up2 I_85 74 28 (114 : Int32)) (fun (I_86 : am_IT) => am_let (up2 I_86 74 29 (110 : Int32)) (fun (I_87 : am_IT) => am_let (up2 I_87 74 30 (32 : Int32)) (fun (I_88 : am_IT) => am_let (up2 I_88 74 31 (107 : Int32)) (fun (I_89 : am_IT) => am_let (up2 I_89 74 32 (101 : Int32)) (fun (I_90 : am_IT) => am_let (up2 I_90 74 33 (101 : Int32)) (fun (I_91 : am_IT) => am_let (up2 I_91 74 34 (112 : Int32)) (fun (I_92 : am_IT) => am_let (up2 I_92 74 35 (32 : Int32)) (fun (I_93 : am_IT) => am_let (up2 I_93 74 36 (119 : Int32)) (fun (I_94 : am_IT) => am_let (up2 I_94 74 37 (104 : Int32)) (fun (I_95 : am_IT) => am_let (up2 I_95 74 38 (101 : Int32)) (fun (I_96 : am_IT) => am_let (up2 I_96 74 39 (110 : Int32)) (fun (I_97 : am_IT) => am_let (up2 I_97 74 40 (32 : Int32)) (fun (I_98 : am_IT) => am_let (up2 I_98 74 41 (111 : Int32)) (fun (I_99 : am_IT) => am_let (up2 I_99 74 42 (114 : Int32)) (fun (I_100 : am_IT) => am_let (up2 I_100 74 43 (32 : Int32)) (fun (I_101 : am_IT) => am_let (up2 I_101 74 44 (97 : Int32)) (fun (I_102 : am_IT) => am_let (up2 I_102 74 45 (110 : Int32)) (fun (I_103 : am_IT) => am_let (up2 I_103 74 46 (100 : Int32)) (fun (I_104 : am_IT) => am_let (up2 I_104 74 47 (32 : Int32)) (fun (I_105 : am_IT) => am_let (up2 I_105 74 48 (110 : Int32)) (fun (I_106 : am_IT) => am_let (up2 I_106 74 49 (111 : Int32)) (fun (I_107 : am_IT) => am_let (up2 I_107 74 50 (116 : Int32)) (fun (I_108 : am_IT) => am_let (up2 I_108 74 51 (32 : Int32)) (fun (I_109 : am_IT) => am_let (up2 I_109 74 52 (119 : Int32)) (fun (I_110 : am_IT) => am_let (up2 I_110 74 53 (97 : Int32)) (fun (I_111 : am_IT) => am_let (up2 I_111 74 54 (108 : Int32)) (fun (I_112 : am_IT) => am_let (up2 I_112 74 55 (108 : Int32)) (fun (I_113 : am_IT) => am_let (up2 I_113 74 56 (32 : Int32)) (fun (I_114 : am_IT) => am_let (up2 I_114 74 57 (115 : Int32)) (fun (I_115 : am_IT) => am_let (up2 I_115 74 58 (101 : Int32)) (fun (I_116 : am_IT) => am_let (up2 I_116 74 59 (101 : Int32)) (fun (I_117 : am_IT) => am_let (up2 I_117 74 60 (114 : Int32)) (fun (I_118 : am_IT) => am_let (up2 I_118 74 61 (115 : Int32)) (fun (I_119 : am_IT) => am_let (up2 I_119 74 62 (32 : Int32)) (fun (I_120 : am_IT) => am_let (up2 I_120 74 63 (97 : Int32)) (fun (I_121 : am_IT) => am_let (up2 I_121 74 64 (108 : Int32)) (fun (I_122 : am_IT) => am_let (up2 I_122 74 65 (108 : Int32)) (fun (I_123 : am_IT) => am_let (up2 I_123 74 66 (32 : Int32)) (fun (I_124 : am_IT) => am_let (up2 I_124 74 67 (103 : Int32)) (fun (I_125 : am_IT) => am_let (up2 I_125 74 68 (114 : Int32)) (fun (I_126 : am_IT) => am_let (up2 I_126 74 69 (101 : Int32)) (fun (I_127 : am_IT) => am_let (up2 I_127 74 70 (97 : Int32)) (fun (I_128 : am_IT) => am_let (up2 I_128 74 71 (116 : Int32)) (fun (I_129 : am_IT) => am_let (up2 I_129 74 72 (32 : Int32)) (fun (I_130 : am_IT) => am_let (up2 I_130 74 73 (99 : Int32)) (fun (I_131 : am_IT) => am_let (up2 I_131 74 74 (111 : Int32)) (fun (I_132 : am_IT) => am_let (up2 I_132 74 75 (108 : Int32)) (fun (I_133 : am_IT) => am_let (up2 I_133 74 76 (111 : Int32)) (fun (I_134 : am_IT) => am_let (up2 I_134 74 77 (117 : Int32)) (fun (I_135 : am_IT) => am_let (up2 I_135 74 78 (114 : Int32)) (fun (I_136 : am_IT) => am_let (up2 I_136 74 79 (32 : Int32)) (fun (I_137 : am_IT) => am_let (up2 I_137 74 80 (121 : Int32)) (fun (I_138 : am_IT) => am_let (up2 I_138 74 81 (101 : Int32)) (fun (I_139 : am_IT) => am_let (up2 I_139 74 82 (97 : Int32)) (fun (I_140 : am_IT) => am_let (up2 I_140 74 83 (114 : Int32)) (fun (I_141 : am_IT) => am_let (up2 I_141 74 84 (32 : Int32)) (fun (I_142 : am_IT) => am_let (up2 P_56 55 31 (some 74)) (fun (P_143 : am_PT) => am_let (zr P_143 75 none) (fun (P_144 : am_PT) => am_let (zr I_142 75 0) (fun (I_145 : am_IT) => am_let (up2 P_144 55 33 (some 75)) (fun (P_146 : am_PT) => am_let (zr P_146 76 none) (fun (P_147 : am_PT) => am_let (zr I_145 76 0) (fun (I_148 : am_IT) => am_let (up2 P_147 55 34 (some 76)) (fun (P_149 : am_PT) => am_let (zr P_149 77 none) (fun (P_150 : am_PT) => am_let (zr I_148 77 0) (fun (I_151 : am_IT) => am_let (up2 P_150 55 35 (some 77)) (fun (P_152 : am_PT) => am_let (zr P_152 78 none) (fun (P_153 : am_PT) => am_let (zr I_151 78 0) (fun (I_154 : am_IT) => am_let (up2 P_153 55 36 (some 78)) (fun (P_155 : am_PT) => am_let (zr P_155 79 none) (fun (P_156 : am_PT) => am_let (zr I_154 79 0) (fun (I_157 : am_IT) => am_let (up2 P_156 55 37 (some 79)) (fun (P_158 : am_PT) => am_let (zr P_158 80 none) (fun (P_159 : am_PT) => am_let (zr I_157 80 0) (fun (I_160 : am_IT) => am_let (up2 P_159 55 40 (some 80)) (fun (P_161 : am_PT) => am_let (up2 I_160 55 45 (-1 : Int32)) (fun (I_162 : am_IT) => am_let (zr P_161 81 none) (fun (P_163 : am_PT) => am_let (zr I_162 81 0) (fun (I_164 : am_IT) => am_let (up2 P_163 55 46 (some 81)) (fun (P_165 : am_PT) => am_let (zr P_165 82 none) (fun (P_166 : am_PT) => am_let (zr I_164 82 0) (fun (I_167 : am_IT) => am_let (up2 P_166 55 47 (some 82)) (fun (P_168 : am_PT) => am_let (zr P_168 83 none) (fun (P_169 : am_PT) => am_let (zr I_167 83 0) (fun (I_170 : am_IT) => am_let (up2 P_169 55 48 (some 83)) (fun (P_171 : am_PT) => am_let (up2 I_170 55 49 (-1 : Int32)) (fun (I_172 : am_IT) => am_let (zr P_171 84 none) (fun (P_173 : am_PT) => am_let (zr I_172 84 0) (fun (I_174 : am_IT) => am_let (up2 P_173 55 51 (some 84)) (fun (P_175 : am_PT) => am_let (zr P_175 85 none) (fun (P_176 : am_PT) => am_let (zr I_174 85 0) (fun (I_177 : am_IT) => am_let (up2 P_176 55 54 (some 85)) (fun (P_178 : am_PT) => am_let (zr P_178 86 none) (fun (P_179 : am_PT) => am_let (zr I_177 86 0) (fun (I_180 : am_IT) => am_let (up2 P_179 55 55 (some 86)) (fun (P_181 : am_PT) => am_let (zr P_181 87 none) (fun (P_182 : am_PT) => am_let (zr I_180 87 0) (fun (I_183 : am_IT) => am_let (up2 P_182 55 56 (some 87)) (fun (P_184 : am_PT) => am_let (zr P_184 88 none) (fun (P_185 : am_PT) => am_let (zr I_183 88 0) (fun (I_186 : am_IT) => am_let (up2 P_185 55 57 (some 88)) (fun (P_187 : am_PT) => am_let (zr P_187 89 none) (fun (P_188 : am_PT) => am_let (zr I_186 89 0) (fun (I_189 : am_IT) => am_let (up2 P_188 55 58 (some 89)) (fun (P_190 : am_PT) => am_let (zr P_190 90 none) (fun (P_191 : am_PT) => am_let (zr I_189 90 0) (fun (I_192 : am_IT) => am_let (up2 P_191 55 59 (some 90)) (fun (P_193 : am_PT) => am_let (zr P_193 91 none) (fun (P_194 : am_PT) => am_let (zr I_192 91 0) (fun (I_195 : am_IT) => am_let (up2 P_194 55 60 (some 91)) (fun (P_196 : am_PT) => am_let (zr P_196 92 none) (fun (P_197 : am_PT) => am_let (zr I_195 92 0) (fun (I_198 : am_IT) => am_let (up2 P_197 55 61 (some 92)) (fun (P_199 : am_PT) => am_let (zr P_199 93 none) (fun (P_200 : am_PT) => am_let (zr I_198 93 0) (fun (I_201 : am_IT) => am_let (up2 P_200 55 67 (some 93)) (fun (P_202 : am_PT) => some (P_202, I_201)))))))))))))))))))))))))))))))))))))))))))))))))))))))))))))))))))))))))))))))))))))))))))))))))))))))))))))))))))))))))))))))))))))))))))))))))))))))))))))))))))))))))))))))))))))))))))))))))))))))))))
set_option maxRecDepth 100000 in
set_option maxHeartbeats 4000000 in
theorem s_X12_init_55 {l : Launch} {d : Nat} (hd : 1 ≤ d) {P : am_PT} {I : am_IT} {P2 : am_PT} {I2 : am_IT} (hF : F_X12_init_55 P I = some (P2, I2)) : am_C l d 38 6687 mX12_init [.ref 55] 56 P I (am_qa 94 P2 I2) := by
  refine am_body (sc := am_sc0) (n := 0) (by decide +kernel) (by decide) rfl ?_
  change G am_sc0 l d 38 6687 mX12_init (am_qa 94 P2 I2) 0 [.ref 55] [] 56 P I 0 0
  unfold F_X12_init_55 at hF
  refine g_aload_n (pc := 0) dX12_init_0 rfl rfl ?_
  refine g_objInit (pc := 1) (k := 55) kl_X12_1 kz_oi kz_oc (Nat.le_trans (by decide) hd) (Nat.le_of_ble_eq_true rfl) dX12_init_1 ?_
  refine g_aload_n (pc := 4) dX12_init_4 rfl rfl ?_
  refine g_iconst (pc := 5) (v := (3 : Int32)) dX12_init_5 rfl ?_
  obtain ⟨I_1, e_I_1, hF⟩ := am_let_el hF
  refine n_putI (pc := 6) (k := 55) e_I_1 kf_X12_7 rfl rfl (by decide) dX12_init_6 ?_
  refine g_aload_n (pc := 9) dX12_init_9 rfl rfl ?_
  refine g_iconst (pc := 10) (v := (4 : Int32)) dX12_init_10 rfl ?_
  obtain ⟨P_2, e_P_2, hF⟩ := am_let_el hF
  obtain ⟨I_3, e_I_3, hF⟩ := am_let_el hF
  refine n_newa (pc := 11) (N := 56) (n := 4) e_P_2 e_I_3 rfl (by decide) (by decide) rfl (by decide) (by decide) (by decide) kz_arr dX12_init_11 ?_
  obtain ⟨P_4, e_P_4, hF⟩ := am_let_el hF
  refine n_putR (pc := 13) (k := 55) e_P_4 kf_X12_13 rfl rfl (by decide) (fun _ => rfl) dX12_init_13 ?_
  refine g_aload_n (pc := 16) dX12_init_16 rfl rfl ?_
  refine g_bipush (pc := 17) (v := (7 : Int32)) dX12_init_17 rfl ?_
  obtain ⟨P_5, e_P_5, hF⟩ := am_let_el hF
  obtain ⟨I_6, e_I_6, hF⟩ := am_let_el hF
  refine n_newa (pc := 19) (N := 57) (n := 7) e_P_5 e_I_6 rfl (by decide) (by decide) rfl (by decide) (by decide) (by decide) kz_arr dX12_init_19 ?_
  obtain ⟨P_7, e_P_7, hF⟩ := am_let_el hF
  refine n_putR (pc := 21) (k := 55) e_P_7 kf_X12_17 rfl rfl (by decide) (fun _ => rfl) dX12_init_21 ?_
  refine g_aload_n (pc := 24) dX12_init_24 rfl rfl ?_
  refine g_bipush (pc := 25) (v := (56 : Int32)) dX12_init_25 rfl ?_
  obtain ⟨P_8, e_P_8, hF⟩ := am_let_el hF
  obtain ⟨I_9, e_I_9, hF⟩ := am_let_el hF
  refine n_newa (pc := 27) (N := 58) (n := 56) e_P_8 e_I_9 rfl (by decide) (by decide) rfl (by decide) (by decide) (by decide) kz_arr dX12_init_27 ?_
  obtain ⟨P_10, e_P_10, hF⟩ := am_let_el hF
  refine n_putR (pc := 29) (k := 55) e_P_10 kf_X12_20 rfl rfl (by decide) (fun _ => rfl) dX12_init_29 ?_
  refine g_aload_n (pc := 32) dX12_init_32 rfl rfl ?_
  refine g_bipush (pc := 33) (v := (20 : Int32)) dX12_init_33 rfl ?_
  obtain ⟨P_11, e_P_11, hF⟩ := am_let_el hF
  obtain ⟨I_12, e_I_12, hF⟩ := am_let_el hF
  refine n_newa (pc := 35) (N := 59) (n := 20) e_P_11 e_I_12 rfl (by decide) (by decide) rfl (by decide) (by decide) (by decide) kz_arr dX12_init_35 ?_
  obtain ⟨P_13, e_P_13, hF⟩ := am_let_el hF
  refine n_putR (pc := 37) (k := 55) e_P_13 kf_X12_23 rfl rfl (by decide) (fun _ => rfl) dX12_init_37 ?_
  refine g_aload_n (pc := 40) dX12_init_40 rfl rfl ?_
  refine g_bipush (pc := 41) (v := (20 : Int32)) dX12_init_41 rfl ?_
  obtain ⟨P_14, e_P_14, hF⟩ := am_let_el hF
  obtain ⟨I_15, e_I_15, hF⟩ := am_let_el hF
  refine n_newa (pc := 43) (N := 60) (n := 20) e_P_14 e_I_15 rfl (by decide) (by decide) rfl (by decide) (by decide) (by decide) kz_arr dX12_init_43 ?_
  obtain ⟨P_16, e_P_16, hF⟩ := am_let_el hF
  refine n_putR (pc := 45) (k := 55) e_P_16 kf_X12_26 rfl rfl (by decide) (fun _ => rfl) dX12_init_45 ?_
  refine g_aload_n (pc := 48) dX12_init_48 rfl rfl ?_
  refine g_bipush (pc := 49) (v := (20 : Int32)) dX12_init_49 rfl ?_
  obtain ⟨P_17, e_P_17, hF⟩ := am_let_el hF
  obtain ⟨I_18, e_I_18, hF⟩ := am_let_el hF
  refine n_newa (pc := 51) (N := 61) (n := 20) e_P_17 e_I_18 rfl (by decide) (by decide) rfl (by decide) (by decide) (by decide) kz_arr dX12_init_51 ?_
  obtain ⟨P_19, e_P_19, hF⟩ := am_let_el hF
  refine n_putR (pc := 53) (k := 55) e_P_19 kf_X12_29 rfl rfl (by decide) (fun _ => rfl) dX12_init_53 ?_
  refine g_aload_n (pc := 56) dX12_init_56 rfl rfl ?_
  refine g_bipush (pc := 57) (v := (20 : Int32)) dX12_init_57 rfl ?_
  obtain ⟨P_20, e_P_20, hF⟩ := am_let_el hF
  obtain ⟨I_21, e_I_21, hF⟩ := am_let_el hF
  refine n_newa (pc := 59) (N := 62) (n := 20) e_P_20 e_I_21 rfl (by decide) (by decide) rfl (by decide) (by decide) (by decide) kz_arr dX12_init_59 ?_
  obtain ⟨P_22, e_P_22, hF⟩ := am_let_el hF
  refine n_putR (pc := 61) (k := 55) e_P_22 kf_X12_32 rfl rfl (by decide) (fun _ => rfl) dX12_init_61 ?_
  refine g_aload_n (pc := 64) dX12_init_64 rfl rfl ?_
  refine g_bipush (pc := 65) (v := (28 : Int32)) dX12_init_65 rfl ?_
  obtain ⟨P_23, e_P_23, hF⟩ := am_let_el hF
  obtain ⟨I_24, e_I_24, hF⟩ := am_let_el hF
  refine n_newa (pc := 67) (N := 63) (n := 28) e_P_23 e_I_24 rfl (by decide) (by decide) rfl (by decide) (by decide) (by decide) kz_arr dX12_init_67 ?_
  obtain ⟨P_25, e_P_25, hF⟩ := am_let_el hF
  refine n_putR (pc := 69) (k := 55) e_P_25 kf_X12_35 rfl rfl (by decide) (fun _ => rfl) dX12_init_69 ?_
  refine g_aload_n (pc := 72) dX12_init_72 rfl rfl ?_
  refine g_bipush (pc := 73) (v := (28 : Int32)) dX12_init_73 rfl ?_
  obtain ⟨P_26, e_P_26, hF⟩ := am_let_el hF
  obtain ⟨I_27, e_I_27, hF⟩ := am_let_el hF
  refine n_newa (pc := 75) (N := 64) (n := 28) e_P_26 e_I_27 rfl (by decide) (by decide) rfl (by decide) (by decide) (by decide) kz_arr dX12_init_75 ?_
  obtain ⟨P_28, e_P_28, hF⟩ := am_let_el hF
  refine n_putR (pc := 77) (k := 55) e_P_28 kf_X12_38 rfl rfl (by decide) (fun _ => rfl) dX12_init_77 ?_
  refine g_aload_n (pc := 80) dX12_init_80 rfl rfl ?_
  refine g_bipush (pc := 81) (v := (7 : Int32)) dX12_init_81 rfl ?_
  obtain ⟨P_29, e_P_29, hF⟩ := am_let_el hF
  obtain ⟨I_30, e_I_30, hF⟩ := am_let_el hF
  refine n_newa (pc := 83) (N := 65) (n := 7) e_P_29 e_I_30 rfl (by decide) (by decide) rfl (by decide) (by decide) (by decide) kz_arr dX12_init_83 ?_
  obtain ⟨P_31, e_P_31, hF⟩ := am_let_el hF
  refine n_putR (pc := 85) (k := 55) e_P_31 kf_X12_41 rfl rfl (by decide) (fun _ => rfl) dX12_init_85 ?_
  refine g_aload_n (pc := 88) dX12_init_88 rfl rfl ?_
  refine g_bipush (pc := 89) (v := (49 : Int32)) dX12_init_89 rfl ?_
  obtain ⟨P_32, e_P_32, hF⟩ := am_let_el hF
  obtain ⟨I_33, e_I_33, hF⟩ := am_let_el hF
  refine n_newa (pc := 91) (N := 66) (n := 49) e_P_32 e_I_33 rfl (by decide) (by decide) rfl (by decide) (by decide) (by decide) kz_arr dX12_init_91 ?_
  obtain ⟨P_34, e_P_34, hF⟩ := am_let_el hF
  refine n_putR (pc := 93) (k := 55) e_P_34 kf_X12_44 rfl rfl (by decide) (fun _ => rfl) dX12_init_93 ?_
  refine g_aload_n (pc := 96) dX12_init_96 rfl rfl ?_
  refine g_bipush (pc := 97) (v := (40 : Int32)) dX12_init_97 rfl ?_
  obtain ⟨P_35, e_P_35, hF⟩ := am_let_el hF
  obtain ⟨I_36, e_I_36, hF⟩ := am_let_el hF
  refine n_newa (pc := 99) (N := 67) (n := 40) e_P_35 e_I_36 rfl (by decide) (by decide) rfl (by decide) (by decide) (by decide) kz_arr dX12_init_99 ?_
  obtain ⟨P_37, e_P_37, hF⟩ := am_let_el hF
  refine n_putR (pc := 101) (k := 55) e_P_37 kf_X12_47 rfl rfl (by decide) (fun _ => rfl) dX12_init_101 ?_
  refine g_aload_n (pc := 104) dX12_init_104 rfl rfl ?_
  refine g_bipush (pc := 105) (v := (40 : Int32)) dX12_init_105 rfl ?_
  obtain ⟨P_38, e_P_38, hF⟩ := am_let_el hF
  obtain ⟨I_39, e_I_39, hF⟩ := am_let_el hF
  refine n_newa (pc := 107) (N := 68) (n := 40) e_P_38 e_I_39 rfl (by decide) (by decide) rfl (by decide) (by decide) (by decide) kz_arr dX12_init_107 ?_
  obtain ⟨P_40, e_P_40, hF⟩ := am_let_el hF
  refine n_putR (pc := 109) (k := 55) e_P_40 kf_X12_50 rfl rfl (by decide) (fun _ => rfl) dX12_init_109 ?_
  refine g_aload_n (pc := 112) dX12_init_112 rfl rfl ?_
  refine g_bipush (pc := 113) (v := (40 : Int32)) dX12_init_113 rfl ?_
  obtain ⟨P_41, e_P_41, hF⟩ := am_let_el hF
  obtain ⟨I_42, e_I_42, hF⟩ := am_let_el hF
  refine n_newa (pc := 115) (N := 69) (n := 40) e_P_41 e_I_42 rfl (by decide) (by decide) rfl (by decide) (by decide) (by decide) kz_arr dX12_init_115 ?_
  obtain ⟨P_43, e_P_43, hF⟩ := am_let_el hF
  refine n_putR (pc := 117) (k := 55) e_P_43 kf_X12_53 rfl rfl (by decide) (fun _ => rfl) dX12_init_117 ?_
  refine g_aload_n (pc := 120) dX12_init_120 rfl rfl ?_
  refine g_bipush (pc := 121) (v := (9 : Int32)) dX12_init_121 rfl ?_
  obtain ⟨P_44, e_P_44, hF⟩ := am_let_el hF
  obtain ⟨I_45, e_I_45, hF⟩ := am_let_el hF
  refine n_newa (pc := 123) (N := 70) (n := 9) e_P_44 e_I_45 rfl (by decide) (by decide) rfl (by decide) (by decide) (by decide) kz_arr dX12_init_123 ?_
  obtain ⟨P_46, e_P_46, hF⟩ := am_let_el hF
  refine n_putR (pc := 125) (k := 55) e_P_46 kf_X12_56 rfl rfl (by decide) (fun _ => rfl) dX12_init_125 ?_
  refine g_aload_n (pc := 128) dX12_init_128 rfl rfl ?_
  refine g_bipush (pc := 129) (v := (9 : Int32)) dX12_init_129 rfl ?_
  obtain ⟨P_47, e_P_47, hF⟩ := am_let_el hF
  obtain ⟨I_48, e_I_48, hF⟩ := am_let_el hF
  refine n_newa (pc := 131) (N := 71) (n := 9) e_P_47 e_I_48 rfl (by decide) (by decide) rfl (by decide) (by decide) (by decide) kz_arr dX12_init_131 ?_
  obtain ⟨P_49, e_P_49, hF⟩ := am_let_el hF
  refine n_putR (pc := 133) (k := 55) e_P_49 kf_X12_59 rfl rfl (by decide) (fun _ => rfl) dX12_init_133 ?_
  refine g_aload_n (pc := 136) dX12_init_136 rfl rfl ?_
  refine g_bipush (pc := 137) (v := (35 : Int32)) dX12_init_137 rfl ?_
  obtain ⟨P_50, e_P_50, hF⟩ := am_let_el hF
  obtain ⟨I_51, e_I_51, hF⟩ := am_let_el hF
  refine n_newa (pc := 139) (N := 72) (n := 35) e_P_50 e_I_51 rfl (by decide) (by decide) rfl (by decide) (by decide) (by decide) kz_arr dX12_init_139 ?_
  obtain ⟨P_52, e_P_52, hF⟩ := am_let_el hF
  refine n_putR (pc := 141) (k := 55) e_P_52 kf_X12_62 rfl rfl (by decide) (fun _ => rfl) dX12_init_141 ?_
  refine g_aload_n (pc := 144) dX12_init_144 rfl rfl ?_
  refine g_sipush (pc := 145) (v := (400 : Int32)) dX12_init_145 rfl ?_
  obtain ⟨P_53, e_P_53, hF⟩ := am_let_el hF
  obtain ⟨I_54, e_I_54, hF⟩ := am_let_el hF
  refine n_newa (pc := 148) (N := 73) (n := 400) e_P_53 e_I_54 rfl (by decide) (by decide) rfl (by decide) (by decide) (by decide) kz_arr dX12_init_148 ?_
  obtain ⟨P_55, e_P_55, hF⟩ := am_let_el hF
  refine n_putR (pc := 150) (k := 55) e_P_55 kf_X12_65 rfl rfl (by decide) (fun _ => rfl) dX12_init_150 ?_
  refine g_aload_n (pc := 153) dX12_init_153 rfl rfl ?_
  refine g_bipush (pc := 154) (v := (85 : Int32)) dX12_init_154 rfl ?_
  obtain ⟨P_56, e_P_56, hF⟩ := am_let_el hF
  obtain ⟨I_57, e_I_57, hF⟩ := am_let_el hF
  refine n_newa (pc := 156) (N := 74) (n := 85) e_P_56 e_I_57 rfl (by decide) (by decide) rfl (by decide) (by decide) (by decide) kz_arr dX12_init_156 ?_
  refine g_dup (pc := 158) dX12_init_158 ?_
  refine g_iconst (pc := 159) (v := (0 : Int32)) dX12_init_159 rfl ?_
  refine g_bipush (pc := 160) (v := (32 : Int32)) dX12_init_160 rfl ?_
  obtain ⟨I_58, e_I_58, hF⟩ := am_let_el hF
  refine n_iast (pc := 162) (k := 74) (I2 := I_58) e_I_58 rfl (by decide) (am_ix_use (by decide)) dX12_init_162 ?_
  refine g_dup (pc := 163) dX12_init_163 ?_
  refine g_iconst (pc := 164) (v := (1 : Int32)) dX12_init_164 rfl ?_
  refine g_bipush (pc := 165) (v := (98 : Int32)) dX12_init_165 rfl ?_
  obtain ⟨I_59, e_I_59, hF⟩ := am_let_el hF
  refine n_iast (pc := 167) (k := 74) (I2 := I_59) e_I_59 rfl (by decide) (am_ix_use (by decide)) dX12_init_167 ?_
  refine g_dup (pc := 168) dX12_init_168 ?_
  refine g_iconst (pc := 169) (v := (2 : Int32)) dX12_init_169 rfl ?_
  refine g_bipush (pc := 170) (v := (121 : Int32)) dX12_init_170 rfl ?_
  obtain ⟨I_60, e_I_60, hF⟩ := am_let_el hF
  refine n_iast (pc := 172) (k := 74) (I2 := I_60) e_I_60 rfl (by decide) (am_ix_use (by decide)) dX12_init_172 ?_
  refine g_dup (pc := 173) dX12_init_173 ?_
  refine g_iconst (pc := 174) (v := (3 : Int32)) dX12_init_174 rfl ?_
  refine g_bipush (pc := 175) (v := (32 : Int32)) dX12_init_175 rfl ?_
  obtain ⟨I_61, e_I_61, hF⟩ := am_let_el hF
  refine n_iast (pc := 177) (k := 74) (I2 := I_61) e_I_61 rfl (by decide) (am_ix_use (by decide)) dX12_init_177 ?_
  refine g_dup (pc := 178) dX12_init_178 ?_
  refine g_iconst (pc := 179) (v := (4 : Int32)) dX12_init_179 rfl ?_
  refine g_bipush (pc := 180) (v := (109 : Int32)) dX12_init_180 rfl ?_
  obtain ⟨I_62, e_I_62, hF⟩ := am_let_el hF
  refine n_iast (pc := 182) (k := 74) (I2 := I_62) e_I_62 rfl (by decide) (am_ix_use (by decide)) dX12_init_182 ?_
  refine g_dup (pc := 183) dX12_init_183 ?_
  refine g_iconst (pc := 184) (v := (5 : Int32)) dX12_init_184 rfl ?_
  refine g_bipush (pc := 185) (v := (111 : Int32)) dX12_init_185 rfl ?_
  obtain ⟨I_63, e_I_63, hF⟩ := am_let_el hF
  refine n_iast (pc := 187) (k := 74) (I2 := I_63) e_I_63 rfl (by decide) (am_ix_use (by decide)) dX12_init_187 ?_
  refine g_dup (pc := 188) dX12_init_188 ?_
  refine g_bipush (pc := 189) (v := (6 : Int32)) dX12_init_189 rfl ?_
  refine g_bipush (pc := 191) (v := (115 : Int32)) dX12_init_191 rfl ?_
  obtain ⟨I_64, e_I_64, hF⟩ := am_let_el hF
  refine n_iast (pc := 193) (k := 74) (I2 := I_64) e_I_64 rfl (by decide) (am_ix_use (by decide)) dX12_init_193 ?_
  refine g_dup (pc := 194) dX12_init_194 ?_
  refine g_bipush (pc := 195) (v := (7 : Int32)) dX12_init_195 rfl ?_
  refine g_bipush (pc := 197) (v := (116 : Int32)) dX12_init_197 rfl ?_
  obtain ⟨I_65, e_I_65, hF⟩ := am_let_el hF
  refine n_iast (pc := 199) (k := 74) (I2 := I_65) e_I_65 rfl (by decide) (am_ix_use (by decide)) dX12_init_199 ?_
  refine g_dup (pc := 200) dX12_init_200 ?_
  refine g_bipush (pc := 201) (v := (8 : Int32)) dX12_init_201 rfl ?_
  refine g_bipush (pc := 203) (v := (32 : Int32)) dX12_init_203 rfl ?_
  obtain ⟨I_66, e_I_66, hF⟩ := am_let_el hF
  refine n_iast (pc := 205) (k := 74) (I2 := I_66) e_I_66 rfl (by decide) (am_ix_use (by decide)) dX12_init_205 ?_
  refine g_dup (pc := 206) dX12_init_206 ?_
  refine g_bipush (pc := 207) (v := (9 : Int32)) dX12_init_207 rfl ?_
  refine g_bipush (pc := 209) (v := (119 : Int32)) dX12_init_209 rfl ?_
  obtain ⟨I_67, e_I_67, hF⟩ := am_let_el hF
  refine n_iast (pc := 211) (k := 74) (I2 := I_67) e_I_67 rfl (by decide) (am_ix_use (by decide)) dX12_init_211 ?_
  refine g_dup (pc := 212) dX12_init_212 ?_
  refine g_bipush (pc := 213) (v := (10 : Int32)) dX12_init_213 rfl ?_
  refine g_bipush (pc := 215) (v := (105 : Int32)) dX12_init_215 rfl ?_
  obtain ⟨I_68, e_I_68, hF⟩ := am_let_el hF
  refine n_iast (pc := 217) (k := 74) (I2 := I_68) e_I_68 rfl (by decide) (am_ix_use (by decide)) dX12_init_217 ?_
  refine g_dup (pc := 218) dX12_init_218 ?_
  refine g_bipush (pc := 219) (v := (11 : Int32)) dX12_init_219 rfl ?_
  refine g_bipush (pc := 221) (v := (110 : Int32)) dX12_init_221 rfl ?_
  obtain ⟨I_69, e_I_69, hF⟩ := am_let_el hF
  refine n_iast (pc := 223) (k := 74) (I2 := I_69) e_I_69 rfl (by decide) (am_ix_use (by decide)) dX12_init_223 ?_
  refine g_dup (pc := 224) dX12_init_224 ?_
  refine g_bipush (pc := 225) (v := (12 : Int32)) dX12_init_225 rfl ?_
  refine g_bipush (pc := 227) (v := (100 : Int32)) dX12_init_227 rfl ?_
  obtain ⟨I_70, e_I_70, hF⟩ := am_let_el hF
  refine n_iast (pc := 229) (k := 74) (I2 := I_70) e_I_70 rfl (by decide) (am_ix_use (by decide)) dX12_init_229 ?_
  refine g_dup (pc := 230) dX12_init_230 ?_
  refine g_bipush (pc := 231) (v := (13 : Int32)) dX12_init_231 rfl ?_
  refine g_bipush (pc := 233) (v := (111 : Int32)) dX12_init_233 rfl ?_
  obtain ⟨I_71, e_I_71, hF⟩ := am_let_el hF
  refine n_iast (pc := 235) (k := 74) (I2 := I_71) e_I_71 rfl (by decide) (am_ix_use (by decide)) dX12_init_235 ?_
  refine g_dup (pc := 236) dX12_init_236 ?_
  refine g_bipush (pc := 237) (v := (14 : Int32)) dX12_init_237 rfl ?_
  refine g_bipush (pc := 239) (v := (119 : Int32)) dX12_init_239 rfl ?_
  obtain ⟨I_72, e_I_72, hF⟩ := am_let_el hF
  refine n_iast (pc := 241) (k := 74) (I2 := I_72) e_I_72 rfl (by decide) (am_ix_use (by decide)) dX12_init_241 ?_
  refine g_dup (pc := 242) dX12_init_242 ?_
  refine g_bipush (pc := 243) (v := (15 : Int32)) dX12_init_243 rfl ?_
  refine g_bipush (pc := 245) (v := (32 : Int32)) dX12_init_245 rfl ?_
  obtain ⟨I_73, e_I_73, hF⟩ := am_let_el hF
  refine n_iast (pc := 247) (k := 74) (I2 := I_73) e_I_73 rfl (by decide) (am_ix_use (by decide)) dX12_init_247 ?_
  refine g_dup (pc := 248) dX12_init_248 ?_
  refine g_bipush (pc := 249) (v := (16 : Int32)) dX12_init_249 rfl ?_
  refine g_bipush (pc := 251) (v := (121 : Int32)) dX12_init_251 rfl ?_
  obtain ⟨I_74, e_I_74, hF⟩ := am_let_el hF
  refine n_iast (pc := 253) (k := 74) (I2 := I_74) e_I_74 rfl (by decide) (am_ix_use (by decide)) dX12_init_253 ?_
  refine g_dup (pc := 254) dX12_init_254 ?_
  refine g_bipush (pc := 255) (v := (17 : Int32)) dX12_init_255 rfl ?_
  refine g_bipush (pc := 257) (v := (97 : Int32)) dX12_init_257 rfl ?_
  obtain ⟨I_75, e_I_75, hF⟩ := am_let_el hF
  refine n_iast (pc := 259) (k := 74) (I2 := I_75) e_I_75 rfl (by decide) (am_ix_use (by decide)) dX12_init_259 ?_
  refine g_dup (pc := 260) dX12_init_260 ?_
  refine g_bipush (pc := 261) (v := (18 : Int32)) dX12_init_261 rfl ?_
  refine g_bipush (pc := 263) (v := (114 : Int32)) dX12_init_263 rfl ?_
  obtain ⟨I_76, e_I_76, hF⟩ := am_let_el hF
  refine n_iast (pc := 265) (k := 74) (I2 := I_76) e_I_76 rfl (by decide) (am_ix_use (by decide)) dX12_init_265 ?_
  refine g_dup (pc := 266) dX12_init_266 ?_
  refine g_bipush (pc := 267) (v := (19 : Int32)) dX12_init_267 rfl ?_
  refine g_bipush (pc := 269) (v := (100 : Int32)) dX12_init_269 rfl ?_
  obtain ⟨I_77, e_I_77, hF⟩ := am_let_el hF
  refine n_iast (pc := 271) (k := 74) (I2 := I_77) e_I_77 rfl (by decide) (am_ix_use (by decide)) dX12_init_271 ?_
  refine g_dup (pc := 272) dX12_init_272 ?_
  refine g_bipush (pc := 273) (v := (20 : Int32)) dX12_init_273 rfl ?_
  refine g_bipush (pc := 275) (v := (115 : Int32)) dX12_init_275 rfl ?_
  obtain ⟨I_78, e_I_78, hF⟩ := am_let_el hF
  refine n_iast (pc := 277) (k := 74) (I2 := I_78) e_I_78 rfl (by decide) (am_ix_use (by decide)) dX12_init_277 ?_
  refine g_dup (pc := 278) dX12_init_278 ?_
  refine g_bipush (pc := 279) (v := (21 : Int32)) dX12_init_279 rfl ?_
  refine g_bipush (pc := 281) (v := (32 : Int32)) dX12_init_281 rfl ?_
  obtain ⟨I_79, e_I_79, hF⟩ := am_let_el hF
  refine n_iast (pc := 283) (k := 74) (I2 := I_79) e_I_79 rfl (by decide) (am_ix_use (by decide)) dX12_init_283 ?_
  refine g_dup (pc := 284) dX12_init_284 ?_
  refine g_bipush (pc := 285) (v := (22 : Int32)) dX12_init_285 rfl ?_
  refine g_bipush (pc := 287) (v := (115 : Int32)) dX12_init_287 rfl ?_
  obtain ⟨I_80, e_I_80, hF⟩ := am_let_el hF
  refine n_iast (pc := 289) (k := 74) (I2 := I_80) e_I_80 rfl (by decide) (am_ix_use (by decide)) dX12_init_289 ?_
  refine g_dup (pc := 290) dX12_init_290 ?_
  refine g_bipush (pc := 291) (v := (23 : Int32)) dX12_init_291 rfl ?_
  refine g_bipush (pc := 293) (v := (117 : Int32)) dX12_init_293 rfl ?_
  obtain ⟨I_81, e_I_81, hF⟩ := am_let_el hF
  refine n_iast (pc := 295) (k := 74) (I2 := I_81) e_I_81 rfl (by decide) (am_ix_use (by decide)) dX12_init_295 ?_
  refine g_dup (pc := 296) dX12_init_296 ?_
  refine g_bipush (pc := 297) (v := (24 : Int32)) dX12_init_297 rfl ?_
  refine g_bipush (pc := 299) (v := (109 : Int32)) dX12_init_299 rfl ?_
  obtain ⟨I_82, e_I_82, hF⟩ := am_let_el hF
  refine n_iast (pc := 301) (k := 74) (I2 := I_82) e_I_82 rfl (by decide) (am_ix_use (by decide)) dX12_init_301 ?_
  refine g_dup (pc := 302) dX12_init_302 ?_
  refine g_bipush (pc := 303) (v := (25 : Int32)) dX12_init_303 rfl ?_
  refine g_bipush (pc := 305) (v := (32 : Int32)) dX12_init_305 rfl ?_
  obtain ⟨I_83, e_I_83, hF⟩ := am_let_el hF
  refine n_iast (pc := 307) (k := 74) (I2 := I_83) e_I_83 rfl (by decide) (am_ix_use (by decide)) dX12_init_307 ?_
  refine g_dup (pc := 308) dX12_init_308 ?_
  refine g_bipush (pc := 309) (v := (26 : Int32)) dX12_init_309 rfl ?_
  refine g_bipush (pc := 311) (v := (116 : Int32)) dX12_init_311 rfl ?_
  obtain ⟨I_84, e_I_84, hF⟩ := am_let_el hF
  refine n_iast (pc := 313) (k := 74) (I2 := I_84) e_I_84 rfl (by decide) (am_ix_use (by decide)) dX12_init_313 ?_
  refine g_dup (pc := 314) dX12_init_314 ?_
  refine g_bipush (pc := 315) (v := (27 : Int32)) dX12_init_315 rfl ?_
  refine g_bipush (pc := 317) (v := (117 : Int32)) dX12_init_317 rfl ?_
  obtain ⟨I_85, e_I_85, hF⟩ := am_let_el hF
  refine n_iast (pc := 319) (k := 74) (I2 := I_85) e_I_85 rfl (by decide) (am_ix_use (by decide)) dX12_init_319 ?_
  refine g_dup (pc := 320) dX12_init_320 ?_
  refine g_bipush (pc := 321) (v := (28 : Int32)) dX12_init_321 rfl ?_
  refine g_bipush (pc := 323) (v := (114 : Int32)) dX12_init_323 rfl ?_
  obtain ⟨I_86, e_I_86, hF⟩ := am_let_el hF
  refine n_iast (pc := 325) (k := 74) (I2 := I_86) e_I_86 rfl (by decide) (am_ix_use (by decide)) dX12_init_325 ?_
  refine g_dup (pc := 326) dX12_init_326 ?_
  refine g_bipush (pc := 327) (v := (29 : Int32)) dX12_init_327 rfl ?_
  refine g_bipush (pc := 329) (v := (110 : Int32)) dX12_init_329 rfl ?_
  obtain ⟨I_87, e_I_87, hF⟩ := am_let_el hF
  refine n_iast (pc := 331) (k := 74) (I2 := I_87) e_I_87 rfl (by decide) (am_ix_use (by decide)) dX12_init_331 ?_
  refine g_dup (pc := 332) dX12_init_332 ?_
  refine g_bipush (pc := 333) (v := (30 : Int32)) dX12_init_333 rfl ?_
  refine g_bipush (pc := 335) (v := (32 : Int32)) dX12_init_335 rfl ?_
  obtain ⟨I_88, e_I_88, hF⟩ := am_let_el hF
  refine n_iast (pc := 337) (k := 74) (I2 := I_88) e_I_88 rfl (by decide) (am_ix_use (by decide)) dX12_init_337 ?_
  refine g_dup (pc := 338) dX12_init_338 ?_
  refine g_bipush (pc := 339) (v := (31 : Int32)) dX12_init_339 rfl ?_
  refine g_bipush (pc := 341) (v := (107 : Int32)) dX12_init_341 rfl ?_
  obtain ⟨I_89, e_I_89, hF⟩ := am_let_el hF
  refine n_iast (pc := 343) (k := 74) (I2 := I_89) e_I_89 rfl (by decide) (am_ix_use (by decide)) dX12_init_343 ?_
  refine g_dup (pc := 344) dX12_init_344 ?_
  refine g_bipush (pc := 345) (v := (32 : Int32)) dX12_init_345 rfl ?_
  refine g_bipush (pc := 347) (v := (101 : Int32)) dX12_init_347 rfl ?_
  obtain ⟨I_90, e_I_90, hF⟩ := am_let_el hF
  refine n_iast (pc := 349) (k := 74) (I2 := I_90) e_I_90 rfl (by decide) (am_ix_use (by decide)) dX12_init_349 ?_
  refine g_dup (pc := 350) dX12_init_350 ?_
  refine g_bipush (pc := 351) (v := (33 : Int32)) dX12_init_351 rfl ?_
  refine g_bipush (pc := 353) (v := (101 : Int32)) dX12_init_353 rfl ?_
  obtain ⟨I_91, e_I_91, hF⟩ := am_let_el hF
  refine n_iast (pc := 355) (k := 74) (I2 := I_91) e_I_91 rfl (by decide) (am_ix_use (by decide)) dX12_init_355 ?_
  refine g_dup (pc := 356) dX12_init_356 ?_
  refine g_bipush (pc := 357) (v := (34 : Int32)) dX12_init_357 rfl ?_
  refine g_bipush (pc := 359) (v := (112 : Int32)) dX12_init_359 rfl ?_
  obtain ⟨I_92, e_I_92, hF⟩ := am_let_el hF
  refine n_iast (pc := 361) (k := 74) (I2 := I_92) e_I_92 rfl (by decide) (am_ix_use (by decide)) dX12_init_361 ?_
  refine g_dup (pc := 362) dX12_init_362 ?_
  refine g_bipush (pc := 363) (v := (35 : Int32)) dX12_init_363 rfl ?_
  refine g_bipush (pc := 365) (v := (32 : Int32)) dX12_init_365 rfl ?_
  obtain ⟨I_93, e_I_93, hF⟩ := am_let_el hF
  refine n_iast (pc := 367) (k := 74) (I2 := I_93) e_I_93 rfl (by decide) (am_ix_use (by decide)) dX12_init_367 ?_
  refine g_dup (pc := 368) dX12_init_368 ?_
  refine g_bipush (pc := 369) (v := (36 : Int32)) dX12_init_369 rfl ?_
  refine g_bipush (pc := 371) (v := (119 : Int32)) dX12_init_371 rfl ?_
  obtain ⟨I_94, e_I_94, hF⟩ := am_let_el hF
  refine n_iast (pc := 373) (k := 74) (I2 := I_94) e_I_94 rfl (by decide) (am_ix_use (by decide)) dX12_init_373 ?_
  refine g_dup (pc := 374) dX12_init_374 ?_
  refine g_bipush (pc := 375) (v := (37 : Int32)) dX12_init_375 rfl ?_
  refine g_bipush (pc := 377) (v := (104 : Int32)) dX12_init_377 rfl ?_
  obtain ⟨I_95, e_I_95, hF⟩ := am_let_el hF
  refine n_iast (pc := 379) (k := 74) (I2 := I_95) e_I_95 rfl (by decide) (am_ix_use (by decide)) dX12_init_379 ?_
  refine g_dup (pc := 380) dX12_init_380 ?_
  refine g_bipush (pc := 381) (v := (38 : Int32)) dX12_init_381 rfl ?_
  refine g_bipush (pc := 383) (v := (101 : Int32)) dX12_init_383 rfl ?_
  obtain ⟨I_96, e_I_96, hF⟩ := am_let_el hF
  refine n_iast (pc := 385) (k := 74) (I2 := I_96) e_I_96 rfl (by decide) (am_ix_use (by decide)) dX12_init_385 ?_
  refine g_dup (pc := 386) dX12_init_386 ?_
  refine g_bipush (pc := 387) (v := (39 : Int32)) dX12_init_387 rfl ?_
  refine g_bipush (pc := 389) (v := (110 : Int32)) dX12_init_389 rfl ?_
  obtain ⟨I_97, e_I_97, hF⟩ := am_let_el hF
  refine n_iast (pc := 391) (k := 74) (I2 := I_97) e_I_97 rfl (by decide) (am_ix_use (by decide)) dX12_init_391 ?_
  refine g_dup (pc := 392) dX12_init_392 ?_
  refine g_bipush (pc := 393) (v := (40 : Int32)) dX12_init_393 rfl ?_
  refine g_bipush (pc := 395) (v := (32 : Int32)) dX12_init_395 rfl ?_
  obtain ⟨I_98, e_I_98, hF⟩ := am_let_el hF
  refine n_iast (pc := 397) (k := 74) (I2 := I_98) e_I_98 rfl (by decide) (am_ix_use (by decide)) dX12_init_397 ?_
  refine g_dup (pc := 398) dX12_init_398 ?_
  refine g_bipush (pc := 399) (v := (41 : Int32)) dX12_init_399 rfl ?_
  refine g_bipush (pc := 401) (v := (111 : Int32)) dX12_init_401 rfl ?_
  obtain ⟨I_99, e_I_99, hF⟩ := am_let_el hF
  refine n_iast (pc := 403) (k := 74) (I2 := I_99) e_I_99 rfl (by decide) (am_ix_use (by decide)) dX12_init_403 ?_
  refine g_dup (pc := 404) dX12_init_404 ?_
  refine g_bipush (pc := 405) (v := (42 : Int32)) dX12_init_405 rfl ?_
  refine g_bipush (pc := 407) (v := (114 : Int32)) dX12_init_407 rfl ?_
  obtain ⟨I_100, e_I_100, hF⟩ := am_let_el hF
  refine n_iast (pc := 409) (k := 74) (I2 := I_100) e_I_100 rfl (by decide) (am_ix_use (by decide)) dX12_init_409 ?_
  refine g_dup (pc := 410) dX12_init_410 ?_
  refine g_bipush (pc := 411) (v := (43 : Int32)) dX12_init_411 rfl ?_
  refine g_bipush (pc := 413) (v := (32 : Int32)) dX12_init_413 rfl ?_
  obtain ⟨I_101, e_I_101, hF⟩ := am_let_el hF
  refine n_iast (pc := 415) (k := 74) (I2 := I_101) e_I_101 rfl (by decide) (am_ix_use (by decide)) dX12_init_415 ?_
  refine g_dup (pc := 416) dX12_init_416 ?_
  refine g_bipush (pc := 417) (v := (44 : Int32)) dX12_init_417 rfl ?_
  refine g_bipush (pc := 419) (v := (97 : Int32)) dX12_init_419 rfl ?_
  obtain ⟨I_102, e_I_102, hF⟩ := am_let_el hF
  refine n_iast (pc := 421) (k := 74) (I2 := I_102) e_I_102 rfl (by decide) (am_ix_use (by decide)) dX12_init_421 ?_
  refine g_dup (pc := 422) dX12_init_422 ?_
  refine g_bipush (pc := 423) (v := (45 : Int32)) dX12_init_423 rfl ?_
  refine g_bipush (pc := 425) (v := (110 : Int32)) dX12_init_425 rfl ?_
  obtain ⟨I_103, e_I_103, hF⟩ := am_let_el hF
  refine n_iast (pc := 427) (k := 74) (I2 := I_103) e_I_103 rfl (by decide) (am_ix_use (by decide)) dX12_init_427 ?_
  refine g_dup (pc := 428) dX12_init_428 ?_
  refine g_bipush (pc := 429) (v := (46 : Int32)) dX12_init_429 rfl ?_
  refine g_bipush (pc := 431) (v := (100 : Int32)) dX12_init_431 rfl ?_
  obtain ⟨I_104, e_I_104, hF⟩ := am_let_el hF
  refine n_iast (pc := 433) (k := 74) (I2 := I_104) e_I_104 rfl (by decide) (am_ix_use (by decide)) dX12_init_433 ?_
  refine g_dup (pc := 434) dX12_init_434 ?_
  refine g_bipush (pc := 435) (v := (47 : Int32)) dX12_init_435 rfl ?_
  refine g_bipush (pc := 437) (v := (32 : Int32)) dX12_init_437 rfl ?_
  obtain ⟨I_105, e_I_105, hF⟩ := am_let_el hF
  refine n_iast (pc := 439) (k := 74) (I2 := I_105) e_I_105 rfl (by decide) (am_ix_use (by decide)) dX12_init_439 ?_
  refine g_dup (pc := 440) dX12_init_440 ?_
  refine g_bipush (pc := 441) (v := (48 : Int32)) dX12_init_441 rfl ?_
  refine g_bipush (pc := 443) (v := (110 : Int32)) dX12_init_443 rfl ?_
  obtain ⟨I_106, e_I_106, hF⟩ := am_let_el hF
  refine n_iast (pc := 445) (k := 74) (I2 := I_106) e_I_106 rfl (by decide) (am_ix_use (by decide)) dX12_init_445 ?_
  refine g_dup (pc := 446) dX12_init_446 ?_
  refine g_bipush (pc := 447) (v := (49 : Int32)) dX12_init_447 rfl ?_
  refine g_bipush (pc := 449) (v := (111 : Int32)) dX12_init_449 rfl ?_
  obtain ⟨I_107, e_I_107, hF⟩ := am_let_el hF
  refine n_iast (pc := 451) (k := 74) (I2 := I_107) e_I_107 rfl (by decide) (am_ix_use (by decide)) dX12_init_451 ?_
  refine g_dup (pc := 452) dX12_init_452 ?_
  refine g_bipush (pc := 453) (v := (50 : Int32)) dX12_init_453 rfl ?_
  refine g_bipush (pc := 455) (v := (116 : Int32)) dX12_init_455 rfl ?_
  obtain ⟨I_108, e_I_108, hF⟩ := am_let_el hF
  refine n_iast (pc := 457) (k := 74) (I2 := I_108) e_I_108 rfl (by decide) (am_ix_use (by decide)) dX12_init_457 ?_
  refine g_dup (pc := 458) dX12_init_458 ?_
  refine g_bipush (pc := 459) (v := (51 : Int32)) dX12_init_459 rfl ?_
  refine g_bipush (pc := 461) (v := (32 : Int32)) dX12_init_461 rfl ?_
  obtain ⟨I_109, e_I_109, hF⟩ := am_let_el hF
  refine n_iast (pc := 463) (k := 74) (I2 := I_109) e_I_109 rfl (by decide) (am_ix_use (by decide)) dX12_init_463 ?_
  refine g_dup (pc := 464) dX12_init_464 ?_
  refine g_bipush (pc := 465) (v := (52 : Int32)) dX12_init_465 rfl ?_
  refine g_bipush (pc := 467) (v := (119 : Int32)) dX12_init_467 rfl ?_
  obtain ⟨I_110, e_I_110, hF⟩ := am_let_el hF
  refine n_iast (pc := 469) (k := 74) (I2 := I_110) e_I_110 rfl (by decide) (am_ix_use (by decide)) dX12_init_469 ?_
  refine g_dup (pc := 470) dX12_init_470 ?_
  refine g_bipush (pc := 471) (v := (53 : Int32)) dX12_init_471 rfl ?_
  refine g_bipush (pc := 473) (v := (97 : Int32)) dX12_init_473 rfl ?_
  obtain ⟨I_111, e_I_111, hF⟩ := am_let_el hF
  refine n_iast (pc := 475) (k := 74) (I2 := I_111) e_I_111 rfl (by decide) (am_ix_use (by decide)) dX12_init_475 ?_
  refine g_dup (pc := 476) dX12_init_476 ?_
  refine g_bipush (pc := 477) (v := (54 : Int32)) dX12_init_477 rfl ?_
  refine g_bipush (pc := 479) (v := (108 : Int32)) dX12_init_479 rfl ?_
  obtain ⟨I_112, e_I_112, hF⟩ := am_let_el hF
  refine n_iast (pc := 481) (k := 74) (I2 := I_112) e_I_112 rfl (by decide) (am_ix_use (by decide)) dX12_init_481 ?_
  refine g_dup (pc := 482) dX12_init_482 ?_
  refine g_bipush (pc := 483) (v := (55 : Int32)) dX12_init_483 rfl ?_
  refine g_bipush (pc := 485) (v := (108 : Int32)) dX12_init_485 rfl ?_
  obtain ⟨I_113, e_I_113, hF⟩ := am_let_el hF
  refine n_iast (pc := 487) (k := 74) (I2 := I_113) e_I_113 rfl (by decide) (am_ix_use (by decide)) dX12_init_487 ?_
  refine g_dup (pc := 488) dX12_init_488 ?_
  refine g_bipush (pc := 489) (v := (56 : Int32)) dX12_init_489 rfl ?_
  refine g_bipush (pc := 491) (v := (32 : Int32)) dX12_init_491 rfl ?_
  obtain ⟨I_114, e_I_114, hF⟩ := am_let_el hF
  refine n_iast (pc := 493) (k := 74) (I2 := I_114) e_I_114 rfl (by decide) (am_ix_use (by decide)) dX12_init_493 ?_
  refine g_dup (pc := 494) dX12_init_494 ?_
  refine g_bipush (pc := 495) (v := (57 : Int32)) dX12_init_495 rfl ?_
  refine g_bipush (pc := 497) (v := (115 : Int32)) dX12_init_497 rfl ?_
  obtain ⟨I_115, e_I_115, hF⟩ := am_let_el hF
  refine n_iast (pc := 499) (k := 74) (I2 := I_115) e_I_115 rfl (by decide) (am_ix_use (by decide)) dX12_init_499 ?_
  refine g_dup (pc := 500) dX12_init_500 ?_
  refine g_bipush (pc := 501) (v := (58 : Int32)) dX12_init_501 rfl ?_
  refine g_bipush (pc := 503) (v := (101 : Int32)) dX12_init_503 rfl ?_
  obtain ⟨I_116, e_I_116, hF⟩ := am_let_el hF
  refine n_iast (pc := 505) (k := 74) (I2 := I_116) e_I_116 rfl (by decide) (am_ix_use (by decide)) dX12_init_505 ?_
  refine g_dup (pc := 506) dX12_init_506 ?_
  refine g_bipush (pc := 507) (v := (59 : Int32)) dX12_init_507 rfl ?_
  refine g_bipush (pc := 509) (v := (101 : Int32)) dX12_init_509 rfl ?_
  obtain ⟨I_117, e_I_117, hF⟩ := am_let_el hF
  refine n_iast (pc := 511) (k := 74) (I2 := I_117) e_I_117 rfl (by decide) (am_ix_use (by decide)) dX12_init_511 ?_
  refine g_dup (pc := 512) dX12_init_512 ?_
  refine g_bipush (pc := 513) (v := (60 : Int32)) dX12_init_513 rfl ?_
  refine g_bipush (pc := 515) (v := (114 : Int32)) dX12_init_515 rfl ?_
  obtain ⟨I_118, e_I_118, hF⟩ := am_let_el hF
  refine n_iast (pc := 517) (k := 74) (I2 := I_118) e_I_118 rfl (by decide) (am_ix_use (by decide)) dX12_init_517 ?_
  refine g_dup (pc := 518) dX12_init_518 ?_
  refine g_bipush (pc := 519) (v := (61 : Int32)) dX12_init_519 rfl ?_
  refine g_bipush (pc := 521) (v := (115 : Int32)) dX12_init_521 rfl ?_
  obtain ⟨I_119, e_I_119, hF⟩ := am_let_el hF
  refine n_iast (pc := 523) (k := 74) (I2 := I_119) e_I_119 rfl (by decide) (am_ix_use (by decide)) dX12_init_523 ?_
  refine g_dup (pc := 524) dX12_init_524 ?_
  refine g_bipush (pc := 525) (v := (62 : Int32)) dX12_init_525 rfl ?_
  refine g_bipush (pc := 527) (v := (32 : Int32)) dX12_init_527 rfl ?_
  obtain ⟨I_120, e_I_120, hF⟩ := am_let_el hF
  refine n_iast (pc := 529) (k := 74) (I2 := I_120) e_I_120 rfl (by decide) (am_ix_use (by decide)) dX12_init_529 ?_
  refine g_dup (pc := 530) dX12_init_530 ?_
  refine g_bipush (pc := 531) (v := (63 : Int32)) dX12_init_531 rfl ?_
  refine g_bipush (pc := 533) (v := (97 : Int32)) dX12_init_533 rfl ?_
  obtain ⟨I_121, e_I_121, hF⟩ := am_let_el hF
  refine n_iast (pc := 535) (k := 74) (I2 := I_121) e_I_121 rfl (by decide) (am_ix_use (by decide)) dX12_init_535 ?_
  refine g_dup (pc := 536) dX12_init_536 ?_
  refine g_bipush (pc := 537) (v := (64 : Int32)) dX12_init_537 rfl ?_
  refine g_bipush (pc := 539) (v := (108 : Int32)) dX12_init_539 rfl ?_
  obtain ⟨I_122, e_I_122, hF⟩ := am_let_el hF
  refine n_iast (pc := 541) (k := 74) (I2 := I_122) e_I_122 rfl (by decide) (am_ix_use (by decide)) dX12_init_541 ?_
  refine g_dup (pc := 542) dX12_init_542 ?_
  refine g_bipush (pc := 543) (v := (65 : Int32)) dX12_init_543 rfl ?_
  refine g_bipush (pc := 545) (v := (108 : Int32)) dX12_init_545 rfl ?_
  obtain ⟨I_123, e_I_123, hF⟩ := am_let_el hF
  refine n_iast (pc := 547) (k := 74) (I2 := I_123) e_I_123 rfl (by decide) (am_ix_use (by decide)) dX12_init_547 ?_
  refine g_dup (pc := 548) dX12_init_548 ?_
  refine g_bipush (pc := 549) (v := (66 : Int32)) dX12_init_549 rfl ?_
  refine g_bipush (pc := 551) (v := (32 : Int32)) dX12_init_551 rfl ?_
  obtain ⟨I_124, e_I_124, hF⟩ := am_let_el hF
  refine n_iast (pc := 553) (k := 74) (I2 := I_124) e_I_124 rfl (by decide) (am_ix_use (by decide)) dX12_init_553 ?_
  refine g_dup (pc := 554) dX12_init_554 ?_
  refine g_bipush (pc := 555) (v := (67 : Int32)) dX12_init_555 rfl ?_
  refine g_bipush (pc := 557) (v := (103 : Int32)) dX12_init_557 rfl ?_
  obtain ⟨I_125, e_I_125, hF⟩ := am_let_el hF
  refine n_iast (pc := 559) (k := 74) (I2 := I_125) e_I_125 rfl (by decide) (am_ix_use (by decide)) dX12_init_559 ?_
  refine g_dup (pc := 560) dX12_init_560 ?_
  refine g_bipush (pc := 561) (v := (68 : Int32)) dX12_init_561 rfl ?_
  refine g_bipush (pc := 563) (v := (114 : Int32)) dX12_init_563 rfl ?_
  obtain ⟨I_126, e_I_126, hF⟩ := am_let_el hF
  refine n_iast (pc := 565) (k := 74) (I2 := I_126) e_I_126 rfl (by decide) (am_ix_use (by decide)) dX12_init_565 ?_
  refine g_dup (pc := 566) dX12_init_566 ?_
  refine g_bipush (pc := 567) (v := (69 : Int32)) dX12_init_567 rfl ?_
  refine g_bipush (pc := 569) (v := (101 : Int32)) dX12_init_569 rfl ?_
  obtain ⟨I_127, e_I_127, hF⟩ := am_let_el hF
  refine n_iast (pc := 571) (k := 74) (I2 := I_127) e_I_127 rfl (by decide) (am_ix_use (by decide)) dX12_init_571 ?_
  refine g_dup (pc := 572) dX12_init_572 ?_
  refine g_bipush (pc := 573) (v := (70 : Int32)) dX12_init_573 rfl ?_
  refine g_bipush (pc := 575) (v := (97 : Int32)) dX12_init_575 rfl ?_
  obtain ⟨I_128, e_I_128, hF⟩ := am_let_el hF
  refine n_iast (pc := 577) (k := 74) (I2 := I_128) e_I_128 rfl (by decide) (am_ix_use (by decide)) dX12_init_577 ?_
  refine g_dup (pc := 578) dX12_init_578 ?_
  refine g_bipush (pc := 579) (v := (71 : Int32)) dX12_init_579 rfl ?_
  refine g_bipush (pc := 581) (v := (116 : Int32)) dX12_init_581 rfl ?_
  obtain ⟨I_129, e_I_129, hF⟩ := am_let_el hF
  refine n_iast (pc := 583) (k := 74) (I2 := I_129) e_I_129 rfl (by decide) (am_ix_use (by decide)) dX12_init_583 ?_
  refine g_dup (pc := 584) dX12_init_584 ?_
  refine g_bipush (pc := 585) (v := (72 : Int32)) dX12_init_585 rfl ?_
  refine g_bipush (pc := 587) (v := (32 : Int32)) dX12_init_587 rfl ?_
  obtain ⟨I_130, e_I_130, hF⟩ := am_let_el hF
  refine n_iast (pc := 589) (k := 74) (I2 := I_130) e_I_130 rfl (by decide) (am_ix_use (by decide)) dX12_init_589 ?_
  refine g_dup (pc := 590) dX12_init_590 ?_
  refine g_bipush (pc := 591) (v := (73 : Int32)) dX12_init_591 rfl ?_
  refine g_bipush (pc := 593) (v := (99 : Int32)) dX12_init_593 rfl ?_
  obtain ⟨I_131, e_I_131, hF⟩ := am_let_el hF
  refine n_iast (pc := 595) (k := 74) (I2 := I_131) e_I_131 rfl (by decide) (am_ix_use (by decide)) dX12_init_595 ?_
  refine g_dup (pc := 596) dX12_init_596 ?_
  refine g_bipush (pc := 597) (v := (74 : Int32)) dX12_init_597 rfl ?_
  refine g_bipush (pc := 599) (v := (111 : Int32)) dX12_init_599 rfl ?_
  obtain ⟨I_132, e_I_132, hF⟩ := am_let_el hF
  refine n_iast (pc := 601) (k := 74) (I2 := I_132) e_I_132 rfl (by decide) (am_ix_use (by decide)) dX12_init_601 ?_
  refine g_dup (pc := 602) dX12_init_602 ?_
  refine g_bipush (pc := 603) (v := (75 : Int32)) dX12_init_603 rfl ?_
  refine g_bipush (pc := 605) (v := (108 : Int32)) dX12_init_605 rfl ?_
  obtain ⟨I_133, e_I_133, hF⟩ := am_let_el hF
  refine n_iast (pc := 607) (k := 74) (I2 := I_133) e_I_133 rfl (by decide) (am_ix_use (by decide)) dX12_init_607 ?_
  refine g_dup (pc := 608) dX12_init_608 ?_
  refine g_bipush (pc := 609) (v := (76 : Int32)) dX12_init_609 rfl ?_
  refine g_bipush (pc := 611) (v := (111 : Int32)) dX12_init_611 rfl ?_
  obtain ⟨I_134, e_I_134, hF⟩ := am_let_el hF
  refine n_iast (pc := 613) (k := 74) (I2 := I_134) e_I_134 rfl (by decide) (am_ix_use (by decide)) dX12_init_613 ?_
  refine g_dup (pc := 614) dX12_init_614 ?_
  refine g_bipush (pc := 615) (v := (77 : Int32)) dX12_init_615 rfl ?_
  refine g_bipush (pc := 617) (v := (117 : Int32)) dX12_init_617 rfl ?_
  obtain ⟨I_135, e_I_135, hF⟩ := am_let_el hF
  refine n_iast (pc := 619) (k := 74) (I2 := I_135) e_I_135 rfl (by decide) (am_ix_use (by decide)) dX12_init_619 ?_
  refine g_dup (pc := 620) dX12_init_620 ?_
  refine g_bipush (pc := 621) (v := (78 : Int32)) dX12_init_621 rfl ?_
  refine g_bipush (pc := 623) (v := (114 : Int32)) dX12_init_623 rfl ?_
  obtain ⟨I_136, e_I_136, hF⟩ := am_let_el hF
  refine n_iast (pc := 625) (k := 74) (I2 := I_136) e_I_136 rfl (by decide) (am_ix_use (by decide)) dX12_init_625 ?_
  refine g_dup (pc := 626) dX12_init_626 ?_
  refine g_bipush (pc := 627) (v := (79 : Int32)) dX12_init_627 rfl ?_
  refine g_bipush (pc := 629) (v := (32 : Int32)) dX12_init_629 rfl ?_
  obtain ⟨I_137, e_I_137, hF⟩ := am_let_el hF
  refine n_iast (pc := 631) (k := 74) (I2 := I_137) e_I_137 rfl (by decide) (am_ix_use (by decide)) dX12_init_631 ?_
  refine g_dup (pc := 632) dX12_init_632 ?_
  refine g_bipush (pc := 633) (v := (80 : Int32)) dX12_init_633 rfl ?_
  refine g_bipush (pc := 635) (v := (121 : Int32)) dX12_init_635 rfl ?_
  obtain ⟨I_138, e_I_138, hF⟩ := am_let_el hF
  refine n_iast (pc := 637) (k := 74) (I2 := I_138) e_I_138 rfl (by decide) (am_ix_use (by decide)) dX12_init_637 ?_
  refine g_dup (pc := 638) dX12_init_638 ?_
  refine g_bipush (pc := 639) (v := (81 : Int32)) dX12_init_639 rfl ?_
  refine g_bipush (pc := 641) (v := (101 : Int32)) dX12_init_641 rfl ?_
  obtain ⟨I_139, e_I_139, hF⟩ := am_let_el hF
  refine n_iast (pc := 643) (k := 74) (I2 := I_139) e_I_139 rfl (by decide) (am_ix_use (by decide)) dX12_init_643 ?_
  refine g_dup (pc := 644) dX12_init_644 ?_
  refine g_bipush (pc := 645) (v := (82 : Int32)) dX12_init_645 rfl ?_
  refine g_bipush (pc := 647) (v := (97 : Int32)) dX12_init_647 rfl ?_
  obtain ⟨I_140, e_I_140, hF⟩ := am_let_el hF
  refine n_iast (pc := 649) (k := 74) (I2 := I_140) e_I_140 rfl (by decide) (am_ix_use (by decide)) dX12_init_649 ?_
  refine g_dup (pc := 650) dX12_init_650 ?_
  refine g_bipush (pc := 651) (v := (83 : Int32)) dX12_init_651 rfl ?_
  refine g_bipush (pc := 653) (v := (114 : Int32)) dX12_init_653 rfl ?_
  obtain ⟨I_141, e_I_141, hF⟩ := am_let_el hF
  refine n_iast (pc := 655) (k := 74) (I2 := I_141) e_I_141 rfl (by decide) (am_ix_use (by decide)) dX12_init_655 ?_
  refine g_dup (pc := 656) dX12_init_656 ?_
  refine g_bipush (pc := 657) (v := (84 : Int32)) dX12_init_657 rfl ?_
  refine g_bipush (pc := 659) (v := (32 : Int32)) dX12_init_659 rfl ?_
  obtain ⟨I_142, e_I_142, hF⟩ := am_let_el hF
  refine n_iast (pc := 661) (k := 74) (I2 := I_142) e_I_142 rfl (by decide) (am_ix_use (by decide)) dX12_init_661 ?_
  obtain ⟨P_143, e_P_143, hF⟩ := am_let_el hF
  refine n_putR (pc := 662) (k := 55) e_P_143 kf_X12_68 rfl rfl (by decide) (fun _ => rfl) dX12_init_662 ?_
  refine g_aload_n (pc := 665) dX12_init_665 rfl rfl ?_
  refine g_bipush (pc := 666) (v := (32 : Int32)) dX12_init_666 rfl ?_
  obtain ⟨P_144, e_P_144, hF⟩ := am_let_el hF
  obtain ⟨I_145, e_I_145, hF⟩ := am_let_el hF
  refine n_newa (pc := 668) (N := 75) (n := 32) e_P_144 e_I_145 rfl (by decide) (by decide) rfl (by decide) (by decide) (by decide) kz_arr dX12_init_668 ?_
  obtain ⟨P_146, e_P_146, hF⟩ := am_let_el hF
  refine n_putR (pc := 670) (k := 55) e_P_146 kf_X12_71 rfl rfl (by decide) (fun _ => rfl) dX12_init_670 ?_
  refine g_aload_n (pc := 673) dX12_init_673 rfl rfl ?_
  refine g_bipush (pc := 674) (v := (32 : Int32)) dX12_init_674 rfl ?_
  obtain ⟨P_147, e_P_147, hF⟩ := am_let_el hF
  obtain ⟨I_148, e_I_148, hF⟩ := am_let_el hF
  refine n_newa (pc := 676) (N := 76) (n := 32) e_P_147 e_I_148 rfl (by decide) (by decide) rfl (by decide) (by decide) (by decide) kz_arr dX12_init_676 ?_
  obtain ⟨P_149, e_P_149, hF⟩ := am_let_el hF
  refine n_putR (pc := 678) (k := 55) e_P_149 kf_X12_74 rfl rfl (by decide) (fun _ => rfl) dX12_init_678 ?_
  refine g_aload_n (pc := 681) dX12_init_681 rfl rfl ?_
  refine g_bipush (pc := 682) (v := (32 : Int32)) dX12_init_682 rfl ?_
  obtain ⟨P_150, e_P_150, hF⟩ := am_let_el hF
  obtain ⟨I_151, e_I_151, hF⟩ := am_let_el hF
  refine n_newa (pc := 684) (N := 77) (n := 32) e_P_150 e_I_151 rfl (by decide) (by decide) rfl (by decide) (by decide) (by decide) kz_arr dX12_init_684 ?_
  obtain ⟨P_152, e_P_152, hF⟩ := am_let_el hF
  refine n_putR (pc := 686) (k := 55) e_P_152 kf_X12_77 rfl rfl (by decide) (fun _ => rfl) dX12_init_686 ?_
  refine g_aload_n (pc := 689) dX12_init_689 rfl rfl ?_
  refine g_sipush (pc := 690) (v := (800 : Int32)) dX12_init_690 rfl ?_
  obtain ⟨P_153, e_P_153, hF⟩ := am_let_el hF
  obtain ⟨I_154, e_I_154, hF⟩ := am_let_el hF
  refine n_newa (pc := 693) (N := 78) (n := 800) e_P_153 e_I_154 rfl (by decide) (by decide) rfl (by decide) (by decide) (by decide) kz_arr dX12_init_693 ?_
  obtain ⟨P_155, e_P_155, hF⟩ := am_let_el hF
  refine n_putR (pc := 695) (k := 55) e_P_155 kf_X12_80 rfl rfl (by decide) (fun _ => rfl) dX12_init_695 ?_
  refine g_aload_n (pc := 698) dX12_init_698 rfl rfl ?_
  refine g_sipush (pc := 699) (v := (800 : Int32)) dX12_init_699 rfl ?_
  obtain ⟨P_156, e_P_156, hF⟩ := am_let_el hF
  obtain ⟨I_157, e_I_157, hF⟩ := am_let_el hF
  refine n_newa (pc := 702) (N := 79) (n := 800) e_P_156 e_I_157 rfl (by decide) (by decide) rfl (by decide) (by decide) (by decide) kz_arr dX12_init_702 ?_
  obtain ⟨P_158, e_P_158, hF⟩ := am_let_el hF
  refine n_putR (pc := 704) (k := 55) e_P_158 kf_X12_83 rfl rfl (by decide) (fun _ => rfl) dX12_init_704 ?_
  refine g_aload_n (pc := 707) dX12_init_707 rfl rfl ?_
  refine g_bipush (pc := 708) (v := (40 : Int32)) dX12_init_708 rfl ?_
  obtain ⟨P_159, e_P_159, hF⟩ := am_let_el hF
  obtain ⟨I_160, e_I_160, hF⟩ := am_let_el hF
  refine n_newa (pc := 710) (N := 80) (n := 40) e_P_159 e_I_160 rfl (by decide) (by decide) rfl (by decide) (by decide) (by decide) kz_arr dX12_init_710 ?_
  obtain ⟨P_161, e_P_161, hF⟩ := am_let_el hF
  refine n_putR (pc := 712) (k := 55) e_P_161 kf_X12_86 rfl rfl (by decide) (fun _ => rfl) dX12_init_712 ?_
  refine g_aload_n (pc := 715) dX12_init_715 rfl rfl ?_
  refine g_iconst (pc := 716) (v := (-1 : Int32)) dX12_init_716 (by decide) ?_
  obtain ⟨I_162, e_I_162, hF⟩ := am_let_el hF
  refine n_putI (pc := 717) (k := 55) e_I_162 kf_X12_89 rfl rfl (by decide) dX12_init_717 ?_
  refine g_aload_n (pc := 720) dX12_init_720 rfl rfl ?_
  refine g_bipush (pc := 721) (v := (6 : Int32)) dX12_init_721 rfl ?_
  obtain ⟨P_163, e_P_163, hF⟩ := am_let_el hF
  obtain ⟨I_164, e_I_164, hF⟩ := am_let_el hF
  refine n_newa (pc := 723) (N := 81) (n := 6) e_P_163 e_I_164 rfl (by decide) (by decide) rfl (by decide) (by decide) (by decide) kz_arr dX12_init_723 ?_
  obtain ⟨P_165, e_P_165, hF⟩ := am_let_el hF
  refine n_putR (pc := 725) (k := 55) e_P_165 kf_X12_92 rfl rfl (by decide) (fun _ => rfl) dX12_init_725 ?_
  refine g_aload_n (pc := 728) dX12_init_728 rfl rfl ?_
  refine g_sipush (pc := 729) (v := (420 : Int32)) dX12_init_729 rfl ?_
  obtain ⟨P_166, e_P_166, hF⟩ := am_let_el hF
  obtain ⟨I_167, e_I_167, hF⟩ := am_let_el hF
  refine n_newa (pc := 732) (N := 82) (n := 420) e_P_166 e_I_167 rfl (by decide) (by decide) rfl (by decide) (by decide) (by decide) kz_arr dX12_init_732 ?_
  obtain ⟨P_168, e_P_168, hF⟩ := am_let_el hF
  refine n_putR (pc := 734) (k := 55) e_P_168 kf_X12_95 rfl rfl (by decide) (fun _ => rfl) dX12_init_734 ?_
  refine g_aload_n (pc := 737) dX12_init_737 rfl rfl ?_
  refine g_bipush (pc := 738) (v := (56 : Int32)) dX12_init_738 rfl ?_
  obtain ⟨P_169, e_P_169, hF⟩ := am_let_el hF
  obtain ⟨I_170, e_I_170, hF⟩ := am_let_el hF
  refine n_newa (pc := 740) (N := 83) (n := 56) e_P_169 e_I_170 rfl (by decide) (by decide) rfl (by decide) (by decide) (by decide) kz_arr dX12_init_740 ?_
  obtain ⟨P_171, e_P_171, hF⟩ := am_let_el hF
  refine n_putR (pc := 742) (k := 55) e_P_171 kf_X12_98 rfl rfl (by decide) (fun _ => rfl) dX12_init_742 ?_
  refine g_aload_n (pc := 745) dX12_init_745 rfl rfl ?_
  refine g_iconst (pc := 746) (v := (-1 : Int32)) dX12_init_746 (by decide) ?_
  obtain ⟨I_172, e_I_172, hF⟩ := am_let_el hF
  refine n_putI (pc := 747) (k := 55) e_I_172 kf_X12_101 rfl rfl (by decide) dX12_init_747 ?_
  refine g_aload_n (pc := 750) dX12_init_750 rfl rfl ?_
  refine g_iconst (pc := 751) (v := (4 : Int32)) dX12_init_751 rfl ?_
  obtain ⟨P_173, e_P_173, hF⟩ := am_let_el hF
  obtain ⟨I_174, e_I_174, hF⟩ := am_let_el hF
  refine n_newa (pc := 752) (N := 84) (n := 4) e_P_173 e_I_174 rfl (by decide) (by decide) rfl (by decide) (by decide) (by decide) kz_arr dX12_init_752 ?_
  obtain ⟨P_175, e_P_175, hF⟩ := am_let_el hF
  refine n_putR (pc := 754) (k := 55) e_P_175 kf_X12_104 rfl rfl (by decide) (fun _ => rfl) dX12_init_754 ?_
  refine g_aload_n (pc := 757) dX12_init_757 rfl rfl ?_
  refine g_bipush (pc := 758) (v := (7 : Int32)) dX12_init_758 rfl ?_
  obtain ⟨P_176, e_P_176, hF⟩ := am_let_el hF
  obtain ⟨I_177, e_I_177, hF⟩ := am_let_el hF
  refine n_newa (pc := 760) (N := 85) (n := 7) e_P_176 e_I_177 rfl (by decide) (by decide) rfl (by decide) (by decide) (by decide) kz_arr dX12_init_760 ?_
  obtain ⟨P_178, e_P_178, hF⟩ := am_let_el hF
  refine n_putR (pc := 762) (k := 55) e_P_178 kf_X12_107 rfl rfl (by decide) (fun _ => rfl) dX12_init_762 ?_
  refine g_aload_n (pc := 765) dX12_init_765 rfl rfl ?_
  refine g_bipush (pc := 766) (v := (7 : Int32)) dX12_init_766 rfl ?_
  obtain ⟨P_179, e_P_179, hF⟩ := am_let_el hF
  obtain ⟨I_180, e_I_180, hF⟩ := am_let_el hF
  refine n_newa (pc := 768) (N := 86) (n := 7) e_P_179 e_I_180 rfl (by decide) (by decide) rfl (by decide) (by decide) (by decide) kz_arr dX12_init_768 ?_
  obtain ⟨P_181, e_P_181, hF⟩ := am_let_el hF
  refine n_putR (pc := 770) (k := 55) e_P_181 kf_X12_110 rfl rfl (by decide) (fun _ => rfl) dX12_init_770 ?_
  refine g_aload_n (pc := 773) dX12_init_773 rfl rfl ?_
  refine g_bipush (pc := 774) (v := (7 : Int32)) dX12_init_774 rfl ?_
  obtain ⟨P_182, e_P_182, hF⟩ := am_let_el hF
  obtain ⟨I_183, e_I_183, hF⟩ := am_let_el hF
  refine n_newa (pc := 776) (N := 87) (n := 7) e_P_182 e_I_183 rfl (by decide) (by decide) rfl (by decide) (by decide) (by decide) kz_arr dX12_init_776 ?_
  obtain ⟨P_184, e_P_184, hF⟩ := am_let_el hF
  refine n_putR (pc := 778) (k := 55) e_P_184 kf_X12_113 rfl rfl (by decide) (fun _ => rfl) dX12_init_778 ?_
  refine g_aload_n (pc := 781) dX12_init_781 rfl rfl ?_
  refine g_sipush (pc := 782) (v := (2048 : Int32)) dX12_init_782 rfl ?_
  obtain ⟨P_185, e_P_185, hF⟩ := am_let_el hF
  obtain ⟨I_186, e_I_186, hF⟩ := am_let_el hF
  refine n_newa (pc := 785) (N := 88) (n := 2048) e_P_185 e_I_186 rfl (by decide) (by decide) rfl (by decide) (by decide) (by decide) kz_arr dX12_init_785 ?_
  obtain ⟨P_187, e_P_187, hF⟩ := am_let_el hF
  refine n_putR (pc := 787) (k := 55) e_P_187 kf_X12_116 rfl rfl (by decide) (fun _ => rfl) dX12_init_787 ?_
  refine g_aload_n (pc := 790) dX12_init_790 rfl rfl ?_
  refine g_bipush (pc := 791) (v := (7 : Int32)) dX12_init_791 rfl ?_
  obtain ⟨P_188, e_P_188, hF⟩ := am_let_el hF
  obtain ⟨I_189, e_I_189, hF⟩ := am_let_el hF
  refine n_newa (pc := 793) (N := 89) (n := 7) e_P_188 e_I_189 rfl (by decide) (by decide) rfl (by decide) (by decide) (by decide) kz_arr dX12_init_793 ?_
  obtain ⟨P_190, e_P_190, hF⟩ := am_let_el hF
  refine n_putR (pc := 795) (k := 55) e_P_190 kf_X12_119 rfl rfl (by decide) (fun _ => rfl) dX12_init_795 ?_
  refine g_aload_n (pc := 798) dX12_init_798 rfl rfl ?_
  refine g_iconst (pc := 799) (v := (4 : Int32)) dX12_init_799 rfl ?_
  obtain ⟨P_191, e_P_191, hF⟩ := am_let_el hF
  obtain ⟨I_192, e_I_192, hF⟩ := am_let_el hF
  refine n_newa (pc := 800) (N := 90) (n := 4) e_P_191 e_I_192 rfl (by decide) (by decide) rfl (by decide) (by decide) (by decide) kz_arr dX12_init_800 ?_
  obtain ⟨P_193, e_P_193, hF⟩ := am_let_el hF
  refine n_putR (pc := 802) (k := 55) e_P_193 kf_X12_122 rfl rfl (by decide) (fun _ => rfl) dX12_init_802 ?_
  refine g_aload_n (pc := 805) dX12_init_805 rfl rfl ?_
  refine g_bipush (pc := 806) (v := (9 : Int32)) dX12_init_806 rfl ?_
  obtain ⟨P_194, e_P_194, hF⟩ := am_let_el hF
  obtain ⟨I_195, e_I_195, hF⟩ := am_let_el hF
  refine n_newa (pc := 808) (N := 91) (n := 9) e_P_194 e_I_195 rfl (by decide) (by decide) rfl (by decide) (by decide) (by decide) kz_arr dX12_init_808 ?_
  obtain ⟨P_196, e_P_196, hF⟩ := am_let_el hF
  refine n_putR (pc := 810) (k := 55) e_P_196 kf_X12_125 rfl rfl (by decide) (fun _ => rfl) dX12_init_810 ?_
  refine g_aload_n (pc := 813) dX12_init_813 rfl rfl ?_
  refine g_bipush (pc := 814) (v := (9 : Int32)) dX12_init_814 rfl ?_
  obtain ⟨P_197, e_P_197, hF⟩ := am_let_el hF
  obtain ⟨I_198, e_I_198, hF⟩ := am_let_el hF
  refine n_newa (pc := 816) (N := 92) (n := 9) e_P_197 e_I_198 rfl (by decide) (by decide) rfl (by decide) (by decide) (by decide) kz_arr dX12_init_816 ?_
  obtain ⟨P_199, e_P_199, hF⟩ := am_let_el hF
  refine n_putR (pc := 818) (k := 55) e_P_199 kf_X12_128 rfl rfl (by decide) (fun _ => rfl) dX12_init_818 ?_
  refine g_aload_n (pc := 821) dX12_init_821 rfl rfl ?_
  refine g_sipush (pc := 822) (v := (1450 : Int32)) dX12_init_822 rfl ?_
  obtain ⟨P_200, e_P_200, hF⟩ := am_let_el hF
  obtain ⟨I_201, e_I_201, hF⟩ := am_let_el hF
  refine n_newa (pc := 825) (N := 93) (n := 1450) e_P_200 e_I_201 rfl (by decide) (by decide) rfl (by decide) (by decide) (by decide) kz_arr dX12_init_825 ?_
  obtain ⟨P_202, e_P_202, hF⟩ := am_let_el hF
  refine n_putR (pc := 827) (k := 55) e_P_202 kf_X12_131 rfl rfl (by decide) (fun _ => rfl) dX12_init_827 ?_
  cases hF
  exact g_vret (pc := 830) rfl (by decide) (by decide) dX12_init_830 ⟨rfl, rfl, rfl, rfl⟩
set_option maxRecDepth 100000 in
def F_X6_init_104 (P : am_PT) (I : am_IT) : Option (am_PT × am_IT) := am_let (up2 I 104 0 (0 : Int32)) (fun (I_1 : am_IT) => am_let (up2 I_1 104 1 (0 : Int32)) (fun (I_2 : am_IT) => am_let (zr P 105 none) (fun (P_3 : am_PT) => am_let (zr I_2 105 0) (fun (I_4 : am_IT) => am_let (up2 P_3 104 2 (some 105)) (fun (P_5 : am_PT) => am_let (zr P_5 106 none) (fun (P_6 : am_PT) => am_let (zr I_4 106 0) (fun (I_7 : am_IT) => am_let (up2 P_6 104 3 (some 106)) (fun (P_8 : am_PT) => am_let (zr P_8 107 none) (fun (P_9 : am_PT) => am_let (zr I_7 107 0) (fun (I_10 : am_IT) => am_let (up2 P_9 104 4 (some 107)) (fun (P_11 : am_PT) => some (P_11, I_10))))))))))))
set_option maxRecDepth 100000 in
set_option maxHeartbeats 4000000 in
theorem s_X6_init_104 {l : Launch} {d : Nat} (hd : 1 ≤ d) {P : am_PT} {I : am_IT} {P2 : am_PT} {I2 : am_IT} (hF : F_X6_init_104 P I = some (P2, I2)) : am_C l d 3 432 mX6_init [.ref 104] 105 P I (am_qa 108 P2 I2) := by
  refine am_body (sc := am_sc0) (n := 0) (by decide +kernel) (by decide) rfl ?_
  change G am_sc0 l d 3 432 mX6_init (am_qa 108 P2 I2) 0 [.ref 104] [] 105 P I 0 0
  unfold F_X6_init_104 at hF
  refine g_aload_n (pc := 0) dX6_init_0 rfl rfl ?_
  refine g_objInit (pc := 1) (k := 104) kl_X6_3 kz_oi kz_oc (Nat.le_trans (by decide) hd) (Nat.le_of_ble_eq_true rfl) dX6_init_1 ?_
  refine g_aload_n (pc := 4) dX6_init_4 rfl rfl ?_
  refine g_iconst (pc := 5) (v := (0 : Int32)) dX6_init_5 rfl ?_
  obtain ⟨I_1, e_I_1, hF⟩ := am_let_el hF
  refine n_putI (pc := 6) (k := 104) e_I_1 kf_X6_9 rfl rfl (by decide) dX6_init_6 ?_
  refine g_aload_n (pc := 9) dX6_init_9 rfl rfl ?_
  refine g_iconst (pc := 10) (v := (0 : Int32)) dX6_init_10 rfl ?_
  obtain ⟨I_2, e_I_2, hF⟩ := am_let_el hF
  refine n_putI (pc := 11) (k := 104) e_I_2 kf_X6_15 rfl rfl (by decide) dX6_init_11 ?_
  refine g_aload_n (pc := 14) dX6_init_14 rfl rfl ?_
  refine g_bipush (pc := 15) (v := (16 : Int32)) dX6_init_15 rfl ?_
  obtain ⟨P_3, e_P_3, hF⟩ := am_let_el hF
  obtain ⟨I_4, e_I_4, hF⟩ := am_let_el hF
  refine n_newa (pc := 17) (N := 105) (n := 16) e_P_3 e_I_4 rfl (by decide) (by decide) rfl (by decide) (by decide) (by decide) kz_arr dX6_init_17 ?_
  obtain ⟨P_5, e_P_5, hF⟩ := am_let_el hF
  refine n_putR (pc := 19) (k := 104) e_P_5 kf_X6_18 rfl rfl (by decide) (fun _ => rfl) dX6_init_19 ?_
  refine g_aload_n (pc := 22) dX6_init_22 rfl rfl ?_
  refine g_bipush (pc := 23) (v := (16 : Int32)) dX6_init_23 rfl ?_
  obtain ⟨P_6, e_P_6, hF⟩ := am_let_el hF
  obtain ⟨I_7, e_I_7, hF⟩ := am_let_el hF
  refine n_newa (pc := 25) (N := 106) (n := 16) e_P_6 e_I_7 rfl (by decide) (by decide) rfl (by decide) (by decide) (by decide) kz_arr dX6_init_25 ?_
  obtain ⟨P_8, e_P_8, hF⟩ := am_let_el hF
  refine n_putR (pc := 27) (k := 104) e_P_8 kf_X6_22 rfl rfl (by decide) (fun _ => rfl) dX6_init_27 ?_
  refine g_aload_n (pc := 30) dX6_init_30 rfl rfl ?_
  refine g_sipush (pc := 31) (v := (400 : Int32)) dX6_init_31 rfl ?_
  obtain ⟨P_9, e_P_9, hF⟩ := am_let_el hF
  obtain ⟨I_10, e_I_10, hF⟩ := am_let_el hF
  refine n_newa (pc := 34) (N := 107) (n := 400) e_P_9 e_I_10 rfl (by decide) (by decide) rfl (by decide) (by decide) (by decide) kz_arr dX6_init_34 ?_
  obtain ⟨P_11, e_P_11, hF⟩ := am_let_el hF
  refine n_putR (pc := 36) (k := 104) e_P_11 kf_X6_25 rfl rfl (by decide) (fun _ => rfl) dX6_init_36 ?_
  cases hF
  exact g_vret (pc := 39) rfl (by decide) (by decide) dX6_init_39 ⟨rfl, rfl, rfl, rfl⟩
set_option maxRecDepth 100000 in
def F_X1_init_108 (P : am_PT) (I : am_IT) : Option (am_PT × am_IT) := am_let (up2 I 108 0 (0 : Int32)) (fun (I_1 : am_IT) => am_let (zr P 109 none) (fun (P_2 : am_PT) => am_let (zr I_1 109 0) (fun (I_3 : am_IT) => am_let (up2 P_2 108 1 (some 109)) (fun (P_4 : am_PT) => am_let (zr P_4 110 none) (fun (P_5 : am_PT) => am_let (zr I_3 110 0) (fun (I_6 : am_IT) => am_let (up2 P_5 108 2 (some 110)) (fun (P_7 : am_PT) => some (P_7, I_6))))))))
set_option maxRecDepth 100000 in
set_option maxHeartbeats 4000000 in
theorem s_X1_init_108 {l : Launch} {d : Nat} (hd : 1 ≤ d) {P : am_PT} {I : am_IT} {P2 : am_PT} {I2 : am_IT} (hF : F_X1_init_108 P I = some (P2, I2)) : am_C l d 2 128 mX1_init [.ref 108] 109 P I (am_qa 111 P2 I2) := by
  refine am_body (sc := am_sc0) (n := 0) (by decide +kernel) (by decide) rfl ?_
  change G am_sc0 l d 2 128 mX1_init (am_qa 111 P2 I2) 0 [.ref 108] [] 109 P I 0 0
  unfold F_X1_init_108 at hF
  refine g_aload_n (pc := 0) dX1_init_0 rfl rfl ?_
  refine g_objInit (pc := 1) (k := 108) kl_X1_3 kz_oi kz_oc (Nat.le_trans (by decide) hd) (Nat.le_of_ble_eq_true rfl) dX1_init_1 ?_
  refine g_aload_n (pc := 4) dX1_init_4 rfl rfl ?_
  refine g_iconst (pc := 5) (v := (0 : Int32)) dX1_init_5 rfl ?_
  obtain ⟨I_1, e_I_1, hF⟩ := am_let_el hF
  refine n_putI (pc := 6) (k := 108) e_I_1 kf_X1_9 rfl rfl (by decide) dX1_init_6 ?_
  refine g_aload_n (pc := 9) dX1_init_9 rfl rfl ?_
  refine g_bipush (pc := 10) (v := (112 : Int32)) dX1_init_10 rfl ?_
  obtain ⟨P_2, e_P_2, hF⟩ := am_let_el hF
  obtain ⟨I_3, e_I_3, hF⟩ := am_let_el hF
  refine n_newa (pc := 12) (N := 109) (n := 112) e_P_2 e_I_3 rfl (by decide) (by decide) rfl (by decide) (by decide) (by decide) kz_arr dX1_init_12 ?_
  obtain ⟨P_4, e_P_4, hF⟩ := am_let_el hF
  refine n_putR (pc := 14) (k := 108) e_P_4 kf_X1_15 rfl rfl (by decide) (fun _ => rfl) dX1_init_14 ?_
  refine g_aload_n (pc := 17) dX1_init_17 rfl rfl ?_
  refine g_bipush (pc := 18) (v := (16 : Int32)) dX1_init_18 rfl ?_
  obtain ⟨P_5, e_P_5, hF⟩ := am_let_el hF
  obtain ⟨I_6, e_I_6, hF⟩ := am_let_el hF
  refine n_newa (pc := 20) (N := 110) (n := 16) e_P_5 e_I_6 rfl (by decide) (by decide) rfl (by decide) (by decide) (by decide) kz_arr dX1_init_20 ?_
  obtain ⟨P_7, e_P_7, hF⟩ := am_let_el hF
  refine n_putR (pc := 22) (k := 108) e_P_7 kf_X1_19 rfl rfl (by decide) (fun _ => rfl) dX1_init_22 ?_
  cases hF
  exact g_vret (pc := 25) rfl (by decide) (by decide) dX1_init_25 ⟨rfl, rfl, rfl, rfl⟩
set_option maxRecDepth 100000 in
def F_X5_init_111 (P : am_PT) (I : am_IT) : Option (am_PT × am_IT) := am_let (zr P 112 none) (fun (P_1 : am_PT) => am_let (zr I 112 0) (fun (I_2 : am_IT) => am_let (up2 P_1 111 0 (some 112)) (fun (P_3 : am_PT) => am_let (zr P_3 113 none) (fun (P_4 : am_PT) => am_let (zr I_2 113 0) (fun (I_5 : am_IT) => am_let (up2 P_4 111 1 (some 113)) (fun (P_6 : am_PT) => am_let (zr P_6 114 none) (fun (P_7 : am_PT) => am_let (zr I_5 114 0) (fun (I_8 : am_IT) => am_let (up2 P_7 111 2 (some 114)) (fun (P_9 : am_PT) => am_let (zr P_9 115 none) (fun (P_10 : am_PT) => am_let (zr I_8 115 0) (fun (I_11 : am_IT) => am_let (up2 P_10 111 3 (some 115)) (fun (P_12 : am_PT) => am_let (up2 I_11 111 4 (0 : Int32)) (fun (I_13 : am_IT) => am_let (up2 I_13 111 5 (0 : Int32)) (fun (I_14 : am_IT) => am_let (up2 I_14 111 6 (-1 : Int32)) (fun (I_15 : am_IT) => am_let (up2 I_15 111 7 (0 : Int32)) (fun (I_16 : am_IT) => some (P_12, I_16)))))))))))))))))
set_option maxRecDepth 100000 in
set_option maxHeartbeats 4000000 in
theorem s_X5_init_111 {l : Launch} {d : Nat} (hd : 1 ≤ d) {P : am_PT} {I : am_IT} {P2 : am_PT} {I2 : am_IT} (hF : F_X5_init_111 P I = some (P2, I2)) : am_C l d 4 108 mX5_init [.ref 111] 112 P I (am_qa 116 P2 I2) := by
  refine am_body (sc := am_sc0) (n := 0) (by decide +kernel) (by decide) rfl ?_
  change G am_sc0 l d 4 108 mX5_init (am_qa 116 P2 I2) 0 [.ref 111] [] 112 P I 0 0
  unfold F_X5_init_111 at hF
  refine g_aload_n (pc := 0) dX5_init_0 rfl rfl ?_
  refine g_objInit (pc := 1) (k := 111) kl_X5_3 kz_oi kz_oc (Nat.le_trans (by decide) hd) (Nat.le_of_ble_eq_true rfl) dX5_init_1 ?_
  refine g_aload_n (pc := 4) dX5_init_4 rfl rfl ?_
  refine g_bipush (pc := 5) (v := (9 : Int32)) dX5_init_5 rfl ?_
  obtain ⟨P_1, e_P_1, hF⟩ := am_let_el hF
  obtain ⟨I_2, e_I_2, hF⟩ := am_let_el hF
  refine n_newa (pc := 7) (N := 112) (n := 9) e_P_1 e_I_2 rfl (by decide) (by decide) rfl (by decide) (by decide) (by decide) kz_arr dX5_init_7 ?_
  obtain ⟨P_3, e_P_3, hF⟩ := am_let_el hF
  refine n_putR (pc := 9) (k := 111) e_P_3 kf_X5_9 rfl rfl (by decide) (fun _ => rfl) dX5_init_9 ?_
  refine g_aload_n (pc := 12) dX5_init_12 rfl rfl ?_
  refine g_bipush (pc := 13) (v := (81 : Int32)) dX5_init_13 rfl ?_
  obtain ⟨P_4, e_P_4, hF⟩ := am_let_el hF
  obtain ⟨I_5, e_I_5, hF⟩ := am_let_el hF
  refine n_newa (pc := 15) (N := 113) (n := 81) e_P_4 e_I_5 rfl (by decide) (by decide) rfl (by decide) (by decide) (by decide) kz_arr dX5_init_15 ?_
  obtain ⟨P_6, e_P_6, hF⟩ := am_let_el hF
  refine n_putR (pc := 17) (k := 111) e_P_6 kf_X5_15 rfl rfl (by decide) (fun _ => rfl) dX5_init_17 ?_
  refine g_aload_n (pc := 20) dX5_init_20 rfl rfl ?_
  refine g_bipush (pc := 21) (v := (9 : Int32)) dX5_init_21 rfl ?_
  obtain ⟨P_7, e_P_7, hF⟩ := am_let_el hF
  obtain ⟨I_8, e_I_8, hF⟩ := am_let_el hF
  refine n_newa (pc := 23) (N := 114) (n := 9) e_P_7 e_I_8 rfl (by decide) (by decide) rfl (by decide) (by decide) (by decide) kz_arr dX5_init_23 ?_
  obtain ⟨P_9, e_P_9, hF⟩ := am_let_el hF
  refine n_putR (pc := 25) (k := 111) e_P_9 kf_X5_18 rfl rfl (by decide) (fun _ => rfl) dX5_init_25 ?_
  refine g_aload_n (pc := 28) dX5_init_28 rfl rfl ?_
  refine g_bipush (pc := 29) (v := (9 : Int32)) dX5_init_29 rfl ?_
  obtain ⟨P_10, e_P_10, hF⟩ := am_let_el hF
  obtain ⟨I_11, e_I_11, hF⟩ := am_let_el hF
  refine n_newa (pc := 31) (N := 115) (n := 9) e_P_10 e_I_11 rfl (by decide) (by decide) rfl (by decide) (by decide) (by decide) kz_arr dX5_init_31 ?_
  obtain ⟨P_12, e_P_12, hF⟩ := am_let_el hF
  refine n_putR (pc := 33) (k := 111) e_P_12 kf_X5_21 rfl rfl (by decide) (fun _ => rfl) dX5_init_33 ?_
  refine g_aload_n (pc := 36) dX5_init_36 rfl rfl ?_
  refine g_iconst (pc := 37) (v := (0 : Int32)) dX5_init_37 rfl ?_
  obtain ⟨I_13, e_I_13, hF⟩ := am_let_el hF
  refine n_putI (pc := 38) (k := 111) e_I_13 kf_X5_24 rfl rfl (by decide) dX5_init_38 ?_
  refine g_aload_n (pc := 41) dX5_init_41 rfl rfl ?_
  refine g_iconst (pc := 42) (v := (0 : Int32)) dX5_init_42 rfl ?_
  obtain ⟨I_14, e_I_14, hF⟩ := am_let_el hF
  refine n_putI (pc := 43) (k := 111) e_I_14 kf_X5_28 rfl rfl (by decide) dX5_init_43 ?_
  refine g_aload_n (pc := 46) dX5_init_46 rfl rfl ?_
  refine g_iconst (pc := 47) (v := (-1 : Int32)) dX5_init_47 (by decide) ?_
  obtain ⟨I_15, e_I_15, hF⟩ := am_let_el hF
  refine n_putI (pc := 48) (k := 111) e_I_15 kf_X5_31 rfl rfl (by decide) dX5_init_48 ?_
  refine g_aload_n (pc := 51) dX5_init_51 rfl rfl ?_
  refine g_iconst (pc := 52) (v := (0 : Int32)) dX5_init_52 rfl ?_
  obtain ⟨I_16, e_I_16, hF⟩ := am_let_el hF
  refine n_putI (pc := 53) (k := 111) e_I_16 kf_X5_34 rfl rfl (by decide) dX5_init_53 ?_
  cases hF
  exact g_vret (pc := 56) rfl (by decide) (by decide) dX5_init_56 ⟨rfl, rfl, rfl, rfl⟩
set_option maxRecDepth 100000 in
def F_X9_init_94 (P : am_PT) (I : am_IT) : Option (am_PT × am_IT) := am_let (up2 I 94 0 (3 : Int32)) (fun (I_1 : am_IT) => am_let (up2 I_1 94 1 (0 : Int32)) (fun (I_2 : am_IT) => am_let (up2 I_2 94 2 (0 : Int32)) (fun (I_3 : am_IT) => am_let (up2 I_3 94 3 (0 : Int32)) (fun (I_4 : am_IT) => am_let (up2 I_4 94 4 (0 : Int32)) (fun (I_5 : am_IT) => am_let (up2 I_5 94 5 (0 : Int32)) (fun (I_6 : am_IT) => am_let (zr P 95 none) (fun (P_7 : am_PT) => am_let (zr I_6 95 0) (fun (I_8 : am_IT) => am_let (up2 P_7 94 6 (some 95)) (fun (P_9 : am_PT) => am_let (zr P_9 96 none) (fun (P_10 : am_PT) => am_let (zr I_8 96 0) (fun (I_11 : am_IT) => am_let (up2 P_10 94 7 (some 96)) (fun (P_12 : am_PT) => am_let (zr P_12 97 none) (fun (P_13 : am_PT) => am_let (zr I_11 97 0) (fun (I_14 : am_IT) => am_let (up2 P_13 94 8 (some 97)) (fun (P_15 : am_PT) => am_let (zr P_15 98 none) (fun (P_16 : am_PT) => am_let (zr I_14 98 0) (fun (I_17 : am_IT) => am_let (up2 P_16 94 9 (some 98)) (fun (P_18 : am_PT) => am_let (zr P_18 99 none) (fun (P_19 : am_PT) => am_let (zr I_17 99 0) (fun (I_20 : am_IT) => am_let (up2 P_19 94 10 (some 99)) (fun (P_21 : am_PT) => am_let (zr P_21 100 none) (fun (P_22 : am_PT) => am_let (zr I_20 100 0) (fun (I_23 : am_IT) => am_let (up2 P_22 94 11 (some 100)) (fun (P_24 : am_PT) => am_let (zr P_24 101 none) (fun (P_25 : am_PT) => am_let (zr I_23 101 0) (fun (I_26 : am_IT) => am_let (up2 P_25 94 12 (some 101)) (fun (P_27 : am_PT) => am_let (zr P_27 102 none) (fun (P_28 : am_PT) => am_let (zr I_26 102 0) (fun (I_29 : am_IT) => am_let (up2 P_28 94 13 (some 102)) (fun (P_30 : am_PT) => am_let (zr P_30 103 none) (fun (P_31 : am_PT) => am_let (zr I_29 103 0) (fun (I_32 : am_IT) => am_let (up2 P_31 94 14 (some 103)) (fun (P_33 : am_PT) => am_let (zr P_33 104 none) (fun (P_34 : am_PT) => am_let (zr I_32 104 0) (fun (I_35 : am_IT) => am_b2 (F_X6_init_104 P_34 I_35) (fun (P_37 : am_PT) (I_38 : am_IT) => am_let (up2 P_37 94 15 (some 104)) (fun (P_39 : am_PT) => am_let (zr P_39 108 none) (fun (P_40 : am_PT) => am_let (zr I_38 108 0) (fun (I_41 : am_IT) => am_b2 (F_X1_init_108 P_40 I_41) (fun (P_43 : am_PT) (I_44 : am_IT) => am_let (up2 P_43 94 16 (some 108)) (fun (P_45 : am_PT) => am_let (zr P_45 111 none) (fun (P_46 : am_PT) => am_let (zr I_44 111 0) (fun (I_47 : am_IT) => am_b2 (F_X5_init_111 P_46 I_47) (fun (P_49 : am_PT) (I_50 : am_IT) => am_let (up2 P_49 94 17 (some 111)) (fun (P_51 : am_PT) => some (P_51, I_50))))))))))))))))))))))))))))))))))))))))))))))
set_option maxRecDepth 100000 in
set_option maxHeartbeats 4000000 in
theorem s_X9_init_94 {l : Launch} {d : Nat} (hd : 2 ≤ d) {P : am_PT} {I : am_IT} {P2 : am_PT} {I2 : am_IT} (hF : F_X9_init_94 P I = some (P2, I2)) : am_C l d 21 930 mX9_init [.ref 94] 95 P I (am_qa 116 P2 I2) := by
  refine am_body (sc := am_sc0) (n := 0) (by decide +kernel) (by decide) rfl ?_
  change G am_sc0 l d 21 930 mX9_init (am_qa 116 P2 I2) 0 [.ref 94] [] 95 P I 0 0
  unfold F_X9_init_94 at hF
  refine g_aload_n (pc := 0) dX9_init_0 rfl rfl ?_
  refine g_objInit (pc := 1) (k := 94) kl_X9_3 kz_oi kz_oc (Nat.le_trans (by decide) hd) (Nat.le_of_ble_eq_true rfl) dX9_init_1 ?_
  refine g_aload_n (pc := 4) dX9_init_4 rfl rfl ?_
  refine g_iconst (pc := 5) (v := (3 : Int32)) dX9_init_5 rfl ?_
  obtain ⟨I_1, e_I_1, hF⟩ := am_let_el hF
  refine n_putI (pc := 6) (k := 94) e_I_1 kf_X9_9 rfl rfl (by decide) dX9_init_6 ?_
  refine g_aload_n (pc := 9) dX9_init_9 rfl rfl ?_
  refine g_iconst (pc := 10) (v := (0 : Int32)) dX9_init_10 rfl ?_
  obtain ⟨I_2, e_I_2, hF⟩ := am_let_el hF
  refine n_putI (pc := 11) (k := 94) e_I_2 kf_X9_15 rfl rfl (by decide) dX9_init_11 ?_
  refine g_aload_n (pc := 14) dX9_init_14 rfl rfl ?_
  refine g_iconst (pc := 15) (v := (0 : Int32)) dX9_init_15 rfl ?_
  obtain ⟨I_3, e_I_3, hF⟩ := am_let_el hF
  refine n_putI (pc := 16) (k := 94) e_I_3 kf_X9_18 rfl rfl (by decide) dX9_init_16 ?_
  refine g_aload_n (pc := 19) dX9_init_19 rfl rfl ?_
  refine g_iconst (pc := 20) (v := (0 : Int32)) dX9_init_20 rfl ?_
  obtain ⟨I_4, e_I_4, hF⟩ := am_let_el hF
  refine n_putI (pc := 21) (k := 94) e_I_4 kf_X9_21 rfl rfl (by decide) dX9_init_21 ?_
  refine g_aload_n (pc := 24) dX9_init_24 rfl rfl ?_
  refine g_iconst (pc := 25) (v := (0 : Int32)) dX9_init_25 rfl ?_
  obtain ⟨I_5, e_I_5, hF⟩ := am_let_el hF
  refine n_putI (pc := 26) (k := 94) e_I_5 kf_X9_24 rfl rfl (by decide) dX9_init_26 ?_
  refine g_aload_n (pc := 29) dX9_init_29 rfl rfl ?_
  refine g_iconst (pc := 30) (v := (0 : Int32)) dX9_init_30 rfl ?_
  obtain ⟨I_6, e_I_6, hF⟩ := am_let_el hF
  refine n_putI (pc := 31) (k := 94) e_I_6 kf_X9_27 rfl rfl (by decide) dX9_init_31 ?_
  refine g_aload_n (pc := 34) dX9_init_34 rfl rfl ?_
  refine g_iconst (pc := 35) (v := (4 : Int32)) dX9_init_35 rfl ?_
  obtain ⟨P_7, e_P_7, hF⟩ := am_let_el hF
  obtain ⟨I_8, e_I_8, hF⟩ := am_let_el hF
  refine n_newa (pc := 36) (N := 95) (n := 4) e_P_7 e_I_8 rfl (by decide) (by decide) rfl (by decide) (by decide) (by decide) kz_arr dX9_init_36 ?_
  obtain ⟨P_9, e_P_9, hF⟩ := am_let_el hF
  refine n_putR (pc := 38) (k := 94) e_P_9 kf_X9_30 rfl rfl (by decide) (fun _ => rfl) dX9_init_38 ?_
  refine g_aload_n (pc := 41) dX9_init_41 rfl rfl ?_
  refine g_bipush (pc := 42) (v := (7 : Int32)) dX9_init_42 rfl ?_
  obtain ⟨P_10, e_P_10, hF⟩ := am_let_el hF
  obtain ⟨I_11, e_I_11, hF⟩ := am_let_el hF
  refine n_newa (pc := 44) (N := 96) (n := 7) e_P_10 e_I_11 rfl (by decide) (by decide) rfl (by decide) (by decide) (by decide) kz_arr dX9_init_44 ?_
  obtain ⟨P_12, e_P_12, hF⟩ := am_let_el hF
  refine n_putR (pc := 46) (k := 94) e_P_12 kf_X9_34 rfl rfl (by decide) (fun _ => rfl) dX9_init_46 ?_
  refine g_aload_n (pc := 49) dX9_init_49 rfl rfl ?_
  refine g_bipush (pc := 50) (v := (7 : Int32)) dX9_init_50 rfl ?_
  obtain ⟨P_13, e_P_13, hF⟩ := am_let_el hF
  obtain ⟨I_14, e_I_14, hF⟩ := am_let_el hF
  refine n_newa (pc := 52) (N := 97) (n := 7) e_P_13 e_I_14 rfl (by decide) (by decide) rfl (by decide) (by decide) (by decide) kz_arr dX9_init_52 ?_
  obtain ⟨P_15, e_P_15, hF⟩ := am_let_el hF
  refine n_putR (pc := 54) (k := 94) e_P_15 kf_X9_37 rfl rfl (by decide) (fun _ => rfl) dX9_init_54 ?_
  refine g_aload_n (pc := 57) dX9_init_57 rfl rfl ?_
  refine g_bipush (pc := 58) (v := (56 : Int32)) dX9_init_58 rfl ?_
  obtain ⟨P_16, e_P_16, hF⟩ := am_let_el hF
  obtain ⟨I_17, e_I_17, hF⟩ := am_let_el hF
  refine n_newa (pc := 60) (N := 98) (n := 56) e_P_16 e_I_17 rfl (by decide) (by decide) rfl (by decide) (by decide) (by decide) kz_arr dX9_init_60 ?_
  obtain ⟨P_18, e_P_18, hF⟩ := am_let_el hF
  refine n_putR (pc := 62) (k := 94) e_P_18 kf_X9_40 rfl rfl (by decide) (fun _ => rfl) dX9_init_62 ?_
  refine g_aload_n (pc := 65) dX9_init_65 rfl rfl ?_
  refine g_bipush (pc := 66) (v := (60 : Int32)) dX9_init_66 rfl ?_
  obtain ⟨P_19, e_P_19, hF⟩ := am_let_el hF
  obtain ⟨I_20, e_I_20, hF⟩ := am_let_el hF
  refine n_newa (pc := 68) (N := 99) (n := 60) e_P_19 e_I_20 rfl (by decide) (by decide) rfl (by decide) (by decide) (by decide) kz_arr dX9_init_68 ?_
  obtain ⟨P_21, e_P_21, hF⟩ := am_let_el hF
  refine n_putR (pc := 70) (k := 94) e_P_21 kf_X9_43 rfl rfl (by decide) (fun _ => rfl) dX9_init_70 ?_
  refine g_aload_n (pc := 73) dX9_init_73 rfl rfl ?_
  refine g_bipush (pc := 74) (v := (28 : Int32)) dX9_init_74 rfl ?_
  obtain ⟨P_22, e_P_22, hF⟩ := am_let_el hF
  obtain ⟨I_23, e_I_23, hF⟩ := am_let_el hF
  refine n_newa (pc := 76) (N := 100) (n := 28) e_P_22 e_I_23 rfl (by decide) (by decide) rfl (by decide) (by decide) (by decide) kz_arr dX9_init_76 ?_
  obtain ⟨P_24, e_P_24, hF⟩ := am_let_el hF
  refine n_putR (pc := 78) (k := 94) e_P_24 kf_X9_46 rfl rfl (by decide) (fun _ => rfl) dX9_init_78 ?_
  refine g_aload_n (pc := 81) dX9_init_81 rfl rfl ?_
  refine g_bipush (pc := 82) (v := (28 : Int32)) dX9_init_82 rfl ?_
  obtain ⟨P_25, e_P_25, hF⟩ := am_let_el hF
  obtain ⟨I_26, e_I_26, hF⟩ := am_let_el hF
  refine n_newa (pc := 84) (N := 101) (n := 28) e_P_25 e_I_26 rfl (by decide) (by decide) rfl (by decide) (by decide) (by decide) kz_arr dX9_init_84 ?_
  obtain ⟨P_27, e_P_27, hF⟩ := am_let_el hF
  refine n_putR (pc := 86) (k := 94) e_P_27 kf_X9_49 rfl rfl (by decide) (fun _ => rfl) dX9_init_86 ?_
  refine g_aload_n (pc := 89) dX9_init_89 rfl rfl ?_
  refine g_bipush (pc := 90) (v := (7 : Int32)) dX9_init_90 rfl ?_
  obtain ⟨P_28, e_P_28, hF⟩ := am_let_el hF
  obtain ⟨I_29, e_I_29, hF⟩ := am_let_el hF
  refine n_newa (pc := 92) (N := 102) (n := 7) e_P_28 e_I_29 rfl (by decide) (by decide) rfl (by decide) (by decide) (by decide) kz_arr dX9_init_92 ?_
  obtain ⟨P_30, e_P_30, hF⟩ := am_let_el hF
  refine n_putR (pc := 94) (k := 94) e_P_30 kf_X9_52 rfl rfl (by decide) (fun _ => rfl) dX9_init_94 ?_
  refine g_aload_n (pc := 97) dX9_init_97 rfl rfl ?_
  refine g_bipush (pc := 98) (v := (49 : Int32)) dX9_init_98 rfl ?_
  obtain ⟨P_31, e_P_31, hF⟩ := am_let_el hF
  obtain ⟨I_32, e_I_32, hF⟩ := am_let_el hF
  refine n_newa (pc := 100) (N := 103) (n := 49) e_P_31 e_I_32 rfl (by decide) (by decide) rfl (by decide) (by decide) (by decide) kz_arr dX9_init_100 ?_
  obtain ⟨P_33, e_P_33, hF⟩ := am_let_el hF
  refine n_putR (pc := 102) (k := 94) e_P_33 kf_X9_55 rfl rfl (by decide) (fun _ => rfl) dX9_init_102 ?_
  refine g_aload_n (pc := 105) dX9_init_105 rfl rfl ?_
  obtain ⟨P_34, e_P_34, hF⟩ := am_let_el hF
  obtain ⟨I_35, e_I_35, hF⟩ := am_let_el hF
  refine n_new (pc := 106) (N := 104) e_P_34 e_I_35 kn_X9_58 rfl (by decide) (by decide) (by decide) dX9_init_106 ?_
  refine g_dup (pc := 109) dX9_init_109 ?_
  obtain ⟨P_37, I_38, h_36, hF⟩ := am_b2_el hF
  refine g_callIN (pc := 110) (k := 104) (As := []) (st := [.ref 104, .ref 94]) ky_X6_init (show (_, _, _, "PaintedByOthers") ∈ am_nest by decide +kernel) (s_X6_init_104 (d := 1) (Nat.le_refl _) h_36) rfl rfl (Nat.le_trans (by decide) hd) (Nat.le_of_ble_eq_true rfl) (by decide) (by decide) dX9_init_110 ?_
  rintro _ _ _ _ ⟨rfl, rfl, rfl, rfl⟩
  obtain ⟨P_39, e_P_39, hF⟩ := am_let_el hF
  refine n_putR (pc := 113) (k := 94) e_P_39 kf_X9_61 rfl rfl (by decide) (fun _ => rfl) dX9_init_113 ?_
  refine g_aload_n (pc := 116) dX9_init_116 rfl rfl ?_
  obtain ⟨P_40, e_P_40, hF⟩ := am_let_el hF
  obtain ⟨I_41, e_I_41, hF⟩ := am_let_el hF
  refine n_new (pc := 117) (N := 108) e_P_40 e_I_41 kn_X9_65 rfl (by decide) (by decide) (by decide) dX9_init_117 ?_
  refine g_dup (pc := 120) dX9_init_120 ?_
  obtain ⟨P_43, I_44, h_42, hF⟩ := am_b2_el hF
  refine g_callIN (pc := 121) (k := 108) (As := []) (st := [.ref 108, .ref 94]) ky_X1_init (show (_, _, _, "PaintedByOthers") ∈ am_nest by decide +kernel) (s_X1_init_108 (d := 1) (Nat.le_refl _) h_42) rfl rfl (Nat.le_trans (by decide) hd) (Nat.le_of_ble_eq_true rfl) (by decide) (by decide) dX9_init_121 ?_
  rintro _ _ _ _ ⟨rfl, rfl, rfl, rfl⟩
  obtain ⟨P_45, e_P_45, hF⟩ := am_let_el hF
  refine n_putR (pc := 124) (k := 94) e_P_45 kf_X9_68 rfl rfl (by decide) (fun _ => rfl) dX9_init_124 ?_
  refine g_aload_n (pc := 127) dX9_init_127 rfl rfl ?_
  obtain ⟨P_46, e_P_46, hF⟩ := am_let_el hF
  obtain ⟨I_47, e_I_47, hF⟩ := am_let_el hF
  refine n_new (pc := 128) (N := 111) e_P_46 e_I_47 kn_X9_72 rfl (by decide) (by decide) (by decide) dX9_init_128 ?_
  refine g_dup (pc := 131) dX9_init_131 ?_
  obtain ⟨P_49, I_50, h_48, hF⟩ := am_b2_el hF
  refine g_callIN (pc := 132) (k := 111) (As := []) (st := [.ref 111, .ref 94]) ky_X5_init (show (_, _, _, "PaintedByOthers") ∈ am_nest by decide +kernel) (s_X5_init_111 (d := 1) (Nat.le_refl _) h_48) rfl rfl (Nat.le_trans (by decide) hd) (Nat.le_of_ble_eq_true rfl) (by decide) (by decide) dX9_init_132 ?_
  rintro _ _ _ _ ⟨rfl, rfl, rfl, rfl⟩
  obtain ⟨P_51, e_P_51, hF⟩ := am_let_el hF
  refine n_putR (pc := 135) (k := 94) e_P_51 kf_X9_75 rfl rfl (by decide) (fun _ => rfl) dX9_init_135 ?_
  cases hF
  exact g_vret (pc := 138) rfl (by decide) (by decide) dX9_init_138 ⟨rfl, rfl, rfl, rfl⟩
set_option maxRecDepth 100000 in
def F_X11_image_0_94 (P : am_PT) (I : am_IT) (a1 : Int32) : Option (Int32 × Nat × am_PT × am_IT) := if a1 = 0 then (if P 0 12 = none then (some ((0 : Int32), 94, P, I)) else none) else (if P 0 12 = none then (am_let (zr P 94 none) (fun (P_4 : am_PT) => am_let (zr I 94 0) (fun (I_5 : am_IT) => am_b2 (F_X9_init_94 P_4 I_5) (fun (P_7 : am_PT) (I_8 : am_IT) => am_let (up2 P_7 0 12 (some 94)) (fun (P_9 : am_PT) => if P_9 0 12 = some 94 then (if P_9 0 0 = some 1 then (if am_plb 116 P_9 = true then (am_b1 (F_X9_copyFrom_94_1 I_8) (fun (I_13 : am_IT) => some ((1 : Int32), 116, P_9, I_13))) else none) else none) else none))))) else none)
set_option maxRecDepth 100000 in
set_option maxHeartbeats 4000000 in
theorem s_X11_image_0_94 {l : Launch} {d : Nat} (hd : 4 ≤ d) {P : am_PT} {I : am_IT} {a1 : Int32} {r : Int32} {N2 : Nat} {P2 : am_PT} {I2 : am_IT} (hF : F_X11_image_0_94 P I a1 = some (r, N2, P2, I2)) : am_C l d 22 948 mX11_image [.ref 0, .int a1] 94 P I (am_qj r N2 P2 I2) := by
  refine am_body (sc := am_sc0) (n := 0) (by decide +kernel) (by decide) rfl ?_
  change G am_sc0 l d 22 948 mX11_image (am_qj r N2 P2 I2) 0 [.ref 0, .int a1] [] 94 P I 0 0
  unfold F_X11_image_0_94 at hF
  refine g_iload_n (pc := 0) dX11_image_0 rfl rfl ?_
  refine g_if_eq (pc := 1) (tgt := 35) dX11_image_1 rfl (fun c_1 => ?_) (fun c_1 => ?_)
  · replace hF := am_yes c_1 hF
    refine g_aload_n (pc := 35) dX11_image_35 rfl rfl ?_
    obtain ⟨c_2, hF⟩ := am_gd hF
    refine g_getN (pc := 36) (k := 0) kf_X11_83.r rfl rfl c_2 (by decide) dX11_image_36 ?_
    refine g_ifnonnullN (pc := 39) dX11_image_39 ?_
    refine g_iconst (pc := 42) (v := (0 : Int32)) dX11_image_42 rfl ?_
    cases hF
    exact g_zret (pc := 43) rfl (Or.inl rfl) (by decide) (by decide) dX11_image_43 ⟨(Or.inl rfl), rfl, rfl, rfl, rfl⟩
  · replace hF := am_no c_1 hF
    refine g_aload_n (pc := 4) dX11_image_4 rfl rfl ?_
    obtain ⟨c_3, hF⟩ := am_gd hF
    refine g_getN (pc := 5) (k := 0) kf_X11_83.r rfl rfl c_3 (by decide) dX11_image_5 ?_
    refine g_ifnonnullN (pc := 8) dX11_image_8 ?_
    refine g_aload_n (pc := 11) dX11_image_11 rfl rfl ?_
    obtain ⟨P_4, e_P_4, hF⟩ := am_let_el hF
    obtain ⟨I_5, e_I_5, hF⟩ := am_let_el hF
    refine n_new (pc := 12) (N := 94) e_P_4 e_I_5 kn_X11_9 rfl (by decide) (by decide) (by decide) dX11_image_12 ?_
    refine g_dup (pc := 15) dX11_image_15 ?_
    obtain ⟨P_7, I_8, h_6, hF⟩ := am_b2_el hF
    refine g_callIN (pc := 16) (k := 94) (As := []) (st := [.ref 94, .ref 0]) ky_X9_init (show (_, _, _, "PaintedByOthers") ∈ am_nest by decide +kernel) (s_X9_init_94 (d := 2) (Nat.le_refl _) h_6) rfl rfl (Nat.le_trans (by decide) hd) (Nat.le_of_ble_eq_true rfl) (by decide) (by decide) dX11_image_16 ?_
    rintro _ _ _ _ ⟨rfl, rfl, rfl, rfl⟩
    obtain ⟨P_9, e_P_9, hF⟩ := am_let_el hF
    refine n_putR (pc := 19) (k := 0) e_P_9 kf_X11_83 rfl rfl (by decide) (fun h => Bool.noConfusion h) dX11_image_19 ?_
    refine g_aload_n (pc := 22) dX11_image_22 rfl rfl ?_
    obtain ⟨c_10, hF⟩ := am_gd hF
    refine g_getR (pc := 23) (k := 0) (r := 94) kf_X11_83.r rfl rfl c_10 (by decide) dX11_image_23 ?_
    refine g_aload_n (pc := 26) dX11_image_26 rfl rfl ?_
    obtain ⟨c_11, hF⟩ := am_gd hF
    refine g_getR (pc := 27) (k := 0) (r := 1) kf_X11_12.r rfl rfl c_11 (by decide) dX11_image_27 ?_
    obtain ⟨c_12, hF⟩ := am_gd hF
    obtain ⟨I_13, h_14, hF⟩ := am_b1_el hF
    refine g_cVv (pc := 30) (k := 94) (As := [.ref 1]) (st := []) ky_X9_copyFrom kl_X11_299 (s_X9_copyFrom_94_1 (d := 3) (am_plb_use c_12 (by decide)) (Nat.le_refl _) h_14) rfl rfl rfl (by decide) (Nat.le_trans (by decide) hd) (Nat.le_of_ble_eq_true rfl) (by decide) (by decide) dX11_image_30 ?_
    refine g_iconst (pc := 33) (v := (1 : Int32)) dX11_image_33 rfl ?_
    cases hF
    exact g_zret (pc := 34) rfl (Or.inr rfl) (by decide) (by decide) dX11_image_34 ⟨(Or.inr rfl), rfl, rfl, rfl, rfl⟩
set_option maxRecDepth 100000 in
def F_X11_image_0_116 (P : am_PT) (I : am_IT) (a1 : Int32) : Option (Int32 × Nat × am_PT × am_IT) := if a1 = 0 then (if P 0 12 = some 94 then (if P 0 0 = some 1 then (if P 0 12 = some 94 then (if am_plb 116 P = true then (am_b1 (F_X9_copyFrom_1_94 I) (fun (I_6 : am_IT) => some ((1 : Int32), 116, P, I_6))) else none) else none) else none) else none) else (if P 0 12 = some 94 then (if P 0 12 = some 94 then (if P 0 0 = some 1 then (if am_plb 116 P = true then (am_b1 (F_X9_copyFrom_94_1 I) (fun (I_12 : am_IT) => some ((1 : Int32), 116, P, I_12))) else none) else none) else none) else none)
set_option maxRecDepth 100000 in
set_option maxHeartbeats 4000000 in
theorem s_X11_image_0_116 {l : Launch} {d : Nat} (hd : 4 ≤ d) {P : am_PT} {I : am_IT} {a1 : Int32} {r : Int32} {N2 : Nat} {P2 : am_PT} {I2 : am_IT} (hF : F_X11_image_0_116 P I a1 = some (r, N2, P2, I2)) : am_C l d 0 0 mX11_image [.ref 0, .int a1] 116 P I (am_qj r N2 P2 I2) := by
  refine am_body (sc := am_sc0) (n := 0) (by decide +kernel) (by decide) rfl ?_
  change G am_sc0 l d 0 0 mX11_image (am_qj r N2 P2 I2) 0 [.ref 0, .int a1] [] 116 P I 0 0
  unfold F_X11_image_0_116 at hF
  refine g_iload_n (pc := 0) dX11_image_0 rfl rfl ?_
  refine g_if_eq (pc := 1) (tgt := 35) dX11_image_1 rfl (fun c_1 => ?_) (fun c_1 => ?_)
  · replace hF := am_yes c_1 hF
    refine g_aload_n (pc := 35) dX11_image_35 rfl rfl ?_
    obtain ⟨c_2, hF⟩ := am_gd hF
    refine g_getR (pc := 36) (k := 0) (r := 94) kf_X11_83.r rfl rfl c_2 (by decide) dX11_image_36 ?_
    refine g_ifnonnull (pc := 39) (tgt := 44) dX11_image_39 rfl ?_
    refine g_aload_n (pc := 44) dX11_image_44 rfl rfl ?_
    obtain ⟨c_3, hF⟩ := am_gd hF
    refine g_getR (pc := 45) (k := 0) (r := 1) kf_X11_12.r rfl rfl c_3 (by decide) dX11_image_45 ?_
    refine g_aload_n (pc := 48) dX11_image_48 rfl rfl ?_
    obtain ⟨c_4, hF⟩ := am_gd hF
    refine g_getR (pc := 49) (k := 0) (r := 94) kf_X11_83.r rfl rfl c_4 (by decide) dX11_image_49 ?_
    obtain ⟨c_5, hF⟩ := am_gd hF
    obtain ⟨I_6, h_7, hF⟩ := am_b1_el hF
    refine g_cVv (pc := 52) (k := 1) (As := [.ref 94]) (st := []) ky_X9_copyFrom kl_X11_299 (s_X9_copyFrom_1_94 (d := 3) (am_plb_use c_5 (by decide)) (Nat.le_refl _) h_7) rfl rfl rfl (by decide) (Nat.le_trans (by decide) hd) (Nat.le_of_ble_eq_true rfl) (by decide) (by decide) dX11_image_52 ?_
    refine g_iconst (pc := 55) (v := (1 : Int32)) dX11_image_55 rfl ?_
    cases hF
    exact g_zret (pc := 56) rfl (Or.inr rfl) (by decide) (by decide) dX11_image_56 ⟨(Or.inr rfl), rfl, rfl, rfl, rfl⟩
  · replace hF := am_no c_1 hF
    refine g_aload_n (pc := 4) dX11_image_4 rfl rfl ?_
    obtain ⟨c_8, hF⟩ := am_gd hF
    refine g_getR (pc := 5) (k := 0) (r := 94) kf_X11_83.r rfl rfl c_8 (by decide) dX11_image_5 ?_
    refine g_ifnonnull (pc := 8) (tgt := 22) dX11_image_8 rfl ?_
    refine g_aload_n (pc := 22) dX11_image_22 rfl rfl ?_
    obtain ⟨c_9, hF⟩ := am_gd hF
    refine g_getR (pc := 23) (k := 0) (r := 94) kf_X11_83.r rfl rfl c_9 (by decide) dX11_image_23 ?_
    refine g_aload_n (pc := 26) dX11_image_26 rfl rfl ?_
    obtain ⟨c_10, hF⟩ := am_gd hF
    refine g_getR (pc := 27) (k := 0) (r := 1) kf_X11_12.r rfl rfl c_10 (by decide) dX11_image_27 ?_
    obtain ⟨c_11, hF⟩ := am_gd hF
    obtain ⟨I_12, h_13, hF⟩ := am_b1_el hF
    refine g_cVv (pc := 30) (k := 94) (As := [.ref 1]) (st := []) ky_X9_copyFrom kl_X11_299 (s_X9_copyFrom_94_1 (d := 3) (am_plb_use c_11 (by decide)) (Nat.le_refl _) h_13) rfl rfl rfl (by decide) (Nat.le_trans (by decide) hd) (Nat.le_of_ble_eq_true rfl) (by decide) (by decide) dX11_image_30 ?_
    refine g_iconst (pc := 33) (v := (1 : Int32)) dX11_image_33 rfl ?_
    cases hF
    exact g_zret (pc := 34) rfl (Or.inr rfl) (by decide) (by decide) dX11_image_34 ⟨(Or.inr rfl), rfl, rfl, rfl, rfl⟩
