def F_X9_draw_1 (I : am_IT) (a1 : Int32) : Option (Int32 × am_IT) := am_let (up2 I 1 1 (((1664525 : Int32) * (I 1 1)) + (1013904223 : Int32))) (fun (I_1 : am_IT) => if a1 ≤ 0 then (some ((0 : Int32), I_1)) else (if ¬ a1 = (0 : Int32) then (some ((((I_1 1 1).toUInt32 >>> ((8 : Int32).toUInt32 &&& Int32.toUInt32 31)).toInt32) - (((I_1 1 1).toUInt32 >>> ((8 : Int32).toUInt32 &&& Int32.toUInt32 31)).toInt32) / a1 * a1, I_1)) else none))
set_option maxRecDepth 100000 in
set_option maxHeartbeats 4000000 in
theorem s_X9_draw_1 {l : Launch} {d N : Nat} {P : am_PT} (hPl : am_Pl 94 N P) (hd : 1 ≤ d) {I : am_IT} {a1 : Int32} {r : Int32} {I2 : am_IT} (hF : F_X9_draw_1 I a1 = some (r, I2)) : am_C l d 0 0 mX9_draw [.ref 1, .int a1] N P I (am_qi r N P I2) := by
  refine am_body (sc := am_sc0) (n := 0) (by decide +kernel) (by decide) rfl ?_
  change G am_sc0 l d 0 0 mX9_draw (am_qi r N P I2) 0 [.ref 1, .int a1] [] N P I 0 0
  unfold F_X9_draw_1 at hF
  refine g_aload_n (pc := 0) dX9_draw_0 rfl rfl ?_
  refine g_ldc (pc := 1) dX9_draw_1 kc_X9_106 ?_
  refine g_aload_n (pc := 3) dX9_draw_3 rfl rfl ?_
  refine g_getI (pc := 4) (k := 1) kf_X9_15.r rfl rfl (hPl.lt (by decide)) dX9_draw_4 ?_
  refine g_imul (pc := 7) dX9_draw_7 ?_
  refine g_ldc (pc := 8) dX9_draw_8 kc_X9_107 ?_
  refine g_iadd (pc := 10) dX9_draw_10 ?_
  obtain ⟨I_1, e_I_1, hF⟩ := am_let_el hF
  refine n_putI (pc := 11) (k := 1) e_I_1 kf_X9_15 rfl rfl (hPl.lt (by decide)) dX9_draw_11 ?_
  refine g_iload_n (pc := 14) dX9_draw_14 rfl rfl ?_
  refine g_if_le (pc := 15) (tgt := 30) dX9_draw_15 rfl (fun c_2 => ?_) (fun c_2 => ?_)
  · replace hF := am_yes c_2 hF
    refine g_iconst (pc := 30) (v := (0 : Int32)) dX9_draw_30 rfl ?_
    cases hF
    exact g_iret (pc := 31) rfl (Nat.le_refl _) (Nat.le_refl _) dX9_draw_31 ⟨rfl, rfl, rfl, rfl⟩
  · replace hF := am_no c_2 hF
    refine g_aload_n (pc := 18) dX9_draw_18 rfl rfl ?_
    refine g_getI (pc := 19) (k := 1) kf_X9_15.r rfl rfl (hPl.lt (by decide)) dX9_draw_19 ?_
    refine g_bipush (pc := 22) (v := (8 : Int32)) dX9_draw_22 rfl ?_
    refine g_iushr (pc := 24) dX9_draw_24 ?_
    refine g_iload_n (pc := 25) dX9_draw_25 rfl rfl ?_
    obtain ⟨c_3, hF⟩ := am_gd hF
    refine g_irem (pc := 26) dX9_draw_26 c_3 ?_
    refine g_goto (pc := 27) (tgt := 31) dX9_draw_27 rfl ?_
    cases hF
    exact g_iret (pc := 31) rfl (Nat.le_refl _) (Nat.le_refl _) dX9_draw_31 ⟨rfl, rfl, rfl, rfl⟩
def F_X9_favourite_1_7 (I : am_IT) (a2 : Int32) : Option (Int32) := am_let (a2 * (4 : Int32)) (fun (l3_1 : Int32) => am_b1 (am_it am_fu (am_u2 (fun (l4_2 : Int32) (l5_3 : Int32) => if (I 1 0) ≤ l5_3 then (some (.inr (l4_2))) else (if am_ix (l3_1 + l5_3) 28 = true then (if am_ix (l3_1 + l4_2) 28 = true then (if (I 7 (l3_1 + l5_3).toNatClampNeg) ≤ (I 7 (l3_1 + l4_2).toNatClampNeg) then (am_let (l5_3 + (1 : Int32)) (fun (l5_14 : Int32) => some (.inl (l4_2, l5_14)))) else (am_let (l5_3 + (1 : Int32)) (fun (l5_15 : Int32) => some (.inl (l5_3, l5_15))))) else none) else none))) ((0 : Int32), (1 : Int32))) (fun (l4_4 : Int32) => some l4_4))
set_option maxRecDepth 100000 in
set_option maxHeartbeats 4000000 in
theorem s_X9_favourite_1_7 {l : Launch} {d N : Nat} {P : am_PT} (hPl : am_Pl 94 N P) (hd : 1 ≤ d) {I : am_IT} {a2 : Int32} {r : Int32} (hF : F_X9_favourite_1_7 I a2 = some (r)) : am_C l d 0 0 mX9_favourite [.ref 1, .ref 7, .int a2] N P I (am_qi r N P I) := by
  refine am_body (sc := am_sc0) (n := 3) (by decide +kernel) (by decide) rfl ?_
  change G am_sc0 l d 0 0 mX9_favourite (am_qi r N P I) 0 [.ref 1, .ref 7, .int a2, .null, .null, .null] [] N P I 0 0
  unfold F_X9_favourite_1_7 at hF
  refine g_iload_n (pc := 0) dX9_favourite_0 rfl rfl ?_
  refine g_iconst (pc := 1) (v := (4 : Int32)) dX9_favourite_1 rfl ?_
  refine g_imul (pc := 2) dX9_favourite_2 ?_
  obtain ⟨l3_1, e_l3_1, hF⟩ := am_let_el hF
  refine n_istore_n (pc := 3) (ls2 := [.ref 1, .ref 7, .int a2, .int l3_1, .null, .null]) e_l3_1 rfl dX9_favourite_3 rfl (Nat.le_of_ble_eq_true rfl) ?_
  refine g_iconst (pc := 4) (v := (0 : Int32)) dX9_favourite_4 rfl ?_
  refine n_istore (pc := 5) (ls2 := [.ref 1, .ref 7, .int a2, .int l3_1, .int (0 : Int32), .null]) rfl rfl dX9_favourite_5 (Nat.le_of_ble_eq_true rfl) ?_
  refine g_iconst (pc := 7) (v := (1 : Int32)) dX9_favourite_7 rfl ?_
  refine n_istore (pc := 8) (ls2 := [.ref 1, .ref 7, .int a2, .int l3_1, .int (0 : Int32), .int (1 : Int32)]) rfl rfl dX9_favourite_8 (Nat.le_of_ble_eq_true rfl) ?_
  obtain ⟨l4_4, hL_8, hF⟩ := am_b1_el hF
  have hX_5 : G am_sc0 l d 0 0 mX9_favourite (am_qi r N P I) 44 [.ref 1, .ref 7, .int a2, .int l3_1, .int l4_4, .null] [] N P I 0 0 := by
    refine g_iload (pc := 44) dX9_favourite_44 rfl ?_
    cases hF
    exact g_iret (pc := 46) rfl (Nat.le_refl _) (Nat.le_refl _) dX9_favourite_46 ⟨rfl, rfl, rfl, rfl⟩
  clear hF
  have hC := am_loop (C := fun x => G am_sc0 l d 0 0 mX9_favourite (am_qi r N P I) 10 [.ref 1, .ref 7, .int a2, .int l3_1, .int x.1, .int x.2] [] N P I 0 0) (by
    rintro ⟨l4_2, l5_3⟩ rr hF ih_6 hE_7
    replace hF := am_u2_ap hF
    change G am_sc0 l d 0 0 mX9_favourite (am_qi r N P I) 10 [.ref 1, .ref 7, .int a2, .int l3_1, .int l4_2, .int l5_3] [] N P I 0 0
    refine g_iload (pc := 10) dX9_favourite_10 rfl ?_
    refine g_aload_n (pc := 12) dX9_favourite_12 rfl rfl ?_
    refine g_getI (pc := 13) (k := 1) kf_X9_9.r rfl rfl (hPl.lt (by decide)) dX9_favourite_13 ?_
    refine g_icmp_ge (pc := 16) (tgt := 44) dX9_favourite_16 rfl (fun c_10 => ?_) (fun c_10 => ?_)
    · replace hF := am_yes c_10 hF
      cases hF
      cases hE_7 _ rfl
      exact g_weak hX_5 ⟨Or.inr rfl, Or.inr rfl, Or.inr rfl, Or.inr rfl, Or.inr rfl, Or.inl rfl, trivial⟩
    · replace hF := am_no c_10 hF
      refine g_aload_n (pc := 19) dX9_favourite_19 rfl rfl ?_
      refine g_iload_n (pc := 20) dX9_favourite_20 rfl rfl ?_
      refine g_iload (pc := 21) dX9_favourite_21 rfl ?_
      refine g_iadd (pc := 23) dX9_favourite_23 ?_
      obtain ⟨c_11, hF⟩ := am_gd hF
      refine g_iald (pc := 24) (k := 7) rfl (hPl.lt (by decide)) (am_ix_use c_11) dX9_favourite_24 ?_
      refine g_aload_n (pc := 25) dX9_favourite_25 rfl rfl ?_
      refine g_iload_n (pc := 26) dX9_favourite_26 rfl rfl ?_
      refine g_iload (pc := 27) dX9_favourite_27 rfl ?_
      refine g_iadd (pc := 29) dX9_favourite_29 ?_
      obtain ⟨c_12, hF⟩ := am_gd hF
      refine g_iald (pc := 30) (k := 7) rfl (hPl.lt (by decide)) (am_ix_use c_12) dX9_favourite_30 ?_
      refine g_icmp_le (pc := 31) (tgt := 38) dX9_favourite_31 rfl (fun c_13 => ?_) (fun c_13 => ?_)
      · replace hF := am_yes c_13 hF
        obtain ⟨l5_14, e_l5_14, hF⟩ := am_let_el hF
        refine n_iinc (pc := 38) (ls2 := [.ref 1, .ref 7, .int a2, .int l3_1, .int l4_2, .int l5_14]) e_l5_14 rfl rfl rfl dX9_favourite_38 (Nat.le_of_ble_eq_true rfl) ?_
        refine g_goto (pc := 41) (tgt := 10) dX9_favourite_41 rfl ?_
        cases hF
        exact ih_6 (l4_2, l5_14) rfl
      · replace hF := am_no c_13 hF
        refine g_iload (pc := 34) dX9_favourite_34 rfl ?_
        refine n_istore (pc := 36) (ls2 := [.ref 1, .ref 7, .int a2, .int l3_1, .int l5_3, .int l5_3]) rfl rfl dX9_favourite_36 (Nat.le_of_ble_eq_true rfl) ?_
        obtain ⟨l5_15, e_l5_15, hF⟩ := am_let_el hF
        refine n_iinc (pc := 38) (ls2 := [.ref 1, .ref 7, .int a2, .int l3_1, .int l5_3, .int l5_15]) e_l5_15 rfl rfl rfl dX9_favourite_38 (Nat.le_of_ble_eq_true rfl) ?_
        refine g_goto (pc := 41) (tgt := 10) dX9_favourite_41 rfl ?_
        cases hF
        exact ih_6 (l5_3, l5_15) rfl
    ) _ _ hL_8
  exact hC
def F_X11_passNight_0 (I : am_IT) : Option (am_IT) := if (I 1 4) = 0 then (some I) else (if (I 1 3) = 0 then (some I) else (am_b2 (F_X9_draw_1 I (I 1 4)) (fun (r_4 : Int32) (I_5 : am_IT) => am_b2 (F_X9_draw_1 I_5 (I_5 1 3)) (fun (r_7 : Int32) (I_8 : am_IT) => am_b1 (F_X8_yardsOf_23 I_8 r_4 r_7) (fun (r_10 : Int32) => if r_10 ≤ 0 then (some I_8) else (am_b1 (F_X9_favourite_1_7 I_8 r_4) (fun (r_13 : Int32) => if am_ix r_7 7 = true then (am_let (up2 I_8 3 r_7.toNatClampNeg r_13) (fun (I_15 : am_IT) => some I_15)) else none)))))))
set_option maxRecDepth 100000 in
set_option maxHeartbeats 4000000 in
theorem s_X11_passNight_0 {l : Launch} {d N : Nat} {P : am_PT} (hPl : am_Pl 94 N P) (hd : 2 ≤ d) {I : am_IT} {I2 : am_IT} (hF : F_X11_passNight_0 I = some (I2)) : am_C l d 0 0 mX11_passNight [.ref 0] N P I (am_qv N P I2) := by
  refine am_body (sc := am_sc0) (n := 2) (by decide +kernel) (by decide) rfl ?_
  change G am_sc0 l d 0 0 mX11_passNight (am_qv N P I2) 0 [.ref 0, .null, .null] [] N P I 0 0
  unfold F_X11_passNight_0 at hF
  refine g_aload_n (pc := 0) dX11_passNight_0 rfl rfl ?_
  refine g_getR (pc := 1) (k := 0) (r := 1) kf_X11_12.r rfl rfl (hPl.get (by decide) rfl) (hPl.lt (by decide)) dX11_passNight_1 ?_
  refine g_getI (pc := 4) (k := 1) kf_X11_113.r rfl rfl (hPl.lt (by decide)) dX11_passNight_4 ?_
  refine g_if_eq (pc := 7) (tgt := 20) dX11_passNight_7 rfl (fun c_1 => ?_) (fun c_1 => ?_)
  · replace hF := am_yes c_1 hF
    cases hF
    exact g_vret (pc := 20) rfl (Nat.le_refl _) (Nat.le_refl _) dX11_passNight_20 ⟨rfl, rfl, rfl, rfl⟩
  · replace hF := am_no c_1 hF
    refine g_aload_n (pc := 10) dX11_passNight_10 rfl rfl ?_
    refine g_getR (pc := 11) (k := 0) (r := 1) kf_X11_12.r rfl rfl (hPl.get (by decide) rfl) (hPl.lt (by decide)) dX11_passNight_11 ?_
    refine g_getI (pc := 14) (k := 1) kf_X11_104.r rfl rfl (hPl.lt (by decide)) dX11_passNight_14 ?_
    refine g_if_ne (pc := 17) (tgt := 21) dX11_passNight_17 rfl (fun c_2 => ?_) (fun c_2 => ?_)
    · replace hF := am_no c_2 hF
      refine g_aload_n (pc := 21) dX11_passNight_21 rfl rfl ?_
      refine g_getR (pc := 22) (k := 0) (r := 1) kf_X11_12.r rfl rfl (hPl.get (by decide) rfl) (hPl.lt (by decide)) dX11_passNight_22 ?_
      refine g_aload_n (pc := 25) dX11_passNight_25 rfl rfl ?_
      refine g_getR (pc := 26) (k := 0) (r := 1) kf_X11_12.r rfl rfl (hPl.get (by decide) rfl) (hPl.lt (by decide)) dX11_passNight_26 ?_
      refine g_getI (pc := 29) (k := 1) kf_X11_113.r rfl rfl (hPl.lt (by decide)) dX11_passNight_29 ?_
      obtain ⟨r_4, I_5, h_3, hF⟩ := am_b2_el hF
      refine g_cVi (pc := 32) (k := 1) (As := [.int (I 1 4)]) (st := []) ky_X9_draw kl_X11_320 (s_X9_draw_1 (d := 1) (hPl) (Nat.le_refl _) h_3) rfl rfl rfl (hPl.lt (by decide)) (Nat.le_trans (by decide) hd) (Nat.le_of_ble_eq_true rfl) (Nat.le_refl _) (Nat.le_refl _) dX11_passNight_32 ?_
      refine n_istore_n (pc := 35) (ls2 := [.ref 0, .int r_4, .null]) rfl rfl dX11_passNight_35 rfl (Nat.le_of_ble_eq_true rfl) ?_
      refine g_aload_n (pc := 36) dX11_passNight_36 rfl rfl ?_
      refine g_getR (pc := 37) (k := 0) (r := 1) kf_X11_12.r rfl rfl (hPl.get (by decide) rfl) (hPl.lt (by decide)) dX11_passNight_37 ?_
      refine g_aload_n (pc := 40) dX11_passNight_40 rfl rfl ?_
      refine g_getR (pc := 41) (k := 0) (r := 1) kf_X11_12.r rfl rfl (hPl.get (by decide) rfl) (hPl.lt (by decide)) dX11_passNight_41 ?_
      refine g_getI (pc := 44) (k := 1) kf_X11_104.r rfl rfl (hPl.lt (by decide)) dX11_passNight_44 ?_
      obtain ⟨r_7, I_8, h_6, hF⟩ := am_b2_el hF
      refine g_cVi (pc := 47) (k := 1) (As := [.int (I_5 1 3)]) (st := []) ky_X9_draw kl_X11_320 (s_X9_draw_1 (d := 1) (hPl) (Nat.le_refl _) h_6) rfl rfl rfl (hPl.lt (by decide)) (Nat.le_trans (by decide) hd) (Nat.le_of_ble_eq_true rfl) (Nat.le_refl _) (Nat.le_refl _) dX11_passNight_47 ?_
      refine n_istore_n (pc := 50) (ls2 := [.ref 0, .int r_4, .int r_7]) rfl rfl dX11_passNight_50 rfl (Nat.le_of_ble_eq_true rfl) ?_
      refine g_aload_n (pc := 51) dX11_passNight_51 rfl rfl ?_
      refine g_getR (pc := 52) (k := 0) (r := 23) kf_X11_21.r rfl rfl (hPl.get (by decide) rfl) (hPl.lt (by decide)) dX11_passNight_52 ?_
      refine g_iload_n (pc := 55) dX11_passNight_55 rfl rfl ?_
      refine g_iload_n (pc := 56) dX11_passNight_56 rfl rfl ?_
      obtain ⟨r_10, h_9, hF⟩ := am_b1_el hF
      refine g_cVi (pc := 57) (k := 23) (As := [.int r_4, .int r_7]) (st := []) ky_X8_yardsOf kl_X11_181 (s_X8_yardsOf_23 (d := 1) (hPl) (Nat.le_refl _) h_9) rfl rfl rfl (hPl.lt (by decide)) (Nat.le_trans (by decide) hd) (Nat.le_of_ble_eq_true rfl) (Nat.le_refl _) (Nat.le_refl _) dX11_passNight_57 ?_
      refine g_if_le (pc := 60) (tgt := 87) dX11_passNight_60 rfl (fun c_11 => ?_) (fun c_11 => ?_)
      · replace hF := am_yes c_11 hF
        cases hF
        exact g_vret (pc := 87) rfl (Nat.le_refl _) (Nat.le_refl _) dX11_passNight_87 ⟨rfl, rfl, rfl, rfl⟩
      · replace hF := am_no c_11 hF
        refine g_aload_n (pc := 63) dX11_passNight_63 rfl rfl ?_
        refine g_getR (pc := 64) (k := 0) (r := 1) kf_X11_12.r rfl rfl (hPl.get (by decide) rfl) (hPl.lt (by decide)) dX11_passNight_64 ?_
        refine g_getR (pc := 67) (k := 1) (r := 3) kf_X11_107 rfl rfl (hPl.get (by decide) rfl) (hPl.lt (by decide)) dX11_passNight_67 ?_
        refine g_iload_n (pc := 70) dX11_passNight_70 rfl rfl ?_
        refine g_aload_n (pc := 71) dX11_passNight_71 rfl rfl ?_
        refine g_getR (pc := 72) (k := 0) (r := 1) kf_X11_12.r rfl rfl (hPl.get (by decide) rfl) (hPl.lt (by decide)) dX11_passNight_72 ?_
        refine g_aload_n (pc := 75) dX11_passNight_75 rfl rfl ?_
        refine g_getR (pc := 76) (k := 0) (r := 1) kf_X11_12.r rfl rfl (hPl.get (by decide) rfl) (hPl.lt (by decide)) dX11_passNight_76 ?_
        refine g_getR (pc := 79) (k := 1) (r := 7) kf_X11_144 rfl rfl (hPl.get (by decide) rfl) (hPl.lt (by decide)) dX11_passNight_79 ?_
        refine g_iload_n (pc := 82) dX11_passNight_82 rfl rfl ?_
        obtain ⟨r_13, h_12, hF⟩ := am_b1_el hF
        refine g_cVi (pc := 83) (k := 1) (As := [.ref 7, .int r_4]) (st := [.int r_7, .ref 3]) ky_X9_favourite kl_X11_323 (s_X9_favourite_1_7 (d := 1) (hPl) (Nat.le_refl _) h_12) rfl rfl rfl (hPl.lt (by decide)) (Nat.le_trans (by decide) hd) (Nat.le_of_ble_eq_true rfl) (Nat.le_refl _) (Nat.le_refl _) dX11_passNight_83 ?_
        obtain ⟨c_14, hF⟩ := am_gd hF
        obtain ⟨I_15, e_I_15, hF⟩ := am_let_el hF
        refine n_iast (pc := 86) (k := 3) e_I_15 rfl (hPl.lt (by decide)) (am_ix_use c_14) dX11_passNight_86 ?_
        cases hF
        exact g_vret (pc := 87) rfl (Nat.le_refl _) (Nat.le_refl _) dX11_passNight_87 ⟨rfl, rfl, rfl, rfl⟩
    · replace hF := am_yes c_2 hF
      cases hF
      exact g_vret (pc := 20) rfl (Nat.le_refl _) (Nat.le_refl _) dX11_passNight_20 ⟨rfl, rfl, rfl, rfl⟩
def F_X11_passYear_0 (I : am_IT) : Option (am_IT) := am_let (up2 I 1 2 ((I 1 2) + (1 : Int32))) (fun (I_1 : am_IT) => am_b1 (F_X2_decide_25_8 I_1) (fun (I_3 : am_IT) => am_b2 (F_X11_adopt_0_26 I_3) (fun (r_5 : Int32) (I_6 : am_IT) => am_b1 (F_X11_passNight_0 I_6) (fun (I_8 : am_IT) => some I_8))))
set_option maxRecDepth 100000 in
set_option maxHeartbeats 4000000 in
theorem s_X11_passYear_0 {l : Launch} {d N : Nat} {P : am_PT} (hPl : am_Pl 94 N P) (hd : 6 ≤ d) {I : am_IT} {I2 : am_IT} (hF : F_X11_passYear_0 I = some (I2)) : am_C l d 0 0 mX11_passYear [.ref 0] N P I (am_qv N P I2) := by
  refine am_body (sc := am_sc0) (n := 0) (by decide +kernel) (by decide) rfl ?_
  change G am_sc0 l d 0 0 mX11_passYear (am_qv N P I2) 0 [.ref 0] [] N P I 0 0
  unfold F_X11_passYear_0 at hF
  refine g_aload_n (pc := 0) dX11_passYear_0 rfl rfl ?_
  refine g_getR (pc := 1) (k := 0) (r := 1) kf_X11_12.r rfl rfl (hPl.get (by decide) rfl) (hPl.lt (by decide)) dX11_passYear_1 ?_
  refine g_dup (pc := 4) dX11_passYear_4 ?_
  refine g_getI (pc := 5) (k := 1) kf_X11_138.r rfl rfl (hPl.lt (by decide)) dX11_passYear_5 ?_
  refine g_iconst (pc := 8) (v := (1 : Int32)) dX11_passYear_8 rfl ?_
  refine g_iadd (pc := 9) dX11_passYear_9 ?_
  obtain ⟨I_1, e_I_1, hF⟩ := am_let_el hF
  refine n_putI (pc := 10) (k := 1) e_I_1 kf_X11_138 rfl rfl (hPl.lt (by decide)) dX11_passYear_10 ?_
  refine g_aload_n (pc := 13) dX11_passYear_13 rfl rfl ?_
  refine g_getR (pc := 14) (k := 0) (r := 25) kf_X11_30.r rfl rfl (hPl.get (by decide) rfl) (hPl.lt (by decide)) dX11_passYear_14 ?_
  refine g_aload_n (pc := 17) dX11_passYear_17 rfl rfl ?_
  refine g_getR (pc := 18) (k := 0) (r := 1) kf_X11_12.r rfl rfl (hPl.get (by decide) rfl) (hPl.lt (by decide)) dX11_passYear_18 ?_
  refine g_getR (pc := 21) (k := 1) (r := 8) kf_X11_147 rfl rfl (hPl.get (by decide) rfl) (hPl.lt (by decide)) dX11_passYear_21 ?_
  obtain ⟨I_3, h_2, hF⟩ := am_b1_el hF
  refine g_cVv (pc := 24) (k := 25) (As := [.ref 8]) (st := []) ky_X2_decide kl_X11_307 (s_X2_decide_25_8 (d := 5) (hPl) (Nat.le_refl _) h_2) rfl rfl rfl (hPl.lt (by decide)) (Nat.le_trans (by decide) hd) (Nat.le_of_ble_eq_true rfl) (Nat.le_refl _) (Nat.le_refl _) dX11_passYear_24 ?_
  refine g_aload_n (pc := 27) dX11_passYear_27 rfl rfl ?_
  refine g_aload_n (pc := 28) dX11_passYear_28 rfl rfl ?_
  refine g_getR (pc := 29) (k := 0) (r := 25) kf_X11_30.r rfl rfl (hPl.get (by decide) rfl) (hPl.lt (by decide)) dX11_passYear_29 ?_
  refine g_getR (pc := 32) (k := 25) (r := 26) kf_X11_311 rfl rfl (hPl.get (by decide) rfl) (hPl.lt (by decide)) dX11_passYear_32 ?_
  obtain ⟨r_5, I_6, h_4, hF⟩ := am_b2_el hF
  refine g_cVi (pc := 35) (k := 0) (As := [.ref 26]) (st := []) ky_X11_adopt kl_X11_194 (s_X11_adopt_0_26 (d := 1) (hPl) (Nat.le_refl _) h_4) rfl rfl rfl (hPl.lt (by decide)) (Nat.le_trans (by decide) hd) (Nat.le_of_ble_eq_true rfl) (Nat.le_refl _) (Nat.le_refl _) dX11_passYear_35 ?_
  refine g_pop (pc := 38) dX11_passYear_38 ?_
  refine g_aload_n (pc := 39) dX11_passYear_39 rfl rfl ?_
  obtain ⟨I_8, h_7, hF⟩ := am_b1_el hF
  refine g_cVv (pc := 40) (k := 0) (As := []) (st := []) ky_X11_passNight kl_X11_317 (s_X11_passNight_0 (d := 2) (hPl) (Nat.le_refl _) h_7) rfl rfl rfl (hPl.lt (by decide)) (Nat.le_trans (by decide) hd) (Nat.le_of_ble_eq_true rfl) (Nat.le_refl _) (Nat.le_refl _) dX11_passYear_40 ?_
  cases hF
  exact g_vret (pc := 43) rfl (Nat.le_refl _) (Nat.le_refl _) dX11_passYear_43 ⟨rfl, rfl, rfl, rfl⟩
def F_X11_years_0 (I : am_IT) (a1 : Int32) : Option (Int32 × am_IT) := am_b1 (F_X11_isWithin I a1 (1 : Int32) (60 : Int32)) (fun (r_2 : Int32) => if r_2 = 0 then (some ((-1 : Int32), I)) else (if ((I 1 2) + a1) ≤ (999 : Int32) then (am_b1 (am_it am_fu (am_u2 (fun (l2_6 : Int32) (I_7 : am_IT) => if a1 ≤ l2_6 then (some (.inr (I_7))) else (am_b1 (F_X11_passYear_0 I_7) (fun (I_16 : am_IT) => am_let (l2_6 + (1 : Int32)) (fun (l2_17 : Int32) => some (.inl (l2_17, I_16))))))) ((0 : Int32), I)) (fun (I_8 : am_IT) => some (I_8 1 2, I_8))) else (some ((-1 : Int32), I))))
set_option maxRecDepth 100000 in
set_option maxHeartbeats 4000000 in
theorem s_X11_years_0 {l : Launch} {d N : Nat} {P : am_PT} (hPl : am_Pl 94 N P) (hd : 7 ≤ d) {I : am_IT} {a1 : Int32} {r : Int32} {I2 : am_IT} (hF : F_X11_years_0 I a1 = some (r, I2)) : am_C l d 0 0 mX11_years [.ref 0, .int a1] N P I (am_qi r N P I2) := by
  refine am_body (sc := am_sc0) (n := 1) (by decide +kernel) (by decide) rfl ?_
  change G am_sc0 l d 0 0 mX11_years (am_qi r N P I2) 0 [.ref 0, .int a1, .null] [] N P I 0 0
  unfold F_X11_years_0 at hF
  refine g_iload_n (pc := 0) dX11_years_0 rfl rfl ?_
  refine g_iconst (pc := 1) (v := (1 : Int32)) dX11_years_1 rfl ?_
  refine g_bipush (pc := 2) (v := (60 : Int32)) dX11_years_2 rfl ?_
  obtain ⟨r_2, h_1, hF⟩ := am_b1_el hF
  refine g_cSz (pc := 4) (As := [.int a1, .int (1 : Int32), .int (60 : Int32)]) (st := []) ky_X11_isWithin kl_X11_97 (s_X11_isWithin (d := 1) (hPl) (Nat.le_refl _) h_1) rfl rfl (Nat.le_trans (by decide) hd) (Nat.le_of_ble_eq_true rfl) (Nat.le_refl _) (Nat.le_refl _) dX11_years_4 ?_
  intro z_3
  refine g_if_eq (pc := 7) (tgt := 25) dX11_years_7 rfl (fun c_4 => ?_) (fun c_4 => ?_)
  · replace hF := am_yes c_4 hF
    refine g_iconst (pc := 25) (v := (-1 : Int32)) dX11_years_25 (by decide) ?_
    cases hF
    exact g_iret (pc := 26) rfl (Nat.le_refl _) (Nat.le_refl _) dX11_years_26 ⟨rfl, rfl, rfl, rfl⟩
  · replace hF := am_no c_4 hF
    refine g_aload_n (pc := 10) dX11_years_10 rfl rfl ?_
    refine g_getR (pc := 11) (k := 0) (r := 1) kf_X11_12.r rfl rfl (hPl.get (by decide) rfl) (hPl.lt (by decide)) dX11_years_11 ?_
    refine g_getI (pc := 14) (k := 1) kf_X11_138.r rfl rfl (hPl.lt (by decide)) dX11_years_14 ?_
    refine g_iload_n (pc := 17) dX11_years_17 rfl rfl ?_
    refine g_iadd (pc := 18) dX11_years_18 ?_
    refine g_sipush (pc := 19) (v := (999 : Int32)) dX11_years_19 rfl ?_
    refine g_icmp_le (pc := 22) (tgt := 27) dX11_years_22 rfl (fun c_5 => ?_) (fun c_5 => ?_)
    · replace hF := am_yes c_5 hF
      refine g_iconst (pc := 27) (v := (0 : Int32)) dX11_years_27 rfl ?_
      refine n_istore_n (pc := 28) (ls2 := [.ref 0, .int a1, .int (0 : Int32)]) rfl rfl dX11_years_28 rfl (Nat.le_of_ble_eq_true rfl) ?_
      obtain ⟨I_8, hL_12, hF⟩ := am_b1_el hF
      have hX_9 : G am_sc0 l d 0 0 mX11_years (am_qi r N P I2) 44 [.ref 0, .int a1, .null] [] N P I_8 0 0 := by
        refine g_aload_n (pc := 44) dX11_years_44 rfl rfl ?_
        refine g_getR (pc := 45) (k := 0) (r := 1) kf_X11_12.r rfl rfl (hPl.get (by decide) rfl) (hPl.lt (by decide)) dX11_years_45 ?_
        refine g_getI (pc := 48) (k := 1) kf_X11_138.r rfl rfl (hPl.lt (by decide)) dX11_years_48 ?_
        cases hF
        exact g_iret (pc := 51) rfl (Nat.le_refl _) (Nat.le_refl _) dX11_years_51 ⟨rfl, rfl, rfl, rfl⟩
      clear hF
      have hC := am_loop (C := fun x => G am_sc0 l d 0 0 mX11_years (am_qi r N P I2) 29 [.ref 0, .int a1, .int x.1] [] N P x.2 0 0) (by
        rintro ⟨l2_6, I_7⟩ rr hF ih_10 hE_11
        replace hF := am_u2_ap hF
        change G am_sc0 l d 0 0 mX11_years (am_qi r N P I2) 29 [.ref 0, .int a1, .int l2_6] [] N P I_7 0 0
        refine g_iload_n (pc := 29) dX11_years_29 rfl rfl ?_
        refine g_iload_n (pc := 30) dX11_years_30 rfl rfl ?_
        refine g_icmp_ge (pc := 31) (tgt := 44) dX11_years_31 rfl (fun c_14 => ?_) (fun c_14 => ?_)
        · replace hF := am_yes c_14 hF
          cases hF
          cases hE_11 _ rfl
          exact g_weak hX_9 ⟨Or.inr rfl, Or.inr rfl, Or.inl rfl, trivial⟩
        · replace hF := am_no c_14 hF
          refine g_aload_n (pc := 34) dX11_years_34 rfl rfl ?_
          obtain ⟨I_16, h_15, hF⟩ := am_b1_el hF
          refine g_cVv (pc := 35) (k := 0) (As := []) (st := []) ky_X11_passYear kl_X11_296 (s_X11_passYear_0 (d := 6) (hPl) (Nat.le_refl _) h_15) rfl rfl rfl (hPl.lt (by decide)) (Nat.le_trans (by decide) hd) (Nat.le_of_ble_eq_true rfl) (Nat.le_refl _) (Nat.le_refl _) dX11_years_35 ?_
          obtain ⟨l2_17, e_l2_17, hF⟩ := am_let_el hF
          refine n_iinc (pc := 38) (ls2 := [.ref 0, .int a1, .int l2_17]) e_l2_17 rfl rfl rfl dX11_years_38 (Nat.le_of_ble_eq_true rfl) ?_
          refine g_goto (pc := 41) (tgt := 29) dX11_years_41 rfl ?_
          cases hF
          exact ih_10 (l2_17, I_16) rfl
        ) _ _ hL_12
      exact hC
    · replace hF := am_no c_5 hF
      refine g_iconst (pc := 25) (v := (-1 : Int32)) dX11_years_25 (by decide) ?_
      cases hF
      exact g_iret (pc := 26) rfl (Nat.le_refl _) (Nat.le_refl _) dX11_years_26 ⟨rfl, rfl, rfl, rfl⟩
def F_X11_look_0 (I : am_IT) (a1 : Int32) : Option (Int32) := if a1 = (0 : Int32) then (some (I 1 0)) else (if a1 = (1 : Int32) then (some (I 1 3)) else (if a1 = (2 : Int32) then (some (I 1 4)) else (if a1 = (3 : Int32) then (some (I 1 5)) else (if a1 = (4 : Int32) then (some (I 11 0)) else (if a1 = (5 : Int32) then (some (I 1 2)) else (if a1 = (6 : Int32) then (some (I 1 1)) else (if a1 = (7 : Int32) then (some (I 15 0)) else (if am_out a1 (0) (7) = true then (am_b1 (F_X9_hasPerson_1 I (a1 - (10 : Int32))) (fun (r_10 : Int32) => if r_10 = 0 then (am_b1 (F_X9_hasColour_1 I (a1 - (20 : Int32))) (fun (r_14 : Int32) => if r_14 = 0 then (some (-1 : Int32)) else (if am_ix (a1 - (20 : Int32)) 4 = true then (some (I 2 (a1 - (20 : Int32)).toNatClampNeg)) else none))) else (if am_ix (a1 - (10 : Int32)) 7 = true then (some (I 4 (a1 - (10 : Int32)).toNatClampNeg)) else none))) else none))))))))
set_option maxRecDepth 100000 in
set_option maxHeartbeats 4000000 in
theorem s_X11_look_0 {l : Launch} {d N : Nat} {P : am_PT} (hPl : am_Pl 94 N P) (hd : 2 ≤ d) {I : am_IT} {a1 : Int32} {r : Int32} (hF : F_X11_look_0 I a1 = some (r)) : am_C l d 0 0 mX11_look [.ref 0, .int a1] N P I (am_qi r N P I) := by
  refine am_body (sc := am_sc0) (n := 0) (by decide +kernel) (by decide) rfl ?_
  change G am_sc0 l d 0 0 mX11_look (am_qi r N P I) 0 [.ref 0, .int a1] [] N P I 0 0
  unfold F_X11_look_0 at hF
  refine g_iload_n (pc := 0) dX11_look_0 rfl rfl ?_
  by_cases c_1 : a1 = (0 : Int32)
  · replace hF := am_yes c_1 hF
    refine g_tableIn (pc := 1) (tgt := 48) dX11_look_1 (by rw [c_1]; decide) (by rw [c_1]; decide) (by rw [c_1]; rfl) rfl ?_
    refine g_aload_n (pc := 48) dX11_look_48 rfl rfl ?_
    refine g_getR (pc := 49) (k := 0) (r := 1) kf_X11_12.r rfl rfl (hPl.get (by decide) rfl) (hPl.lt (by decide)) dX11_look_49 ?_
    refine g_getI (pc := 52) (k := 1) kf_X11_301.r rfl rfl (hPl.lt (by decide)) dX11_look_52 ?_
    cases hF
    exact g_iret (pc := 55) rfl (Nat.le_refl _) (Nat.le_refl _) dX11_look_55 ⟨rfl, rfl, rfl, rfl⟩
  · replace hF := am_no c_1 hF
    by_cases c_2 : a1 = (1 : Int32)
    · replace hF := am_yes c_2 hF
      refine g_tableIn (pc := 1) (tgt := 56) dX11_look_1 (by rw [c_2]; decide) (by rw [c_2]; decide) (by rw [c_2]; rfl) rfl ?_
      refine g_aload_n (pc := 56) dX11_look_56 rfl rfl ?_
      refine g_getR (pc := 57) (k := 0) (r := 1) kf_X11_12.r rfl rfl (hPl.get (by decide) rfl) (hPl.lt (by decide)) dX11_look_57 ?_
      refine g_getI (pc := 60) (k := 1) kf_X11_104.r rfl rfl (hPl.lt (by decide)) dX11_look_60 ?_
      cases hF
      exact g_iret (pc := 63) rfl (Nat.le_refl _) (Nat.le_refl _) dX11_look_63 ⟨rfl, rfl, rfl, rfl⟩
    · replace hF := am_no c_2 hF
      by_cases c_3 : a1 = (2 : Int32)
      · replace hF := am_yes c_3 hF
        refine g_tableIn (pc := 1) (tgt := 64) dX11_look_1 (by rw [c_3]; decide) (by rw [c_3]; decide) (by rw [c_3]; rfl) rfl ?_
        refine g_aload_n (pc := 64) dX11_look_64 rfl rfl ?_
        refine g_getR (pc := 65) (k := 0) (r := 1) kf_X11_12.r rfl rfl (hPl.get (by decide) rfl) (hPl.lt (by decide)) dX11_look_65 ?_
        refine g_getI (pc := 68) (k := 1) kf_X11_113.r rfl rfl (hPl.lt (by decide)) dX11_look_68 ?_
        cases hF
        exact g_iret (pc := 71) rfl (Nat.le_refl _) (Nat.le_refl _) dX11_look_71 ⟨rfl, rfl, rfl, rfl⟩
      · replace hF := am_no c_3 hF
        by_cases c_4 : a1 = (3 : Int32)
        · replace hF := am_yes c_4 hF
          refine g_tableIn (pc := 1) (tgt := 72) dX11_look_1 (by rw [c_4]; decide) (by rw [c_4]; decide) (by rw [c_4]; rfl) rfl ?_
          refine g_aload_n (pc := 72) dX11_look_72 rfl rfl ?_
          refine g_getR (pc := 73) (k := 0) (r := 1) kf_X11_12.r rfl rfl (hPl.get (by decide) rfl) (hPl.lt (by decide)) dX11_look_73 ?_
          refine g_getI (pc := 76) (k := 1) kf_X11_132.r rfl rfl (hPl.lt (by decide)) dX11_look_76 ?_
          cases hF
          exact g_iret (pc := 79) rfl (Nat.le_refl _) (Nat.le_refl _) dX11_look_79 ⟨rfl, rfl, rfl, rfl⟩
        · replace hF := am_no c_4 hF
          by_cases c_5 : a1 = (4 : Int32)
          · replace hF := am_yes c_5 hF
            refine g_tableIn (pc := 1) (tgt := 80) dX11_look_1 (by rw [c_5]; decide) (by rw [c_5]; decide) (by rw [c_5]; rfl) rfl ?_
            refine g_aload_n (pc := 80) dX11_look_80 rfl rfl ?_
            refine g_getR (pc := 81) (k := 0) (r := 1) kf_X11_12.r rfl rfl (hPl.get (by decide) rfl) (hPl.lt (by decide)) dX11_look_81 ?_
            refine g_getR (pc := 84) (k := 1) (r := 11) kf_X11_162 rfl rfl (hPl.get (by decide) rfl) (hPl.lt (by decide)) dX11_look_84 ?_
            refine g_getI (pc := 87) (k := 11) kf_X11_175.r rfl rfl (hPl.lt (by decide)) dX11_look_87 ?_
            cases hF
            exact g_iret (pc := 90) rfl (Nat.le_refl _) (Nat.le_refl _) dX11_look_90 ⟨rfl, rfl, rfl, rfl⟩
          · replace hF := am_no c_5 hF
            by_cases c_6 : a1 = (5 : Int32)
            · replace hF := am_yes c_6 hF
              refine g_tableIn (pc := 1) (tgt := 91) dX11_look_1 (by rw [c_6]; decide) (by rw [c_6]; decide) (by rw [c_6]; rfl) rfl ?_
              refine g_aload_n (pc := 91) dX11_look_91 rfl rfl ?_
              refine g_getR (pc := 92) (k := 0) (r := 1) kf_X11_12.r rfl rfl (hPl.get (by decide) rfl) (hPl.lt (by decide)) dX11_look_92 ?_
              refine g_getI (pc := 95) (k := 1) kf_X11_138.r rfl rfl (hPl.lt (by decide)) dX11_look_95 ?_
              cases hF
              exact g_iret (pc := 98) rfl (Nat.le_refl _) (Nat.le_refl _) dX11_look_98 ⟨rfl, rfl, rfl, rfl⟩
            · replace hF := am_no c_6 hF
              by_cases c_7 : a1 = (6 : Int32)
              · replace hF := am_yes c_7 hF
                refine g_tableIn (pc := 1) (tgt := 99) dX11_look_1 (by rw [c_7]; decide) (by rw [c_7]; decide) (by rw [c_7]; rfl) rfl ?_
                refine g_aload_n (pc := 99) dX11_look_99 rfl rfl ?_
                refine g_getR (pc := 100) (k := 0) (r := 1) kf_X11_12.r rfl rfl (hPl.get (by decide) rfl) (hPl.lt (by decide)) dX11_look_100 ?_
                refine g_getI (pc := 103) (k := 1) kf_X11_86.r rfl rfl (hPl.lt (by decide)) dX11_look_103 ?_
                cases hF
                exact g_iret (pc := 106) rfl (Nat.le_refl _) (Nat.le_refl _) dX11_look_106 ⟨rfl, rfl, rfl, rfl⟩
              · replace hF := am_no c_7 hF
                by_cases c_8 : a1 = (7 : Int32)
                · replace hF := am_yes c_8 hF
                  refine g_tableIn (pc := 1) (tgt := 107) dX11_look_1 (by rw [c_8]; decide) (by rw [c_8]; decide) (by rw [c_8]; rfl) rfl ?_
                  refine g_aload_n (pc := 107) dX11_look_107 rfl rfl ?_
                  refine g_getR (pc := 108) (k := 0) (r := 1) kf_X11_12.r rfl rfl (hPl.get (by decide) rfl) (hPl.lt (by decide)) dX11_look_108 ?_
                  refine g_getR (pc := 111) (k := 1) (r := 15) kf_X11_248 rfl rfl (hPl.get (by decide) rfl) (hPl.lt (by decide)) dX11_look_111 ?_
                  refine g_getI (pc := 114) (k := 15) kf_X11_304.r rfl rfl (hPl.lt (by decide)) dX11_look_114 ?_
                  cases hF
                  exact g_iret (pc := 117) rfl (Nat.le_refl _) (Nat.le_refl _) dX11_look_117 ⟨rfl, rfl, rfl, rfl⟩
                · replace hF := am_no c_8 hF
                  obtain ⟨c_19, hF⟩ := am_gd hF
                  refine g_tableOut (pc := 1) (tgt := 118) dX11_look_1 (am_out_use c_19) rfl ?_
                  refine g_aload_n (pc := 118) dX11_look_118 rfl rfl ?_
                  refine g_getR (pc := 119) (k := 0) (r := 1) kf_X11_12.r rfl rfl (hPl.get (by decide) rfl) (hPl.lt (by decide)) dX11_look_119 ?_
                  refine g_iload_n (pc := 122) dX11_look_122 rfl rfl ?_
                  refine g_bipush (pc := 123) (v := (10 : Int32)) dX11_look_123 rfl ?_
                  refine g_isub (pc := 125) dX11_look_125 ?_
                  obtain ⟨r_10, h_9, hF⟩ := am_b1_el hF
                  refine g_cVz (pc := 126) (k := 1) (As := [.int (a1 - (10 : Int32))]) (st := []) ky_X9_hasPerson kl_X11_123 (s_X9_hasPerson_1 (d := 1) (hPl) (Nat.le_refl _) h_9) rfl rfl rfl (hPl.lt (by decide)) (Nat.le_trans (by decide) hd) (Nat.le_of_ble_eq_true rfl) (Nat.le_refl _) (Nat.le_refl _) dX11_look_126 ?_
                  intro z_11
                  refine g_if_eq (pc := 129) (tgt := 145) dX11_look_129 rfl (fun c_12 => ?_) (fun c_12 => ?_)
                  · replace hF := am_yes c_12 hF
                    refine g_aload_n (pc := 145) dX11_look_145 rfl rfl ?_
                    refine g_getR (pc := 146) (k := 0) (r := 1) kf_X11_12.r rfl rfl (hPl.get (by decide) rfl) (hPl.lt (by decide)) dX11_look_146 ?_
                    refine g_iload_n (pc := 149) dX11_look_149 rfl rfl ?_
                    refine g_bipush (pc := 150) (v := (20 : Int32)) dX11_look_150 rfl ?_
                    refine g_isub (pc := 152) dX11_look_152 ?_
                    obtain ⟨r_14, h_13, hF⟩ := am_b1_el hF
                    refine g_cVz (pc := 153) (k := 1) (As := [.int (a1 - (20 : Int32))]) (st := []) ky_X9_hasColour kl_X11_93 (s_X9_hasColour_1 (d := 1) (hPl) (Nat.le_refl _) h_13) rfl rfl rfl (hPl.lt (by decide)) (Nat.le_trans (by decide) hd) (Nat.le_of_ble_eq_true rfl) (Nat.le_refl _) (Nat.le_refl _) dX11_look_153 ?_
                    intro z_15
                    refine g_if_eq (pc := 156) (tgt := 174) dX11_look_156 rfl (fun c_16 => ?_) (fun c_16 => ?_)
                    · replace hF := am_yes c_16 hF
                      refine g_iconst (pc := 174) (v := (-1 : Int32)) dX11_look_174 (by decide) ?_
                      cases hF
                      exact g_iret (pc := 175) rfl (Nat.le_refl _) (Nat.le_refl _) dX11_look_175 ⟨rfl, rfl, rfl, rfl⟩
                    · replace hF := am_no c_16 hF
                      refine g_aload_n (pc := 159) dX11_look_159 rfl rfl ?_
                      refine g_getR (pc := 160) (k := 0) (r := 1) kf_X11_12.r rfl rfl (hPl.get (by decide) rfl) (hPl.lt (by decide)) dX11_look_160 ?_
                      refine g_getR (pc := 163) (k := 1) (r := 2) kf_X11_101 rfl rfl (hPl.get (by decide) rfl) (hPl.lt (by decide)) dX11_look_163 ?_
                      refine g_iload_n (pc := 166) dX11_look_166 rfl rfl ?_
                      refine g_bipush (pc := 167) (v := (20 : Int32)) dX11_look_167 rfl ?_
                      refine g_isub (pc := 169) dX11_look_169 ?_
                      obtain ⟨c_17, hF⟩ := am_gd hF
                      refine g_iald (pc := 170) (k := 2) rfl (hPl.lt (by decide)) (am_ix_use c_17) dX11_look_170 ?_
                      refine g_goto (pc := 171) (tgt := 175) dX11_look_171 rfl ?_
                      cases hF
                      exact g_iret (pc := 175) rfl (Nat.le_refl _) (Nat.le_refl _) dX11_look_175 ⟨rfl, rfl, rfl, rfl⟩
                  · replace hF := am_no c_12 hF
                    refine g_aload_n (pc := 132) dX11_look_132 rfl rfl ?_
                    refine g_getR (pc := 133) (k := 0) (r := 1) kf_X11_12.r rfl rfl (hPl.get (by decide) rfl) (hPl.lt (by decide)) dX11_look_133 ?_
                    refine g_getR (pc := 136) (k := 1) (r := 4) kf_X11_120 rfl rfl (hPl.get (by decide) rfl) (hPl.lt (by decide)) dX11_look_136 ?_
                    refine g_iload_n (pc := 139) dX11_look_139 rfl rfl ?_
                    refine g_bipush (pc := 140) (v := (10 : Int32)) dX11_look_140 rfl ?_
                    refine g_isub (pc := 142) dX11_look_142 ?_
                    obtain ⟨c_18, hF⟩ := am_gd hF
                    refine g_iald (pc := 143) (k := 4) rfl (hPl.lt (by decide)) (am_ix_use c_18) dX11_look_143 ?_
                    cases hF
                    exact g_iret (pc := 144) rfl (Nat.le_refl _) (Nat.le_refl _) dX11_look_144 ⟨rfl, rfl, rfl, rfl⟩
def F_X12_isIn_55 (I : am_IT) (a1 : Int32) (a2 : Int32) (a3 : Int32) : Option (Int32) := if a1 < a2 then (some (0 : Int32)) else (if a3 < a1 then (some (0 : Int32)) else (some (1 : Int32)))
set_option maxRecDepth 100000 in
set_option maxHeartbeats 4000000 in
theorem s_X12_isIn_55 {l : Launch} {d N : Nat} {P : am_PT} (hPl : am_Pl 94 N P) (hd : 1 ≤ d) {I : am_IT} {a1 : Int32} {a2 : Int32} {a3 : Int32} {r : Int32} (hF : F_X12_isIn_55 I a1 a2 a3 = some (r)) : am_C l d 0 0 mX12_isIn [.ref 55, .int a1, .int a2, .int a3] N P I (am_qz r N P I) := by
  refine am_body (sc := am_sc0) (n := 0) (by decide +kernel) (by decide) rfl ?_
  change G am_sc0 l d 0 0 mX12_isIn (am_qz r N P I) 0 [.ref 55, .int a1, .int a2, .int a3] [] N P I 0 0
  unfold F_X12_isIn_55 at hF
  refine g_iload_n (pc := 0) dX12_isIn_0 rfl rfl ?_
  refine g_iload_n (pc := 1) dX12_isIn_1 rfl rfl ?_
  refine g_icmp_lt (pc := 2) (tgt := 14) dX12_isIn_2 rfl (fun c_1 => ?_) (fun c_1 => ?_)
  · replace hF := am_yes c_1 hF
    refine g_iconst (pc := 14) (v := (0 : Int32)) dX12_isIn_14 rfl ?_
    cases hF
    exact g_zret (pc := 15) rfl (Or.inl rfl) (Nat.le_refl _) (Nat.le_refl _) dX12_isIn_15 ⟨(Or.inl rfl), rfl, rfl, rfl, rfl⟩
  · replace hF := am_no c_1 hF
    refine g_iload_n (pc := 5) dX12_isIn_5 rfl rfl ?_
    refine g_iload_n (pc := 6) dX12_isIn_6 rfl rfl ?_
    refine g_icmp_gt (pc := 7) (tgt := 14) dX12_isIn_7 rfl (fun c_2 => ?_) (fun c_2 => ?_)
    · replace hF := am_yes c_2 hF
      refine g_iconst (pc := 14) (v := (0 : Int32)) dX12_isIn_14 rfl ?_
      cases hF
      exact g_zret (pc := 15) rfl (Or.inl rfl) (Nat.le_refl _) (Nat.le_refl _) dX12_isIn_15 ⟨(Or.inl rfl), rfl, rfl, rfl, rfl⟩
    · replace hF := am_no c_2 hF
      refine g_iconst (pc := 10) (v := (1 : Int32)) dX12_isIn_10 rfl ?_
      refine g_goto (pc := 11) (tgt := 15) dX12_isIn_11 rfl ?_
      cases hF
      exact g_zret (pc := 15) rfl (Or.inr rfl) (Nat.le_refl _) (Nat.le_refl _) dX12_isIn_15 ⟨(Or.inr rfl), rfl, rfl, rfl, rfl⟩
def F_X12_ones_55 (I : am_IT) (a1 : Int32) : Option (Int32) := am_b1 (am_it am_fu (am_u2 (fun (l2_1 : Int32) (l3_2 : Int32) => if l3_2 = 0 then (some (.inr (l2_1))) else (am_let (l2_1 + (1 : Int32)) (fun (l2_10 : Int32) => am_let (l3_2 &&& (l3_2 - (1 : Int32))) (fun (l3_11 : Int32) => some (.inl (l2_10, l3_11))))))) ((0 : Int32), a1)) (fun (l2_3 : Int32) => some l2_3)
set_option maxRecDepth 100000 in
set_option maxHeartbeats 4000000 in
theorem s_X12_ones_55 {l : Launch} {d N : Nat} {P : am_PT} (hPl : am_Pl 94 N P) (hd : 1 ≤ d) {I : am_IT} {a1 : Int32} {r : Int32} (hF : F_X12_ones_55 I a1 = some (r)) : am_C l d 0 0 mX12_ones [.ref 55, .int a1] N P I (am_qi r N P I) := by
  refine am_body (sc := am_sc0) (n := 2) (by decide +kernel) (by decide) rfl ?_
  change G am_sc0 l d 0 0 mX12_ones (am_qi r N P I) 0 [.ref 55, .int a1, .null, .null] [] N P I 0 0
  unfold F_X12_ones_55 at hF
  refine g_iconst (pc := 0) (v := (0 : Int32)) dX12_ones_0 rfl ?_
  refine n_istore_n (pc := 1) (ls2 := [.ref 55, .int a1, .int (0 : Int32), .null]) rfl rfl dX12_ones_1 rfl (Nat.le_of_ble_eq_true rfl) ?_
  refine g_iload_n (pc := 2) dX12_ones_2 rfl rfl ?_
  refine n_istore_n (pc := 3) (ls2 := [.ref 55, .int a1, .int (0 : Int32), .int a1]) rfl rfl dX12_ones_3 rfl (Nat.le_of_ble_eq_true rfl) ?_
  obtain ⟨l2_3, hL_7, hF⟩ := am_b1_el hF
  have hX_4 : G am_sc0 l d 0 0 mX12_ones (am_qi r N P I) 21 [.ref 55, .int a1, .int l2_3, .null] [] N P I 0 0 := by
    refine g_iload_n (pc := 21) dX12_ones_21 rfl rfl ?_
    cases hF
    exact g_iret (pc := 22) rfl (Nat.le_refl _) (Nat.le_refl _) dX12_ones_22 ⟨rfl, rfl, rfl, rfl⟩
  clear hF
  have hC := am_loop (C := fun x => G am_sc0 l d 0 0 mX12_ones (am_qi r N P I) 4 [.ref 55, .int a1, .int x.1, .int x.2] [] N P I 0 0) (by
    rintro ⟨l2_1, l3_2⟩ rr hF ih_5 hE_6
    replace hF := am_u2_ap hF
    change G am_sc0 l d 0 0 mX12_ones (am_qi r N P I) 4 [.ref 55, .int a1, .int l2_1, .int l3_2] [] N P I 0 0
    refine g_iload_n (pc := 4) dX12_ones_4 rfl rfl ?_
    refine g_if_eq (pc := 5) (tgt := 21) dX12_ones_5 rfl (fun c_9 => ?_) (fun c_9 => ?_)
    · replace hF := am_yes c_9 hF
      cases hF
      cases hE_6 _ rfl
      exact g_weak hX_4 ⟨Or.inr rfl, Or.inr rfl, Or.inr rfl, Or.inl rfl, trivial⟩
    · replace hF := am_no c_9 hF
      refine g_iload_n (pc := 8) dX12_ones_8 rfl rfl ?_
      refine g_iconst (pc := 9) (v := (1 : Int32)) dX12_ones_9 rfl ?_
      refine g_iadd (pc := 10) dX12_ones_10 ?_
      obtain ⟨l2_10, e_l2_10, hF⟩ := am_let_el hF
      refine n_istore_n (pc := 11) (ls2 := [.ref 55, .int a1, .int l2_10, .int l3_2]) e_l2_10 rfl dX12_ones_11 rfl (Nat.le_of_ble_eq_true rfl) ?_
      refine g_iload_n (pc := 12) dX12_ones_12 rfl rfl ?_
      refine g_iload_n (pc := 13) dX12_ones_13 rfl rfl ?_
      refine g_iconst (pc := 14) (v := (1 : Int32)) dX12_ones_14 rfl ?_
      refine g_isub (pc := 15) dX12_ones_15 ?_
      refine g_iand (pc := 16) dX12_ones_16 ?_
      obtain ⟨l3_11, e_l3_11, hF⟩ := am_let_el hF
      refine n_istore_n (pc := 17) (ls2 := [.ref 55, .int a1, .int l2_10, .int l3_11]) e_l3_11 rfl dX12_ones_17 rfl (Nat.le_of_ble_eq_true rfl) ?_
      refine g_goto (pc := 18) (tgt := 4) dX12_ones_18 rfl ?_
      cases hF
      exact ih_5 (l2_10, l3_11) rfl
    ) _ _ hL_7
  exact hC
def F_X12_state_55 (I : am_IT) (a1 : Int32) : Option (Int32 × am_IT) := am_let (up2 I 55 0 (0 : Int32)) (fun (I_1 : am_IT) => am_let (I_1 55 1) (fun (l2_2 : Int32) => am_let (up2 I_1 55 1 a1) (fun (I_3 : am_IT) => some (l2_2, I_3))))
set_option maxRecDepth 100000 in
set_option maxHeartbeats 4000000 in
theorem s_X12_state_55 {l : Launch} {d N : Nat} {P : am_PT} (hPl : am_Pl 94 N P) (hd : 1 ≤ d) {I : am_IT} {a1 : Int32} {r : Int32} {I2 : am_IT} (hF : F_X12_state_55 I a1 = some (r, I2)) : am_C l d 0 0 mX12_state [.ref 55, .int a1] N P I (am_qi r N P I2) := by
  refine am_body (sc := am_sc0) (n := 1) (by decide +kernel) (by decide) rfl ?_
  change G am_sc0 l d 0 0 mX12_state (am_qi r N P I2) 0 [.ref 55, .int a1, .null] [] N P I 0 0
  unfold F_X12_state_55 at hF
  refine g_aload_n (pc := 0) dX12_state_0 rfl rfl ?_
  refine g_iconst (pc := 1) (v := (0 : Int32)) dX12_state_1 rfl ?_
  obtain ⟨I_1, e_I_1, hF⟩ := am_let_el hF
  refine n_putI (pc := 2) (k := 55) e_I_1 kf_X12_134 rfl rfl (hPl.lt (by decide)) dX12_state_2 ?_
  refine g_aload_n (pc := 5) dX12_state_5 rfl rfl ?_
  refine g_getI (pc := 6) (k := 55) kf_X12_137.r rfl rfl (hPl.lt (by decide)) dX12_state_6 ?_
  obtain ⟨l2_2, e_l2_2, hF⟩ := am_let_el hF
  refine n_istore_n (pc := 9) (ls2 := [.ref 55, .int a1, .int l2_2]) e_l2_2 rfl dX12_state_9 rfl (Nat.le_of_ble_eq_true rfl) ?_
  refine g_aload_n (pc := 10) dX12_state_10 rfl rfl ?_
  refine g_iload_n (pc := 11) dX12_state_11 rfl rfl ?_
  obtain ⟨I_3, e_I_3, hF⟩ := am_let_el hF
  refine n_putI (pc := 12) (k := 55) e_I_3 kf_X12_137 rfl rfl (hPl.lt (by decide)) dX12_state_12 ?_
  refine g_iload_n (pc := 15) dX12_state_15 rfl rfl ?_
  cases hF
  exact g_iret (pc := 16) rfl (Nat.le_refl _) (Nat.le_refl _) dX12_state_16 ⟨rfl, rfl, rfl, rfl⟩
def F_X12_draw_55 (I : am_IT) (a1 : Int32) : Option (Int32 × am_IT) := am_let (up2 I 55 1 (((1664525 : Int32) * (I 55 1)) + (1013904223 : Int32))) (fun (I_1 : am_IT) => if ¬ a1 = (0 : Int32) then (some ((((I_1 55 1).toUInt32 >>> ((8 : Int32).toUInt32 &&& Int32.toUInt32 31)).toInt32) - (((I_1 55 1).toUInt32 >>> ((8 : Int32).toUInt32 &&& Int32.toUInt32 31)).toInt32) / a1 * a1, I_1)) else none)
set_option maxRecDepth 100000 in
set_option maxHeartbeats 4000000 in
theorem s_X12_draw_55 {l : Launch} {d N : Nat} {P : am_PT} (hPl : am_Pl 94 N P) (hd : 1 ≤ d) {I : am_IT} {a1 : Int32} {r : Int32} {I2 : am_IT} (hF : F_X12_draw_55 I a1 = some (r, I2)) : am_C l d 0 0 mX12_draw [.ref 55, .int a1] N P I (am_qi r N P I2) := by
  refine am_body (sc := am_sc0) (n := 0) (by decide +kernel) (by decide) rfl ?_
  change G am_sc0 l d 0 0 mX12_draw (am_qi r N P I2) 0 [.ref 55, .int a1] [] N P I 0 0
  unfold F_X12_draw_55 at hF
  refine g_aload_n (pc := 0) dX12_draw_0 rfl rfl ?_
  refine g_ldc (pc := 1) dX12_draw_1 kc_X12_140 ?_
  refine g_aload_n (pc := 3) dX12_draw_3 rfl rfl ?_
  refine g_getI (pc := 4) (k := 55) kf_X12_137.r rfl rfl (hPl.lt (by decide)) dX12_draw_4 ?_
  refine g_imul (pc := 7) dX12_draw_7 ?_
  refine g_ldc (pc := 8) dX12_draw_8 kc_X12_141 ?_
  refine g_iadd (pc := 10) dX12_draw_10 ?_
  obtain ⟨I_1, e_I_1, hF⟩ := am_let_el hF
  refine n_putI (pc := 11) (k := 55) e_I_1 kf_X12_137 rfl rfl (hPl.lt (by decide)) dX12_draw_11 ?_
  refine g_aload_n (pc := 14) dX12_draw_14 rfl rfl ?_
  refine g_getI (pc := 15) (k := 55) kf_X12_137.r rfl rfl (hPl.lt (by decide)) dX12_draw_15 ?_
  refine g_bipush (pc := 18) (v := (8 : Int32)) dX12_draw_18 rfl ?_
  refine g_iushr (pc := 20) dX12_draw_20 ?_
  refine g_iload_n (pc := 21) dX12_draw_21 rfl rfl ?_
  obtain ⟨c_2, hF⟩ := am_gd hF
  refine g_irem (pc := 22) dX12_draw_22 c_2 ?_
  cases hF
  exact g_iret (pc := 23) rfl (Nat.le_refl _) (Nat.le_refl _) dX12_draw_23 ⟨rfl, rfl, rfl, rfl⟩
def F_X12_isColour_55 (I : am_IT) (a1 : Int32) : Option (Int32) := if a1 < 0 then (some (0 : Int32)) else (if (I 55 2) ≤ a1 then (some (0 : Int32)) else (some (1 : Int32)))
set_option maxRecDepth 100000 in
set_option maxHeartbeats 4000000 in
theorem s_X12_isColour_55 {l : Launch} {d N : Nat} {P : am_PT} (hPl : am_Pl 94 N P) (hd : 1 ≤ d) {I : am_IT} {a1 : Int32} {r : Int32} (hF : F_X12_isColour_55 I a1 = some (r)) : am_C l d 0 0 mX12_isColour [.ref 55, .int a1] N P I (am_qz r N P I) := by
  refine am_body (sc := am_sc0) (n := 0) (by decide +kernel) (by decide) rfl ?_
  change G am_sc0 l d 0 0 mX12_isColour (am_qz r N P I) 0 [.ref 55, .int a1] [] N P I 0 0
  unfold F_X12_isColour_55 at hF
  refine g_iload_n (pc := 0) dX12_isColour_0 rfl rfl ?_
  refine g_if_lt (pc := 1) (tgt := 16) dX12_isColour_1 rfl (fun c_1 => ?_) (fun c_1 => ?_)
  · replace hF := am_yes c_1 hF
    refine g_iconst (pc := 16) (v := (0 : Int32)) dX12_isColour_16 rfl ?_
    cases hF
    exact g_zret (pc := 17) rfl (Or.inl rfl) (Nat.le_refl _) (Nat.le_refl _) dX12_isColour_17 ⟨(Or.inl rfl), rfl, rfl, rfl, rfl⟩
  · replace hF := am_no c_1 hF
    refine g_iload_n (pc := 4) dX12_isColour_4 rfl rfl ?_
    refine g_aload_n (pc := 5) dX12_isColour_5 rfl rfl ?_
    refine g_getI (pc := 6) (k := 55) kf_X12_7.r rfl rfl (hPl.lt (by decide)) dX12_isColour_6 ?_
    refine g_icmp_ge (pc := 9) (tgt := 16) dX12_isColour_9 rfl (fun c_2 => ?_) (fun c_2 => ?_)
    · replace hF := am_yes c_2 hF
      refine g_iconst (pc := 16) (v := (0 : Int32)) dX12_isColour_16 rfl ?_
      cases hF
      exact g_zret (pc := 17) rfl (Or.inl rfl) (Nat.le_refl _) (Nat.le_refl _) dX12_isColour_17 ⟨(Or.inl rfl), rfl, rfl, rfl, rfl⟩
    · replace hF := am_no c_2 hF
      refine g_iconst (pc := 12) (v := (1 : Int32)) dX12_isColour_12 rfl ?_
      refine g_goto (pc := 13) (tgt := 17) dX12_isColour_13 rfl ?_
      cases hF
      exact g_zret (pc := 17) rfl (Or.inr rfl) (Nat.le_refl _) (Nat.le_refl _) dX12_isColour_17 ⟨(Or.inr rfl), rfl, rfl, rfl, rfl⟩
def F_X12_isWall_55 (I : am_IT) (a1 : Int32) : Option (Int32) := if a1 < 0 then (some (0 : Int32)) else (if (I 55 4) ≤ a1 then (some (0 : Int32)) else (some (1 : Int32)))
set_option maxRecDepth 100000 in
set_option maxHeartbeats 4000000 in
theorem s_X12_isWall_55 {l : Launch} {d N : Nat} {P : am_PT} (hPl : am_Pl 94 N P) (hd : 1 ≤ d) {I : am_IT} {a1 : Int32} {r : Int32} (hF : F_X12_isWall_55 I a1 = some (r)) : am_C l d 0 0 mX12_isWall [.ref 55, .int a1] N P I (am_qz r N P I) := by
  refine am_body (sc := am_sc0) (n := 0) (by decide +kernel) (by decide) rfl ?_
  change G am_sc0 l d 0 0 mX12_isWall (am_qz r N P I) 0 [.ref 55, .int a1] [] N P I 0 0
  unfold F_X12_isWall_55 at hF
  refine g_iload_n (pc := 0) dX12_isWall_0 rfl rfl ?_
  refine g_if_lt (pc := 1) (tgt := 16) dX12_isWall_1 rfl (fun c_1 => ?_) (fun c_1 => ?_)
  · replace hF := am_yes c_1 hF
    refine g_iconst (pc := 16) (v := (0 : Int32)) dX12_isWall_16 rfl ?_
    cases hF
    exact g_zret (pc := 17) rfl (Or.inl rfl) (Nat.le_refl _) (Nat.le_refl _) dX12_isWall_17 ⟨(Or.inl rfl), rfl, rfl, rfl, rfl⟩
  · replace hF := am_no c_1 hF
    refine g_iload_n (pc := 4) dX12_isWall_4 rfl rfl ?_
    refine g_aload_n (pc := 5) dX12_isWall_5 rfl rfl ?_
    refine g_getI (pc := 6) (k := 55) kf_X12_142.r rfl rfl (hPl.lt (by decide)) dX12_isWall_6 ?_
    refine g_icmp_ge (pc := 9) (tgt := 16) dX12_isWall_9 rfl (fun c_2 => ?_) (fun c_2 => ?_)
    · replace hF := am_yes c_2 hF
      refine g_iconst (pc := 16) (v := (0 : Int32)) dX12_isWall_16 rfl ?_
      cases hF
      exact g_zret (pc := 17) rfl (Or.inl rfl) (Nat.le_refl _) (Nat.le_refl _) dX12_isWall_17 ⟨(Or.inl rfl), rfl, rfl, rfl, rfl⟩
    · replace hF := am_no c_2 hF
      refine g_iconst (pc := 12) (v := (1 : Int32)) dX12_isWall_12 rfl ?_
      refine g_goto (pc := 13) (tgt := 17) dX12_isWall_13 rfl ?_
      cases hF
      exact g_zret (pc := 17) rfl (Or.inr rfl) (Nat.le_refl _) (Nat.le_refl _) dX12_isWall_17 ⟨(Or.inr rfl), rfl, rfl, rfl, rfl⟩
def F_X12_isOne_55 (I : am_IT) (a1 : Int32) : Option (Int32) := if a1 < 0 then (some (0 : Int32)) else (if (I 55 5) ≤ a1 then (some (0 : Int32)) else (some (1 : Int32)))
set_option maxRecDepth 100000 in
set_option maxHeartbeats 4000000 in
theorem s_X12_isOne_55 {l : Launch} {d N : Nat} {P : am_PT} (hPl : am_Pl 94 N P) (hd : 1 ≤ d) {I : am_IT} {a1 : Int32} {r : Int32} (hF : F_X12_isOne_55 I a1 = some (r)) : am_C l d 0 0 mX12_isOne [.ref 55, .int a1] N P I (am_qz r N P I) := by
  refine am_body (sc := am_sc0) (n := 0) (by decide +kernel) (by decide) rfl ?_
  change G am_sc0 l d 0 0 mX12_isOne (am_qz r N P I) 0 [.ref 55, .int a1] [] N P I 0 0
  unfold F_X12_isOne_55 at hF
  refine g_iload_n (pc := 0) dX12_isOne_0 rfl rfl ?_
  refine g_if_lt (pc := 1) (tgt := 16) dX12_isOne_1 rfl (fun c_1 => ?_) (fun c_1 => ?_)
  · replace hF := am_yes c_1 hF
    refine g_iconst (pc := 16) (v := (0 : Int32)) dX12_isOne_16 rfl ?_
    cases hF
    exact g_zret (pc := 17) rfl (Or.inl rfl) (Nat.le_refl _) (Nat.le_refl _) dX12_isOne_17 ⟨(Or.inl rfl), rfl, rfl, rfl, rfl⟩
  · replace hF := am_no c_1 hF
    refine g_iload_n (pc := 4) dX12_isOne_4 rfl rfl ?_
    refine g_aload_n (pc := 5) dX12_isOne_5 rfl rfl ?_
    refine g_getI (pc := 6) (k := 55) kf_X12_145.r rfl rfl (hPl.lt (by decide)) dX12_isOne_6 ?_
    refine g_icmp_ge (pc := 9) (tgt := 16) dX12_isOne_9 rfl (fun c_2 => ?_) (fun c_2 => ?_)
    · replace hF := am_yes c_2 hF
      refine g_iconst (pc := 16) (v := (0 : Int32)) dX12_isOne_16 rfl ?_
      cases hF
      exact g_zret (pc := 17) rfl (Or.inl rfl) (Nat.le_refl _) (Nat.le_refl _) dX12_isOne_17 ⟨(Or.inl rfl), rfl, rfl, rfl, rfl⟩
    · replace hF := am_no c_2 hF
      refine g_iconst (pc := 12) (v := (1 : Int32)) dX12_isOne_12 rfl ?_
      refine g_goto (pc := 13) (tgt := 17) dX12_isOne_13 rfl ?_
      cases hF
      exact g_zret (pc := 17) rfl (Or.inr rfl) (Nat.le_refl _) (Nat.le_refl _) dX12_isOne_17 ⟨(Or.inr rfl), rfl, rfl, rfl, rfl⟩
def F_X12_isHouse_55 (I : am_IT) (a1 : Int32) : Option (Int32) := if a1 < 0 then (some (0 : Int32)) else (if (8 : Int32) ≤ a1 then (some (0 : Int32)) else (some (1 : Int32)))
set_option maxRecDepth 100000 in
set_option maxHeartbeats 4000000 in
theorem s_X12_isHouse_55 {l : Launch} {d N : Nat} {P : am_PT} (hPl : am_Pl 94 N P) (hd : 1 ≤ d) {I : am_IT} {a1 : Int32} {r : Int32} (hF : F_X12_isHouse_55 I a1 = some (r)) : am_C l d 0 0 mX12_isHouse [.ref 55, .int a1] N P I (am_qz r N P I) := by
  refine am_body (sc := am_sc0) (n := 0) (by decide +kernel) (by decide) rfl ?_
  change G am_sc0 l d 0 0 mX12_isHouse (am_qz r N P I) 0 [.ref 55, .int a1] [] N P I 0 0
  unfold F_X12_isHouse_55 at hF
  refine g_iload_n (pc := 0) dX12_isHouse_0 rfl rfl ?_
  refine g_if_lt (pc := 1) (tgt := 14) dX12_isHouse_1 rfl (fun c_1 => ?_) (fun c_1 => ?_)
  · replace hF := am_yes c_1 hF
    refine g_iconst (pc := 14) (v := (0 : Int32)) dX12_isHouse_14 rfl ?_
    cases hF
    exact g_zret (pc := 15) rfl (Or.inl rfl) (Nat.le_refl _) (Nat.le_refl _) dX12_isHouse_15 ⟨(Or.inl rfl), rfl, rfl, rfl, rfl⟩
  · replace hF := am_no c_1 hF
    refine g_iload_n (pc := 4) dX12_isHouse_4 rfl rfl ?_
    refine g_bipush (pc := 5) (v := (8 : Int32)) dX12_isHouse_5 rfl ?_
    refine g_icmp_ge (pc := 7) (tgt := 14) dX12_isHouse_7 rfl (fun c_2 => ?_) (fun c_2 => ?_)
    · replace hF := am_yes c_2 hF
      refine g_iconst (pc := 14) (v := (0 : Int32)) dX12_isHouse_14 rfl ?_
      cases hF
      exact g_zret (pc := 15) rfl (Or.inl rfl) (Nat.le_refl _) (Nat.le_refl _) dX12_isHouse_15 ⟨(Or.inl rfl), rfl, rfl, rfl, rfl⟩
    · replace hF := am_no c_2 hF
      refine g_iconst (pc := 10) (v := (1 : Int32)) dX12_isHouse_10 rfl ?_
      refine g_goto (pc := 11) (tgt := 15) dX12_isHouse_11 rfl ?_
      cases hF
      exact g_zret (pc := 15) rfl (Or.inr rfl) (Nat.le_refl _) (Nat.le_refl _) dX12_isHouse_15 ⟨(Or.inr rfl), rfl, rfl, rfl, rfl⟩
def F_X12_colours_55 (I : am_IT) (a1 : Int32) : Option (Int32 × am_IT) := am_let (up2 I 55 0 (0 : Int32)) (fun (I_1 : am_IT) => am_b1 (F_X12_isIn_55 I_1 a1 (2 : Int32) (4 : Int32)) (fun (r_3 : Int32) => if r_3 = 0 then (some ((0 : Int32), I_1)) else (am_let (up2 I_1 55 2 a1) (fun (I_6 : am_IT) => am_let (up2 I_6 55 4 (0 : Int32)) (fun (I_7 : am_IT) => am_let (up2 I_7 55 5 (0 : Int32)) (fun (I_8 : am_IT) => am_let (up2 I_8 55 8 (0 : Int32)) (fun (I_9 : am_IT) => am_let (up2 I_9 55 13 (0 : Int32)) (fun (I_10 : am_IT) => am_let (up2 I_10 55 18 (0 : Int32)) (fun (I_11 : am_IT) => am_let (up2 I_11 55 32 (0 : Int32)) (fun (I_12 : am_IT) => am_b1 (am_it am_fu (am_u2 (fun (l2_13 : Int32) (I_14 : am_IT) => if (4 : Int32) ≤ l2_13 then (some (.inr (I_14))) else (if am_ix l2_13 4 = true then (am_let (up2 I_14 56 l2_13.toNatClampNeg (0 : Int32)) (fun (I_23 : am_IT) => am_let (l2_13 + (1 : Int32)) (fun (l2_24 : Int32) => some (.inl (l2_24, I_23))))) else none))) ((0 : Int32), I_12)) (fun (I_15 : am_IT) => am_b1 (am_it am_fu (am_u2 (fun (l2_25 : Int32) (I_26 : am_IT) => if (56 : Int32) ≤ l2_25 then (some (.inr (I_26))) else (if am_ix l2_25 56 = true then (am_let (up2 I_26 58 l2_25.toNatClampNeg (0 : Int32)) (fun (I_35 : am_IT) => am_let (l2_25 + (1 : Int32)) (fun (l2_36 : Int32) => some (.inl (l2_36, I_35))))) else none))) ((0 : Int32), I_15)) (fun (I_27 : am_IT) => am_b1 (am_it am_fu (am_u2 (fun (l2_37 : Int32) (I_38 : am_IT) => if (49 : Int32) ≤ l2_37 then (some (.inr (I_38))) else (if am_ix l2_37 49 = true then (am_let (up2 I_38 66 l2_37.toNatClampNeg (0 : Int32)) (fun (I_47 : am_IT) => am_let (l2_37 + (1 : Int32)) (fun (l2_48 : Int32) => some (.inl (l2_48, I_47))))) else none))) ((0 : Int32), I_27)) (fun (I_39 : am_IT) => am_b1 (am_it am_fu (am_u2 (fun (l2_49 : Int32) (I_50 : am_IT) => if (9 : Int32) ≤ l2_49 then (some (.inr (I_50))) else (if am_ix l2_49 9 = true then (am_let (up2 I_50 70 l2_49.toNatClampNeg (0 : Int32)) (fun (I_59 : am_IT) => if am_ix l2_49 9 = true then (am_let (up2 I_59 71 l2_49.toNatClampNeg (0 : Int32)) (fun (I_61 : am_IT) => am_let (l2_49 + (1 : Int32)) (fun (l2_62 : Int32) => some (.inl (l2_62, I_61))))) else none)) else none))) ((0 : Int32), I_39)) (fun (I_51 : am_IT) => some ((1 : Int32), I_51)))))))))))))))
set_option maxRecDepth 100000 in
set_option maxHeartbeats 4000000 in
theorem s_X12_colours_55 {l : Launch} {d N : Nat} {P : am_PT} (hPl : am_Pl 94 N P) (hd : 2 ≤ d) {I : am_IT} {a1 : Int32} {r : Int32} {I2 : am_IT} (hF : F_X12_colours_55 I a1 = some (r, I2)) : am_C l d 0 0 mX12_colours [.ref 55, .int a1] N P I (am_qz r N P I2) := by
  refine am_body (sc := am_sc0) (n := 1) (by decide +kernel) (by decide) rfl ?_
  change G am_sc0 l d 0 0 mX12_colours (am_qz r N P I2) 0 [.ref 55, .int a1, .null] [] N P I 0 0
  unfold F_X12_colours_55 at hF
  refine g_aload_n (pc := 0) dX12_colours_0 rfl rfl ?_
  refine g_iconst (pc := 1) (v := (0 : Int32)) dX12_colours_1 rfl ?_
  obtain ⟨I_1, e_I_1, hF⟩ := am_let_el hF
  refine n_putI (pc := 2) (k := 55) e_I_1 kf_X12_134 rfl rfl (hPl.lt (by decide)) dX12_colours_2 ?_
  refine g_aload_n (pc := 5) dX12_colours_5 rfl rfl ?_
  refine g_iload_n (pc := 6) dX12_colours_6 rfl rfl ?_
  refine g_iconst (pc := 7) (v := (2 : Int32)) dX12_colours_7 rfl ?_
  refine g_iconst (pc := 8) (v := (4 : Int32)) dX12_colours_8 rfl ?_
  obtain ⟨r_3, h_2, hF⟩ := am_b1_el hF
  refine g_cVz (pc := 9) (k := 55) (As := [.int a1, .int (2 : Int32), .int (4 : Int32)]) (st := []) ky_X12_isIn kl_X12_148 (s_X12_isIn_55 (d := 1) (hPl) (Nat.le_refl _) h_2) rfl rfl rfl (hPl.lt (by decide)) (Nat.le_trans (by decide) hd) (Nat.le_of_ble_eq_true rfl) (Nat.le_refl _) (Nat.le_refl _) dX12_colours_9 ?_
  intro z_4
  refine g_if_ne (pc := 12) (tgt := 17) dX12_colours_12 rfl (fun c_5 => ?_) (fun c_5 => ?_)
  · replace hF := am_no c_5 hF
    refine g_aload_n (pc := 17) dX12_colours_17 rfl rfl ?_
    refine g_iload_n (pc := 18) dX12_colours_18 rfl rfl ?_
    obtain ⟨I_6, e_I_6, hF⟩ := am_let_el hF
    refine n_putI (pc := 19) (k := 55) e_I_6 kf_X12_7 rfl rfl (hPl.lt (by decide)) dX12_colours_19 ?_
    refine g_aload_n (pc := 22) dX12_colours_22 rfl rfl ?_
    refine g_iconst (pc := 23) (v := (0 : Int32)) dX12_colours_23 rfl ?_
    obtain ⟨I_7, e_I_7, hF⟩ := am_let_el hF
    refine n_putI (pc := 24) (k := 55) e_I_7 kf_X12_142 rfl rfl (hPl.lt (by decide)) dX12_colours_24 ?_
    refine g_aload_n (pc := 27) dX12_colours_27 rfl rfl ?_
    refine g_iconst (pc := 28) (v := (0 : Int32)) dX12_colours_28 rfl ?_
    obtain ⟨I_8, e_I_8, hF⟩ := am_let_el hF
    refine n_putI (pc := 29) (k := 55) e_I_8 kf_X12_145 rfl rfl (hPl.lt (by decide)) dX12_colours_29 ?_
    refine g_aload_n (pc := 32) dX12_colours_32 rfl rfl ?_
    refine g_iconst (pc := 33) (v := (0 : Int32)) dX12_colours_33 rfl ?_
    obtain ⟨I_9, e_I_9, hF⟩ := am_let_el hF
    refine n_putI (pc := 34) (k := 55) e_I_9 kf_X12_152 rfl rfl (hPl.lt (by decide)) dX12_colours_34 ?_
    refine g_aload_n (pc := 37) dX12_colours_37 rfl rfl ?_
    refine g_iconst (pc := 38) (v := (0 : Int32)) dX12_colours_38 rfl ?_
    obtain ⟨I_10, e_I_10, hF⟩ := am_let_el hF
    refine n_putI (pc := 39) (k := 55) e_I_10 kf_X12_155 rfl rfl (hPl.lt (by decide)) dX12_colours_39 ?_
    refine g_aload_n (pc := 42) dX12_colours_42 rfl rfl ?_
    refine g_iconst (pc := 43) (v := (0 : Int32)) dX12_colours_43 rfl ?_
    obtain ⟨I_11, e_I_11, hF⟩ := am_let_el hF
    refine n_putI (pc := 44) (k := 55) e_I_11 kf_X12_158 rfl rfl (hPl.lt (by decide)) dX12_colours_44 ?_
    refine g_aload_n (pc := 47) dX12_colours_47 rfl rfl ?_
    refine g_iconst (pc := 48) (v := (0 : Int32)) dX12_colours_48 rfl ?_
    obtain ⟨I_12, e_I_12, hF⟩ := am_let_el hF
    refine n_putI (pc := 49) (k := 55) e_I_12 kf_X12_161 rfl rfl (hPl.lt (by decide)) dX12_colours_49 ?_
    refine g_iconst (pc := 52) (v := (0 : Int32)) dX12_colours_52 rfl ?_
    refine n_istore_n (pc := 53) (ls2 := [.ref 55, .int a1, .int (0 : Int32)]) rfl rfl dX12_colours_53 rfl (Nat.le_of_ble_eq_true rfl) ?_
    obtain ⟨I_15, hL_19, hF⟩ := am_b1_el hF
    have hX_16 : G am_sc0 l d 0 0 mX12_colours (am_qz r N P I2) 72 [.ref 55, .int a1, .null] [] N P I_15 0 0 := by
      refine g_iconst (pc := 72) (v := (0 : Int32)) dX12_colours_72 rfl ?_
      refine n_istore_n (pc := 73) (ls2 := [.ref 55, .int a1, .int (0 : Int32)]) rfl rfl dX12_colours_73 rfl (Nat.le_of_ble_eq_true rfl) ?_
      obtain ⟨I_27, hL_31, hF⟩ := am_b1_el hF
      have hX_28 : G am_sc0 l d 0 0 mX12_colours (am_qz r N P I2) 93 [.ref 55, .int a1, .null] [] N P I_27 0 0 := by
        refine g_iconst (pc := 93) (v := (0 : Int32)) dX12_colours_93 rfl ?_
        refine n_istore_n (pc := 94) (ls2 := [.ref 55, .int a1, .int (0 : Int32)]) rfl rfl dX12_colours_94 rfl (Nat.le_of_ble_eq_true rfl) ?_
        obtain ⟨I_39, hL_43, hF⟩ := am_b1_el hF
        have hX_40 : G am_sc0 l d 0 0 mX12_colours (am_qz r N P I2) 114 [.ref 55, .int a1, .null] [] N P I_39 0 0 := by
          refine g_iconst (pc := 114) (v := (0 : Int32)) dX12_colours_114 rfl ?_
          refine n_istore_n (pc := 115) (ls2 := [.ref 55, .int a1, .int (0 : Int32)]) rfl rfl dX12_colours_115 rfl (Nat.le_of_ble_eq_true rfl) ?_
          obtain ⟨I_51, hL_55, hF⟩ := am_b1_el hF
          have hX_52 : G am_sc0 l d 0 0 mX12_colours (am_qz r N P I2) 142 [.ref 55, .int a1, .null] [] N P I_51 0 0 := by
            refine g_iconst (pc := 142) (v := (1 : Int32)) dX12_colours_142 rfl ?_
            cases hF
            exact g_zret (pc := 143) rfl (Or.inr rfl) (Nat.le_refl _) (Nat.le_refl _) dX12_colours_143 ⟨(Or.inr rfl), rfl, rfl, rfl, rfl⟩
          clear hF
          have hC := am_loop (C := fun x => G am_sc0 l d 0 0 mX12_colours (am_qz r N P I2) 116 [.ref 55, .int a1, .int x.1] [] N P x.2 0 0) (by
            rintro ⟨l2_49, I_50⟩ rr hF ih_53 hE_54
            replace hF := am_u2_ap hF
            change G am_sc0 l d 0 0 mX12_colours (am_qz r N P I2) 116 [.ref 55, .int a1, .int l2_49] [] N P I_50 0 0
            refine g_iload_n (pc := 116) dX12_colours_116 rfl rfl ?_
            refine g_bipush (pc := 117) (v := (9 : Int32)) dX12_colours_117 rfl ?_
            refine g_icmp_ge (pc := 119) (tgt := 142) dX12_colours_119 rfl (fun c_57 => ?_) (fun c_57 => ?_)
            · replace hF := am_yes c_57 hF
              cases hF
              cases hE_54 _ rfl
              exact g_weak hX_52 ⟨Or.inr rfl, Or.inr rfl, Or.inl rfl, trivial⟩
            · replace hF := am_no c_57 hF
              refine g_aload_n (pc := 122) dX12_colours_122 rfl rfl ?_
              refine g_getR (pc := 123) (k := 55) (r := 70) kf_X12_56.r rfl rfl (hPl.get (by decide) rfl) (hPl.lt (by decide)) dX12_colours_123 ?_
              refine g_iload_n (pc := 126) dX12_colours_126 rfl rfl ?_
              refine g_iconst (pc := 127) (v := (0 : Int32)) dX12_colours_127 rfl ?_
              obtain ⟨c_58, hF⟩ := am_gd hF
              obtain ⟨I_59, e_I_59, hF⟩ := am_let_el hF
              refine n_iast (pc := 128) (k := 70) e_I_59 rfl (hPl.lt (by decide)) (am_ix_use c_58) dX12_colours_128 ?_
              refine g_aload_n (pc := 129) dX12_colours_129 rfl rfl ?_
              refine g_getR (pc := 130) (k := 55) (r := 71) kf_X12_59.r rfl rfl (hPl.get (by decide) rfl) (hPl.lt (by decide)) dX12_colours_130 ?_
              refine g_iload_n (pc := 133) dX12_colours_133 rfl rfl ?_
              refine g_iconst (pc := 134) (v := (0 : Int32)) dX12_colours_134 rfl ?_
              obtain ⟨c_60, hF⟩ := am_gd hF
              obtain ⟨I_61, e_I_61, hF⟩ := am_let_el hF
              refine n_iast (pc := 135) (k := 71) e_I_61 rfl (hPl.lt (by decide)) (am_ix_use c_60) dX12_colours_135 ?_
              obtain ⟨l2_62, e_l2_62, hF⟩ := am_let_el hF
              refine n_iinc (pc := 136) (ls2 := [.ref 55, .int a1, .int l2_62]) e_l2_62 rfl rfl rfl dX12_colours_136 (Nat.le_of_ble_eq_true rfl) ?_
              refine g_goto (pc := 139) (tgt := 116) dX12_colours_139 rfl ?_
              cases hF
              exact ih_53 (l2_62, I_61) rfl
            ) _ _ hL_55
          exact hC
        clear hF
        have hC := am_loop (C := fun x => G am_sc0 l d 0 0 mX12_colours (am_qz r N P I2) 95 [.ref 55, .int a1, .int x.1] [] N P x.2 0 0) (by
          rintro ⟨l2_37, I_38⟩ rr hF ih_41 hE_42
          replace hF := am_u2_ap hF
          change G am_sc0 l d 0 0 mX12_colours (am_qz r N P I2) 95 [.ref 55, .int a1, .int l2_37] [] N P I_38 0 0
          refine g_iload_n (pc := 95) dX12_colours_95 rfl rfl ?_
          refine g_bipush (pc := 96) (v := (49 : Int32)) dX12_colours_96 rfl ?_
          refine g_icmp_ge (pc := 98) (tgt := 114) dX12_colours_98 rfl (fun c_45 => ?_) (fun c_45 => ?_)
          · replace hF := am_yes c_45 hF
            cases hF
            cases hE_42 _ rfl
            exact g_weak hX_40 ⟨Or.inr rfl, Or.inr rfl, Or.inl rfl, trivial⟩
          · replace hF := am_no c_45 hF
            refine g_aload_n (pc := 101) dX12_colours_101 rfl rfl ?_
            refine g_getR (pc := 102) (k := 55) (r := 66) kf_X12_44.r rfl rfl (hPl.get (by decide) rfl) (hPl.lt (by decide)) dX12_colours_102 ?_
            refine g_iload_n (pc := 105) dX12_colours_105 rfl rfl ?_
            refine g_iconst (pc := 106) (v := (0 : Int32)) dX12_colours_106 rfl ?_
            obtain ⟨c_46, hF⟩ := am_gd hF
            obtain ⟨I_47, e_I_47, hF⟩ := am_let_el hF
            refine n_iast (pc := 107) (k := 66) e_I_47 rfl (hPl.lt (by decide)) (am_ix_use c_46) dX12_colours_107 ?_
            obtain ⟨l2_48, e_l2_48, hF⟩ := am_let_el hF
            refine n_iinc (pc := 108) (ls2 := [.ref 55, .int a1, .int l2_48]) e_l2_48 rfl rfl rfl dX12_colours_108 (Nat.le_of_ble_eq_true rfl) ?_
            refine g_goto (pc := 111) (tgt := 95) dX12_colours_111 rfl ?_
            cases hF
            exact ih_41 (l2_48, I_47) rfl
          ) _ _ hL_43
        exact hC
      clear hF
      have hC := am_loop (C := fun x => G am_sc0 l d 0 0 mX12_colours (am_qz r N P I2) 74 [.ref 55, .int a1, .int x.1] [] N P x.2 0 0) (by
        rintro ⟨l2_25, I_26⟩ rr hF ih_29 hE_30
        replace hF := am_u2_ap hF
        change G am_sc0 l d 0 0 mX12_colours (am_qz r N P I2) 74 [.ref 55, .int a1, .int l2_25] [] N P I_26 0 0
        refine g_iload_n (pc := 74) dX12_colours_74 rfl rfl ?_
        refine g_bipush (pc := 75) (v := (56 : Int32)) dX12_colours_75 rfl ?_
        refine g_icmp_ge (pc := 77) (tgt := 93) dX12_colours_77 rfl (fun c_33 => ?_) (fun c_33 => ?_)
        · replace hF := am_yes c_33 hF
          cases hF
          cases hE_30 _ rfl
          exact g_weak hX_28 ⟨Or.inr rfl, Or.inr rfl, Or.inl rfl, trivial⟩
        · replace hF := am_no c_33 hF
          refine g_aload_n (pc := 80) dX12_colours_80 rfl rfl ?_
          refine g_getR (pc := 81) (k := 55) (r := 58) kf_X12_20.r rfl rfl (hPl.get (by decide) rfl) (hPl.lt (by decide)) dX12_colours_81 ?_
          refine g_iload_n (pc := 84) dX12_colours_84 rfl rfl ?_
          refine g_iconst (pc := 85) (v := (0 : Int32)) dX12_colours_85 rfl ?_
          obtain ⟨c_34, hF⟩ := am_gd hF
          obtain ⟨I_35, e_I_35, hF⟩ := am_let_el hF
          refine n_iast (pc := 86) (k := 58) e_I_35 rfl (hPl.lt (by decide)) (am_ix_use c_34) dX12_colours_86 ?_
          obtain ⟨l2_36, e_l2_36, hF⟩ := am_let_el hF
          refine n_iinc (pc := 87) (ls2 := [.ref 55, .int a1, .int l2_36]) e_l2_36 rfl rfl rfl dX12_colours_87 (Nat.le_of_ble_eq_true rfl) ?_
          refine g_goto (pc := 90) (tgt := 74) dX12_colours_90 rfl ?_
          cases hF
          exact ih_29 (l2_36, I_35) rfl
        ) _ _ hL_31
      exact hC
    clear hF
    have hC := am_loop (C := fun x => G am_sc0 l d 0 0 mX12_colours (am_qz r N P I2) 54 [.ref 55, .int a1, .int x.1] [] N P x.2 0 0) (by
      rintro ⟨l2_13, I_14⟩ rr hF ih_17 hE_18
      replace hF := am_u2_ap hF
      change G am_sc0 l d 0 0 mX12_colours (am_qz r N P I2) 54 [.ref 55, .int a1, .int l2_13] [] N P I_14 0 0
      refine g_iload_n (pc := 54) dX12_colours_54 rfl rfl ?_
      refine g_iconst (pc := 55) (v := (4 : Int32)) dX12_colours_55 rfl ?_
      refine g_icmp_ge (pc := 56) (tgt := 72) dX12_colours_56 rfl (fun c_21 => ?_) (fun c_21 => ?_)
      · replace hF := am_yes c_21 hF
        cases hF
        cases hE_18 _ rfl
        exact g_weak hX_16 ⟨Or.inr rfl, Or.inr rfl, Or.inl rfl, trivial⟩
      · replace hF := am_no c_21 hF
        refine g_aload_n (pc := 59) dX12_colours_59 rfl rfl ?_
        refine g_getR (pc := 60) (k := 55) (r := 56) kf_X12_13.r rfl rfl (hPl.get (by decide) rfl) (hPl.lt (by decide)) dX12_colours_60 ?_
        refine g_iload_n (pc := 63) dX12_colours_63 rfl rfl ?_
        refine g_iconst (pc := 64) (v := (0 : Int32)) dX12_colours_64 rfl ?_
        obtain ⟨c_22, hF⟩ := am_gd hF
        obtain ⟨I_23, e_I_23, hF⟩ := am_let_el hF
        refine n_iast (pc := 65) (k := 56) e_I_23 rfl (hPl.lt (by decide)) (am_ix_use c_22) dX12_colours_65 ?_
        obtain ⟨l2_24, e_l2_24, hF⟩ := am_let_el hF
        refine n_iinc (pc := 66) (ls2 := [.ref 55, .int a1, .int l2_24]) e_l2_24 rfl rfl rfl dX12_colours_66 (Nat.le_of_ble_eq_true rfl) ?_
        refine g_goto (pc := 69) (tgt := 54) dX12_colours_69 rfl ?_
        cases hF
        exact ih_17 (l2_24, I_23) rfl
      ) _ _ hL_19
    exact hC
  · replace hF := am_yes c_5 hF
    refine g_iconst (pc := 15) (v := (0 : Int32)) dX12_colours_15 rfl ?_
    cases hF
    exact g_zret (pc := 16) rfl (Or.inl rfl) (Nat.le_refl _) (Nat.le_refl _) dX12_colours_16 ⟨(Or.inl rfl), rfl, rfl, rfl, rfl⟩
def F_X12_pot_55 (I : am_IT) (a1 : Int32) (a2 : Int32) : Option (Int32 × am_IT) := am_let (up2 I 55 0 (0 : Int32)) (fun (I_1 : am_IT) => am_b1 (F_X12_isColour_55 I_1 a1) (fun (r_3 : Int32) => if r_3 = 0 then (some ((0 : Int32), I_1)) else (am_b1 (F_X12_isIn_55 I_1 a2 (0 : Int32) (999 : Int32)) (fun (r_7 : Int32) => if r_7 = 0 then (some ((0 : Int32), I_1)) else (if am_ix a1 4 = true then (am_let (up2 I_1 56 a1.toNatClampNeg a2) (fun (I_11 : am_IT) => some ((1 : Int32), I_11))) else none)))))
set_option maxRecDepth 100000 in
set_option maxHeartbeats 4000000 in
theorem s_X12_pot_55 {l : Launch} {d N : Nat} {P : am_PT} (hPl : am_Pl 94 N P) (hd : 2 ≤ d) {I : am_IT} {a1 : Int32} {a2 : Int32} {r : Int32} {I2 : am_IT} (hF : F_X12_pot_55 I a1 a2 = some (r, I2)) : am_C l d 0 0 mX12_pot [.ref 55, .int a1, .int a2] N P I (am_qz r N P I2) := by
  refine am_body (sc := am_sc0) (n := 0) (by decide +kernel) (by decide) rfl ?_
  change G am_sc0 l d 0 0 mX12_pot (am_qz r N P I2) 0 [.ref 55, .int a1, .int a2] [] N P I 0 0
  unfold F_X12_pot_55 at hF
  refine g_aload_n (pc := 0) dX12_pot_0 rfl rfl ?_
  refine g_iconst (pc := 1) (v := (0 : Int32)) dX12_pot_1 rfl ?_
  obtain ⟨I_1, e_I_1, hF⟩ := am_let_el hF
  refine n_putI (pc := 2) (k := 55) e_I_1 kf_X12_134 rfl rfl (hPl.lt (by decide)) dX12_pot_2 ?_
  refine g_aload_n (pc := 5) dX12_pot_5 rfl rfl ?_
  refine g_iload_n (pc := 6) dX12_pot_6 rfl rfl ?_
  obtain ⟨r_3, h_2, hF⟩ := am_b1_el hF
  refine g_cVz (pc := 7) (k := 55) (As := [.int a1]) (st := []) ky_X12_isColour kl_X12_164 (s_X12_isColour_55 (d := 1) (hPl) (Nat.le_refl _) h_2) rfl rfl rfl (hPl.lt (by decide)) (Nat.le_trans (by decide) hd) (Nat.le_of_ble_eq_true rfl) (Nat.le_refl _) (Nat.le_refl _) dX12_pot_7 ?_
  intro z_4
  refine g_if_eq (pc := 10) (tgt := 25) dX12_pot_10 rfl (fun c_5 => ?_) (fun c_5 => ?_)
  · replace hF := am_yes c_5 hF
    refine g_iconst (pc := 25) (v := (0 : Int32)) dX12_pot_25 rfl ?_
    cases hF
    exact g_zret (pc := 26) rfl (Or.inl rfl) (Nat.le_refl _) (Nat.le_refl _) dX12_pot_26 ⟨(Or.inl rfl), rfl, rfl, rfl, rfl⟩
  · replace hF := am_no c_5 hF
    refine g_aload_n (pc := 13) dX12_pot_13 rfl rfl ?_
    refine g_iload_n (pc := 14) dX12_pot_14 rfl rfl ?_
    refine g_iconst (pc := 15) (v := (0 : Int32)) dX12_pot_15 rfl ?_
    refine g_sipush (pc := 16) (v := (999 : Int32)) dX12_pot_16 rfl ?_
    obtain ⟨r_7, h_6, hF⟩ := am_b1_el hF
    refine g_cVz (pc := 19) (k := 55) (As := [.int a2, .int (0 : Int32), .int (999 : Int32)]) (st := []) ky_X12_isIn kl_X12_148 (s_X12_isIn_55 (d := 1) (hPl) (Nat.le_refl _) h_6) rfl rfl rfl (hPl.lt (by decide)) (Nat.le_trans (by decide) hd) (Nat.le_of_ble_eq_true rfl) (Nat.le_refl _) (Nat.le_refl _) dX12_pot_19 ?_
    intro z_8
    refine g_if_ne (pc := 22) (tgt := 27) dX12_pot_22 rfl (fun c_9 => ?_) (fun c_9 => ?_)
    · replace hF := am_no c_9 hF
      refine g_aload_n (pc := 27) dX12_pot_27 rfl rfl ?_
      refine g_getR (pc := 28) (k := 55) (r := 56) kf_X12_13.r rfl rfl (hPl.get (by decide) rfl) (hPl.lt (by decide)) dX12_pot_28 ?_
      refine g_iload_n (pc := 31) dX12_pot_31 rfl rfl ?_
      refine g_iload_n (pc := 32) dX12_pot_32 rfl rfl ?_
      obtain ⟨c_10, hF⟩ := am_gd hF
      obtain ⟨I_11, e_I_11, hF⟩ := am_let_el hF
      refine n_iast (pc := 33) (k := 56) e_I_11 rfl (hPl.lt (by decide)) (am_ix_use c_10) dX12_pot_33 ?_
      refine g_iconst (pc := 34) (v := (1 : Int32)) dX12_pot_34 rfl ?_
      cases hF
      exact g_zret (pc := 35) rfl (Or.inr rfl) (Nat.le_refl _) (Nat.le_refl _) dX12_pot_35 ⟨(Or.inr rfl), rfl, rfl, rfl, rfl⟩
    · replace hF := am_yes c_9 hF
      refine g_iconst (pc := 25) (v := (0 : Int32)) dX12_pot_25 rfl ?_
      cases hF
      exact g_zret (pc := 26) rfl (Or.inl rfl) (Nat.le_refl _) (Nat.le_refl _) dX12_pot_26 ⟨(Or.inl rfl), rfl, rfl, rfl, rfl⟩
def F_X12_wall_55 (I : am_IT) (a1 : Int32) : Option (Int32 × am_IT) := am_let (up2 I 55 0 (0 : Int32)) (fun (I_1 : am_IT) => am_b1 (F_X12_isColour_55 I_1 a1) (fun (r_3 : Int32) => if r_3 = 0 then (some ((-1 : Int32), I_1)) else (if (I_1 55 4) = (7 : Int32) then (some ((-1 : Int32), I_1)) else (if am_ix ((0 : Int32) + (I_1 55 4)) 35 = true then (am_let (up2 I_1 72 ((0 : Int32) + (I_1 55 4)).toNatClampNeg a1) (fun (I_8 : am_IT) => am_let (up2 I_8 55 4 ((I_8 55 4) + (1 : Int32))) (fun (I_9 : am_IT) => some ((I_9 55 4) - (1 : Int32), I_9)))) else none))))
set_option maxRecDepth 100000 in
set_option maxHeartbeats 4000000 in
theorem s_X12_wall_55 {l : Launch} {d N : Nat} {P : am_PT} (hPl : am_Pl 94 N P) (hd : 2 ≤ d) {I : am_IT} {a1 : Int32} {r : Int32} {I2 : am_IT} (hF : F_X12_wall_55 I a1 = some (r, I2)) : am_C l d 0 0 mX12_wall [.ref 55, .int a1] N P I (am_qi r N P I2) := by
  refine am_body (sc := am_sc0) (n := 0) (by decide +kernel) (by decide) rfl ?_
  change G am_sc0 l d 0 0 mX12_wall (am_qi r N P I2) 0 [.ref 55, .int a1] [] N P I 0 0
  unfold F_X12_wall_55 at hF
  refine g_aload_n (pc := 0) dX12_wall_0 rfl rfl ?_
  refine g_iconst (pc := 1) (v := (0 : Int32)) dX12_wall_1 rfl ?_
  obtain ⟨I_1, e_I_1, hF⟩ := am_let_el hF
  refine n_putI (pc := 2) (k := 55) e_I_1 kf_X12_134 rfl rfl (hPl.lt (by decide)) dX12_wall_2 ?_
  refine g_aload_n (pc := 5) dX12_wall_5 rfl rfl ?_
  refine g_iload_n (pc := 6) dX12_wall_6 rfl rfl ?_
  obtain ⟨r_3, h_2, hF⟩ := am_b1_el hF
  refine g_cVz (pc := 7) (k := 55) (As := [.int a1]) (st := []) ky_X12_isColour kl_X12_164 (s_X12_isColour_55 (d := 1) (hPl) (Nat.le_refl _) h_2) rfl rfl rfl (hPl.lt (by decide)) (Nat.le_trans (by decide) hd) (Nat.le_of_ble_eq_true rfl) (Nat.le_refl _) (Nat.le_refl _) dX12_wall_7 ?_
  intro z_4
  refine g_if_eq (pc := 10) (tgt := 22) dX12_wall_10 rfl (fun c_5 => ?_) (fun c_5 => ?_)
  · replace hF := am_yes c_5 hF
    refine g_iconst (pc := 22) (v := (-1 : Int32)) dX12_wall_22 (by decide) ?_
    cases hF
    exact g_iret (pc := 23) rfl (Nat.le_refl _) (Nat.le_refl _) dX12_wall_23 ⟨rfl, rfl, rfl, rfl⟩
  · replace hF := am_no c_5 hF
    refine g_aload_n (pc := 13) dX12_wall_13 rfl rfl ?_
    refine g_getI (pc := 14) (k := 55) kf_X12_142.r rfl rfl (hPl.lt (by decide)) dX12_wall_14 ?_
    refine g_bipush (pc := 17) (v := (7 : Int32)) dX12_wall_17 rfl ?_
    refine g_icmp_ne (pc := 19) (tgt := 24) dX12_wall_19 rfl (fun c_6 => ?_) (fun c_6 => ?_)
    · replace hF := am_no c_6 hF
      refine g_aload_n (pc := 24) dX12_wall_24 rfl rfl ?_
      refine g_getR (pc := 25) (k := 55) (r := 72) kf_X12_62.r rfl rfl (hPl.get (by decide) rfl) (hPl.lt (by decide)) dX12_wall_25 ?_
      refine g_iconst (pc := 28) (v := (0 : Int32)) dX12_wall_28 rfl ?_
      refine g_aload_n (pc := 29) dX12_wall_29 rfl rfl ?_
      refine g_getI (pc := 30) (k := 55) kf_X12_142.r rfl rfl (hPl.lt (by decide)) dX12_wall_30 ?_
      refine g_iadd (pc := 33) dX12_wall_33 ?_
      refine g_iload_n (pc := 34) dX12_wall_34 rfl rfl ?_
      obtain ⟨c_7, hF⟩ := am_gd hF
      obtain ⟨I_8, e_I_8, hF⟩ := am_let_el hF
      refine n_iast (pc := 35) (k := 72) e_I_8 rfl (hPl.lt (by decide)) (am_ix_use c_7) dX12_wall_35 ?_
      refine g_aload_n (pc := 36) dX12_wall_36 rfl rfl ?_
      refine g_aload_n (pc := 37) dX12_wall_37 rfl rfl ?_
      refine g_getI (pc := 38) (k := 55) kf_X12_142.r rfl rfl (hPl.lt (by decide)) dX12_wall_38 ?_
      refine g_iconst (pc := 41) (v := (1 : Int32)) dX12_wall_41 rfl ?_
      refine g_iadd (pc := 42) dX12_wall_42 ?_
      obtain ⟨I_9, e_I_9, hF⟩ := am_let_el hF
      refine n_putI (pc := 43) (k := 55) e_I_9 kf_X12_142 rfl rfl (hPl.lt (by decide)) dX12_wall_43 ?_
      refine g_aload_n (pc := 46) dX12_wall_46 rfl rfl ?_
      refine g_getI (pc := 47) (k := 55) kf_X12_142.r rfl rfl (hPl.lt (by decide)) dX12_wall_47 ?_
      refine g_iconst (pc := 50) (v := (1 : Int32)) dX12_wall_50 rfl ?_
      refine g_isub (pc := 51) dX12_wall_51 ?_
      cases hF
      exact g_iret (pc := 52) rfl (Nat.le_refl _) (Nat.le_refl _) dX12_wall_52 ⟨rfl, rfl, rfl, rfl⟩
    · replace hF := am_yes c_6 hF
      refine g_iconst (pc := 22) (v := (-1 : Int32)) dX12_wall_22 (by decide) ?_
      cases hF
      exact g_iret (pc := 23) rfl (Nat.le_refl _) (Nat.le_refl _) dX12_wall_23 ⟨rfl, rfl, rfl, rfl⟩
def F_X12_livesIn_55 (I : am_IT) (a1 : Int32) : Option (Int32) := am_lr (am_it am_fu (fun (l2_1 : Int32) => if (I 55 5) ≤ l2_1 then (some (.inr (.inl ((0 : Int32))))) else (if am_ix l2_1 7 = true then (if (I 57 l2_1.toNatClampNeg) = a1 then (some (.inr (.inr l2_1))) else (am_let (l2_1 + (1 : Int32)) (fun (l2_11 : Int32) => some (.inl (l2_11))))) else none)) (0 : Int32)) (fun (u_2 : Int32) => some (-1 : Int32))
set_option maxRecDepth 100000 in
set_option maxHeartbeats 4000000 in
theorem s_X12_livesIn_55 {l : Launch} {d N : Nat} {P : am_PT} (hPl : am_Pl 94 N P) (hd : 1 ≤ d) {I : am_IT} {a1 : Int32} {r : Int32} (hF : F_X12_livesIn_55 I a1 = some (r)) : am_C l d 0 0 mX12_livesIn [.ref 55, .int a1] N P I (am_qi r N P I) := by
  refine am_body (sc := am_sc0) (n := 1) (by decide +kernel) (by decide) rfl ?_
  change G am_sc0 l d 0 0 mX12_livesIn (am_qi r N P I) 0 [.ref 55, .int a1, .null] [] N P I 0 0
  unfold F_X12_livesIn_55 at hF
  refine g_iconst (pc := 0) (v := (0 : Int32)) dX12_livesIn_0 rfl ?_
  refine n_istore_n (pc := 1) (ls2 := [.ref 55, .int a1, .int (0 : Int32)]) rfl rfl dX12_livesIn_1 rfl (Nat.le_of_ble_eq_true rfl) ?_
  obtain ⟨x_13, hL_6, hF⟩ := am_lr_el hF
  have hX_3 : ∀ (u_2 : Int32), x_13 = .inl u_2 → G am_sc0 l d 0 0 mX12_livesIn (am_qi r N P I) 28 [.ref 55, .int a1, .null] [] N P I 0 0 := by
    intro u_2 q
    subst q
    refine g_iconst (pc := 28) (v := (-1 : Int32)) dX12_livesIn_28 (by decide) ?_
    cases hF
    exact g_iret (pc := 29) rfl (Nat.le_refl _) (Nat.le_refl _) dX12_livesIn_29 ⟨rfl, rfl, rfl, rfl⟩
  have hZ_7 : ∀ y, x_13 = .inr y → y = _ := fun y q => by subst q; exact hF
  clear hF
  have hC := am_loop (C := fun x => G am_sc0 l d 0 0 mX12_livesIn (am_qi r N P I) 2 [.ref 55, .int a1, .int x] [] N P I 0 0) (by
    intro l2_1 rr hF ih_4 hE_5
    refine g_iload_n (pc := 2) dX12_livesIn_2 rfl rfl ?_
    refine g_aload_n (pc := 3) dX12_livesIn_3 rfl rfl ?_
    refine g_getI (pc := 4) (k := 55) kf_X12_145.r rfl rfl (hPl.lt (by decide)) dX12_livesIn_4 ?_
    refine g_icmp_ge (pc := 7) (tgt := 28) dX12_livesIn_7 rfl (fun c_8 => ?_) (fun c_8 => ?_)
    · replace hF := am_yes c_8 hF
      cases hF
      exact g_weak (hX_3 _ (hE_5 _ rfl).symm) ⟨Or.inr rfl, Or.inr rfl, Or.inl rfl, trivial⟩
    · replace hF := am_no c_8 hF
      refine g_aload_n (pc := 10) dX12_livesIn_10 rfl rfl ?_
      refine g_getR (pc := 11) (k := 55) (r := 57) kf_X12_17.r rfl rfl (hPl.get (by decide) rfl) (hPl.lt (by decide)) dX12_livesIn_11 ?_
      refine g_iload_n (pc := 14) dX12_livesIn_14 rfl rfl ?_
      obtain ⟨c_9, hF⟩ := am_gd hF
      refine g_iald (pc := 15) (k := 57) rfl (hPl.lt (by decide)) (am_ix_use c_9) dX12_livesIn_15 ?_
      refine g_iload_n (pc := 16) dX12_livesIn_16 rfl rfl ?_
      refine g_icmp_ne (pc := 17) (tgt := 22) dX12_livesIn_17 rfl (fun c_10 => ?_) (fun c_10 => ?_)
      · replace hF := am_no c_10 hF
        obtain ⟨l2_11, e_l2_11, hF⟩ := am_let_el hF
        refine n_iinc (pc := 22) (ls2 := [.ref 55, .int a1, .int l2_11]) e_l2_11 rfl rfl rfl dX12_livesIn_22 (Nat.le_of_ble_eq_true rfl) ?_
        refine g_goto (pc := 25) (tgt := 2) dX12_livesIn_25 rfl ?_
        cases hF
        exact ih_4 (l2_11) rfl
      · replace hF := am_yes c_10 hF
        refine g_iload_n (pc := 20) dX12_livesIn_20 rfl rfl ?_
        cases hF
        have q_12 := hZ_7 _ (hE_5 _ rfl).symm
        cases q_12
        exact g_iret (pc := 21) rfl (Nat.le_refl _) (Nat.le_refl _) dX12_livesIn_21 ⟨rfl, rfl, rfl, rfl⟩
    ) _ _ hL_6
  exact hC
def F_X12_person_55 (I : am_IT) (a1 : Int32) : Option (Int32 × am_IT) := am_let (up2 I 55 0 (0 : Int32)) (fun (I_1 : am_IT) => am_b1 (F_X12_isHouse_55 I_1 a1) (fun (r_3 : Int32) => if r_3 = 0 then (some ((-1 : Int32), I_1)) else (am_b1 (F_X12_livesIn_55 I_1 a1) (fun (r_7 : Int32) => if r_7 = (-1 : Int32) then (if (I_1 55 5) = (7 : Int32) then (some ((-1 : Int32), I_1)) else (if am_ix (I_1 55 5) 7 = true then (am_let (up2 I_1 57 (I_1 55 5).toNatClampNeg a1) (fun (I_11 : am_IT) => if am_ix (I_11 55 5) 7 = true then (am_let (up2 I_11 65 (I_11 55 5).toNatClampNeg (0 : Int32)) (fun (I_13 : am_IT) => am_b1 (am_it am_fu (am_u2 (fun (l2_14 : Int32) (I_15 : am_IT) => if (4 : Int32) ≤ l2_14 then (some (.inr (I_15))) else (if am_ix (((4 : Int32) * (I_15 55 5)) + l2_14) 28 = true then (am_let (up2 I_15 63 (((4 : Int32) * (I_15 55 5)) + l2_14).toNatClampNeg (0 : Int32)) (fun (I_24 : am_IT) => if am_ix (((4 : Int32) * (I_24 55 5)) + l2_14) 28 = true then (am_let (up2 I_24 64 (((4 : Int32) * (I_24 55 5)) + l2_14).toNatClampNeg (0 : Int32)) (fun (I_26 : am_IT) => am_let (l2_14 + (1 : Int32)) (fun (l2_27 : Int32) => some (.inl (l2_27, I_26))))) else none)) else none))) ((0 : Int32), I_13)) (fun (I_16 : am_IT) => am_let (up2 I_16 55 5 ((I_16 55 5) + (1 : Int32))) (fun (I_28 : am_IT) => some ((I_28 55 5) - (1 : Int32), I_28))))) else none)) else none)) else (some ((-1 : Int32), I_1))))))
set_option maxRecDepth 100000 in
set_option maxHeartbeats 4000000 in
theorem s_X12_person_55 {l : Launch} {d N : Nat} {P : am_PT} (hPl : am_Pl 94 N P) (hd : 2 ≤ d) {I : am_IT} {a1 : Int32} {r : Int32} {I2 : am_IT} (hF : F_X12_person_55 I a1 = some (r, I2)) : am_C l d 0 0 mX12_person [.ref 55, .int a1] N P I (am_qi r N P I2) := by
  refine am_body (sc := am_sc0) (n := 1) (by decide +kernel) (by decide) rfl ?_
  change G am_sc0 l d 0 0 mX12_person (am_qi r N P I2) 0 [.ref 55, .int a1, .null] [] N P I 0 0
  unfold F_X12_person_55 at hF
  refine g_aload_n (pc := 0) dX12_person_0 rfl rfl ?_
  refine g_iconst (pc := 1) (v := (0 : Int32)) dX12_person_1 rfl ?_
  obtain ⟨I_1, e_I_1, hF⟩ := am_let_el hF
  refine n_putI (pc := 2) (k := 55) e_I_1 kf_X12_134 rfl rfl (hPl.lt (by decide)) dX12_person_2 ?_
  refine g_aload_n (pc := 5) dX12_person_5 rfl rfl ?_
  refine g_iload_n (pc := 6) dX12_person_6 rfl rfl ?_
  obtain ⟨r_3, h_2, hF⟩ := am_b1_el hF
  refine g_cVz (pc := 7) (k := 55) (As := [.int a1]) (st := []) ky_X12_isHouse kl_X12_168 (s_X12_isHouse_55 (d := 1) (hPl) (Nat.le_refl _) h_2) rfl rfl rfl (hPl.lt (by decide)) (Nat.le_trans (by decide) hd) (Nat.le_of_ble_eq_true rfl) (Nat.le_refl _) (Nat.le_refl _) dX12_person_7 ?_
  intro z_4
  refine g_if_eq (pc := 10) (tgt := 31) dX12_person_10 rfl (fun c_5 => ?_) (fun c_5 => ?_)
  · replace hF := am_yes c_5 hF
    refine g_iconst (pc := 31) (v := (-1 : Int32)) dX12_person_31 (by decide) ?_
    cases hF
    exact g_iret (pc := 32) rfl (Nat.le_refl _) (Nat.le_refl _) dX12_person_32 ⟨rfl, rfl, rfl, rfl⟩
  · replace hF := am_no c_5 hF
    refine g_aload_n (pc := 13) dX12_person_13 rfl rfl ?_
    refine g_iload_n (pc := 14) dX12_person_14 rfl rfl ?_
    obtain ⟨r_7, h_6, hF⟩ := am_b1_el hF
    refine g_cVi (pc := 15) (k := 55) (As := [.int a1]) (st := []) ky_X12_livesIn kl_X12_171 (s_X12_livesIn_55 (d := 1) (hPl) (Nat.le_refl _) h_6) rfl rfl rfl (hPl.lt (by decide)) (Nat.le_trans (by decide) hd) (Nat.le_of_ble_eq_true rfl) (Nat.le_refl _) (Nat.le_refl _) dX12_person_15 ?_
    refine g_iconst (pc := 18) (v := (-1 : Int32)) dX12_person_18 (by decide) ?_
    refine g_icmp_ne (pc := 19) (tgt := 31) dX12_person_19 rfl (fun c_8 => ?_) (fun c_8 => ?_)
    · replace hF := am_no c_8 hF
      refine g_iconst (pc := 31) (v := (-1 : Int32)) dX12_person_31 (by decide) ?_
      cases hF
      exact g_iret (pc := 32) rfl (Nat.le_refl _) (Nat.le_refl _) dX12_person_32 ⟨rfl, rfl, rfl, rfl⟩
    · replace hF := am_yes c_8 hF
      refine g_aload_n (pc := 22) dX12_person_22 rfl rfl ?_
      refine g_getI (pc := 23) (k := 55) kf_X12_145.r rfl rfl (hPl.lt (by decide)) dX12_person_23 ?_
      refine g_bipush (pc := 26) (v := (7 : Int32)) dX12_person_26 rfl ?_
      refine g_icmp_ne (pc := 28) (tgt := 33) dX12_person_28 rfl (fun c_9 => ?_) (fun c_9 => ?_)
      · replace hF := am_no c_9 hF
        refine g_aload_n (pc := 33) dX12_person_33 rfl rfl ?_
        refine g_getR (pc := 34) (k := 55) (r := 57) kf_X12_17.r rfl rfl (hPl.get (by decide) rfl) (hPl.lt (by decide)) dX12_person_34 ?_
        refine g_aload_n (pc := 37) dX12_person_37 rfl rfl ?_
        refine g_getI (pc := 38) (k := 55) kf_X12_145.r rfl rfl (hPl.lt (by decide)) dX12_person_38 ?_
        refine g_iload_n (pc := 41) dX12_person_41 rfl rfl ?_
        obtain ⟨c_10, hF⟩ := am_gd hF
        obtain ⟨I_11, e_I_11, hF⟩ := am_let_el hF
        refine n_iast (pc := 42) (k := 57) e_I_11 rfl (hPl.lt (by decide)) (am_ix_use c_10) dX12_person_42 ?_
        refine g_aload_n (pc := 43) dX12_person_43 rfl rfl ?_
        refine g_getR (pc := 44) (k := 55) (r := 65) kf_X12_41.r rfl rfl (hPl.get (by decide) rfl) (hPl.lt (by decide)) dX12_person_44 ?_
        refine g_aload_n (pc := 47) dX12_person_47 rfl rfl ?_
        refine g_getI (pc := 48) (k := 55) kf_X12_145.r rfl rfl (hPl.lt (by decide)) dX12_person_48 ?_
        refine g_iconst (pc := 51) (v := (0 : Int32)) dX12_person_51 rfl ?_
        obtain ⟨c_12, hF⟩ := am_gd hF
        obtain ⟨I_13, e_I_13, hF⟩ := am_let_el hF
        refine n_iast (pc := 52) (k := 65) e_I_13 rfl (hPl.lt (by decide)) (am_ix_use c_12) dX12_person_52 ?_
        refine g_iconst (pc := 53) (v := (0 : Int32)) dX12_person_53 rfl ?_
        refine n_istore_n (pc := 54) (ls2 := [.ref 55, .int a1, .int (0 : Int32)]) rfl rfl dX12_person_54 rfl (Nat.le_of_ble_eq_true rfl) ?_
        obtain ⟨I_16, hL_20, hF⟩ := am_b1_el hF
        have hX_17 : G am_sc0 l d 0 0 mX12_person (am_qi r N P I2) 94 [.ref 55, .int a1, .null] [] N P I_16 0 0 := by
          refine g_aload_n (pc := 94) dX12_person_94 rfl rfl ?_
          refine g_aload_n (pc := 95) dX12_person_95 rfl rfl ?_
          refine g_getI (pc := 96) (k := 55) kf_X12_145.r rfl rfl (hPl.lt (by decide)) dX12_person_96 ?_
          refine g_iconst (pc := 99) (v := (1 : Int32)) dX12_person_99 rfl ?_
          refine g_iadd (pc := 100) dX12_person_100 ?_
          obtain ⟨I_28, e_I_28, hF⟩ := am_let_el hF
          refine n_putI (pc := 101) (k := 55) e_I_28 kf_X12_145 rfl rfl (hPl.lt (by decide)) dX12_person_101 ?_
          refine g_aload_n (pc := 104) dX12_person_104 rfl rfl ?_
          refine g_getI (pc := 105) (k := 55) kf_X12_145.r rfl rfl (hPl.lt (by decide)) dX12_person_105 ?_
          refine g_iconst (pc := 108) (v := (1 : Int32)) dX12_person_108 rfl ?_
          refine g_isub (pc := 109) dX12_person_109 ?_
          cases hF
          exact g_iret (pc := 110) rfl (Nat.le_refl _) (Nat.le_refl _) dX12_person_110 ⟨rfl, rfl, rfl, rfl⟩
        clear hF
        have hC := am_loop (C := fun x => G am_sc0 l d 0 0 mX12_person (am_qi r N P I2) 55 [.ref 55, .int a1, .int x.1] [] N P x.2 0 0) (by
          rintro ⟨l2_14, I_15⟩ rr hF ih_18 hE_19
          replace hF := am_u2_ap hF
          change G am_sc0 l d 0 0 mX12_person (am_qi r N P I2) 55 [.ref 55, .int a1, .int l2_14] [] N P I_15 0 0
          refine g_iload_n (pc := 55) dX12_person_55 rfl rfl ?_
          refine g_iconst (pc := 56) (v := (4 : Int32)) dX12_person_56 rfl ?_
          refine g_icmp_ge (pc := 57) (tgt := 94) dX12_person_57 rfl (fun c_22 => ?_) (fun c_22 => ?_)
          · replace hF := am_yes c_22 hF
            cases hF
            cases hE_19 _ rfl
            exact g_weak hX_17 ⟨Or.inr rfl, Or.inr rfl, Or.inl rfl, trivial⟩
          · replace hF := am_no c_22 hF
            refine g_aload_n (pc := 60) dX12_person_60 rfl rfl ?_
            refine g_getR (pc := 61) (k := 55) (r := 63) kf_X12_35.r rfl rfl (hPl.get (by decide) rfl) (hPl.lt (by decide)) dX12_person_61 ?_
            refine g_iconst (pc := 64) (v := (4 : Int32)) dX12_person_64 rfl ?_
            refine g_aload_n (pc := 65) dX12_person_65 rfl rfl ?_
            refine g_getI (pc := 66) (k := 55) kf_X12_145.r rfl rfl (hPl.lt (by decide)) dX12_person_66 ?_
            refine g_imul (pc := 69) dX12_person_69 ?_
            refine g_iload_n (pc := 70) dX12_person_70 rfl rfl ?_
            refine g_iadd (pc := 71) dX12_person_71 ?_
            refine g_iconst (pc := 72) (v := (0 : Int32)) dX12_person_72 rfl ?_
            obtain ⟨c_23, hF⟩ := am_gd hF
            obtain ⟨I_24, e_I_24, hF⟩ := am_let_el hF
            refine n_iast (pc := 73) (k := 63) e_I_24 rfl (hPl.lt (by decide)) (am_ix_use c_23) dX12_person_73 ?_
            refine g_aload_n (pc := 74) dX12_person_74 rfl rfl ?_
            refine g_getR (pc := 75) (k := 55) (r := 64) kf_X12_38.r rfl rfl (hPl.get (by decide) rfl) (hPl.lt (by decide)) dX12_person_75 ?_
            refine g_iconst (pc := 78) (v := (4 : Int32)) dX12_person_78 rfl ?_
            refine g_aload_n (pc := 79) dX12_person_79 rfl rfl ?_
            refine g_getI (pc := 80) (k := 55) kf_X12_145.r rfl rfl (hPl.lt (by decide)) dX12_person_80 ?_
            refine g_imul (pc := 83) dX12_person_83 ?_
            refine g_iload_n (pc := 84) dX12_person_84 rfl rfl ?_
            refine g_iadd (pc := 85) dX12_person_85 ?_
            refine g_iconst (pc := 86) (v := (0 : Int32)) dX12_person_86 rfl ?_
            obtain ⟨c_25, hF⟩ := am_gd hF
            obtain ⟨I_26, e_I_26, hF⟩ := am_let_el hF
            refine n_iast (pc := 87) (k := 64) e_I_26 rfl (hPl.lt (by decide)) (am_ix_use c_25) dX12_person_87 ?_
            obtain ⟨l2_27, e_l2_27, hF⟩ := am_let_el hF
            refine n_iinc (pc := 88) (ls2 := [.ref 55, .int a1, .int l2_27]) e_l2_27 rfl rfl rfl dX12_person_88 (Nat.le_of_ble_eq_true rfl) ?_
            refine g_goto (pc := 91) (tgt := 55) dX12_person_91 rfl ?_
            cases hF
            exact ih_18 (l2_27, I_26) rfl
          ) _ _ hL_20
        exact hC
      · replace hF := am_yes c_9 hF
        refine g_iconst (pc := 31) (v := (-1 : Int32)) dX12_person_31 (by decide) ?_
        cases hF
        exact g_iret (pc := 32) rfl (Nat.le_refl _) (Nat.le_refl _) dX12_person_32 ⟨rfl, rfl, rfl, rfl⟩
def F_X12_move_55 (I : am_IT) (a1 : Int32) (a2 : Int32) : Option (Int32 × am_IT) := am_let (up2 I 55 0 (0 : Int32)) (fun (I_1 : am_IT) => am_b1 (F_X12_isOne_55 I_1 a1) (fun (r_3 : Int32) => if r_3 = 0 then (some ((0 : Int32), I_1)) else (am_b1 (F_X12_isHouse_55 I_1 a2) (fun (r_7 : Int32) => if r_7 = 0 then (some ((0 : Int32), I_1)) else (am_b1 (F_X12_livesIn_55 I_1 a2) (fun (r_11 : Int32) => am_b1 (if r_11 = (-1 : Int32) then (some (I_1)) else (if am_ix a1 7 = true then (if am_ix r_11 7 = true then (am_let (up2 I_1 57 r_11.toNatClampNeg (I_1 57 a1.toNatClampNeg)) (fun (I_18 : am_IT) => some (I_18))) else none) else none)) (fun (I_13 : am_IT) => if am_ix a1 7 = true then (am_let (up2 I_13 57 a1.toNatClampNeg a2) (fun (I_20 : am_IT) => some ((1 : Int32), I_20))) else none)))))))
set_option maxRecDepth 100000 in
set_option maxHeartbeats 4000000 in
theorem s_X12_move_55 {l : Launch} {d N : Nat} {P : am_PT} (hPl : am_Pl 94 N P) (hd : 2 ≤ d) {I : am_IT} {a1 : Int32} {a2 : Int32} {r : Int32} {I2 : am_IT} (hF : F_X12_move_55 I a1 a2 = some (r, I2)) : am_C l d 0 0 mX12_move [.ref 55, .int a1, .int a2] N P I (am_qz r N P I2) := by
  refine am_body (sc := am_sc0) (n := 1) (by decide +kernel) (by decide) rfl ?_
  change G am_sc0 l d 0 0 mX12_move (am_qz r N P I2) 0 [.ref 55, .int a1, .int a2, .null] [] N P I 0 0
  unfold F_X12_move_55 at hF
  refine g_aload_n (pc := 0) dX12_move_0 rfl rfl ?_
  refine g_iconst (pc := 1) (v := (0 : Int32)) dX12_move_1 rfl ?_
  obtain ⟨I_1, e_I_1, hF⟩ := am_let_el hF
  refine n_putI (pc := 2) (k := 55) e_I_1 kf_X12_134 rfl rfl (hPl.lt (by decide)) dX12_move_2 ?_
  refine g_aload_n (pc := 5) dX12_move_5 rfl rfl ?_
  refine g_iload_n (pc := 6) dX12_move_6 rfl rfl ?_
  obtain ⟨r_3, h_2, hF⟩ := am_b1_el hF
  refine g_cVz (pc := 7) (k := 55) (As := [.int a1]) (st := []) ky_X12_isOne kl_X12_175 (s_X12_isOne_55 (d := 1) (hPl) (Nat.le_refl _) h_2) rfl rfl rfl (hPl.lt (by decide)) (Nat.le_trans (by decide) hd) (Nat.le_of_ble_eq_true rfl) (Nat.le_refl _) (Nat.le_refl _) dX12_move_7 ?_
  intro z_4
  refine g_if_eq (pc := 10) (tgt := 21) dX12_move_10 rfl (fun c_5 => ?_) (fun c_5 => ?_)
  · replace hF := am_yes c_5 hF
    refine g_iconst (pc := 21) (v := (0 : Int32)) dX12_move_21 rfl ?_
    cases hF
    exact g_zret (pc := 22) rfl (Or.inl rfl) (Nat.le_refl _) (Nat.le_refl _) dX12_move_22 ⟨(Or.inl rfl), rfl, rfl, rfl, rfl⟩
  · replace hF := am_no c_5 hF
    refine g_aload_n (pc := 13) dX12_move_13 rfl rfl ?_
    refine g_iload_n (pc := 14) dX12_move_14 rfl rfl ?_
    obtain ⟨r_7, h_6, hF⟩ := am_b1_el hF
    refine g_cVz (pc := 15) (k := 55) (As := [.int a2]) (st := []) ky_X12_isHouse kl_X12_168 (s_X12_isHouse_55 (d := 1) (hPl) (Nat.le_refl _) h_6) rfl rfl rfl (hPl.lt (by decide)) (Nat.le_trans (by decide) hd) (Nat.le_of_ble_eq_true rfl) (Nat.le_refl _) (Nat.le_refl _) dX12_move_15 ?_
    intro z_8
    refine g_if_ne (pc := 18) (tgt := 23) dX12_move_18 rfl (fun c_9 => ?_) (fun c_9 => ?_)
    · replace hF := am_no c_9 hF
      refine g_aload_n (pc := 23) dX12_move_23 rfl rfl ?_
      refine g_iload_n (pc := 24) dX12_move_24 rfl rfl ?_
      obtain ⟨r_11, h_10, hF⟩ := am_b1_el hF
      refine g_cVi (pc := 25) (k := 55) (As := [.int a2]) (st := []) ky_X12_livesIn kl_X12_171 (s_X12_livesIn_55 (d := 1) (hPl) (Nat.le_refl _) h_10) rfl rfl rfl (hPl.lt (by decide)) (Nat.le_trans (by decide) hd) (Nat.le_of_ble_eq_true rfl) (Nat.le_refl _) (Nat.le_refl _) dX12_move_25 ?_
      refine n_istore_n (pc := 28) (ls2 := [.ref 55, .int a1, .int a2, .int r_11]) rfl rfl dX12_move_28 rfl (Nat.le_of_ble_eq_true rfl) ?_
      refine g_iload_n (pc := 29) dX12_move_29 rfl rfl ?_
      refine g_iconst (pc := 30) (v := (-1 : Int32)) dX12_move_30 (by decide) ?_
      obtain ⟨I_13, hR_14, hF⟩ := am_b1_el hF
      have hJ_15 : G am_sc0 l d 0 0 mX12_move (am_qz r N P I2) 46 [.ref 55, .int a1, .int a2, .int r_11] [] N P I_13 0 0 := by
        refine g_aload_n (pc := 46) dX12_move_46 rfl rfl ?_
        refine g_getR (pc := 47) (k := 55) (r := 57) kf_X12_17.r rfl rfl (hPl.get (by decide) rfl) (hPl.lt (by decide)) dX12_move_47 ?_
        refine g_iload_n (pc := 50) dX12_move_50 rfl rfl ?_
        refine g_iload_n (pc := 51) dX12_move_51 rfl rfl ?_
        obtain ⟨c_19, hF⟩ := am_gd hF
        obtain ⟨I_20, e_I_20, hF⟩ := am_let_el hF
        refine n_iast (pc := 52) (k := 57) e_I_20 rfl (hPl.lt (by decide)) (am_ix_use c_19) dX12_move_52 ?_
        refine g_iconst (pc := 53) (v := (1 : Int32)) dX12_move_53 rfl ?_
        cases hF
        exact g_zret (pc := 54) rfl (Or.inr rfl) (Nat.le_refl _) (Nat.le_refl _) dX12_move_54 ⟨(Or.inr rfl), rfl, rfl, rfl, rfl⟩
      clear hF
      have hF := hR_14
      clear hR_14
      refine g_icmp_eq (pc := 31) (tgt := 46) dX12_move_31 rfl (fun c_12 => ?_) (fun c_12 => ?_)
      · replace hF := am_yes c_12 hF
        cases hF
        exact hJ_15
      · replace hF := am_no c_12 hF
        refine g_aload_n (pc := 34) dX12_move_34 rfl rfl ?_
        refine g_getR (pc := 35) (k := 55) (r := 57) kf_X12_17.r rfl rfl (hPl.get (by decide) rfl) (hPl.lt (by decide)) dX12_move_35 ?_
        refine g_iload_n (pc := 38) dX12_move_38 rfl rfl ?_
        refine g_aload_n (pc := 39) dX12_move_39 rfl rfl ?_
        refine g_getR (pc := 40) (k := 55) (r := 57) kf_X12_17.r rfl rfl (hPl.get (by decide) rfl) (hPl.lt (by decide)) dX12_move_40 ?_
        refine g_iload_n (pc := 43) dX12_move_43 rfl rfl ?_
        obtain ⟨c_16, hF⟩ := am_gd hF
        refine g_iald (pc := 44) (k := 57) rfl (hPl.lt (by decide)) (am_ix_use c_16) dX12_move_44 ?_
        obtain ⟨c_17, hF⟩ := am_gd hF
        obtain ⟨I_18, e_I_18, hF⟩ := am_let_el hF
        refine n_iast (pc := 45) (k := 57) e_I_18 rfl (hPl.lt (by decide)) (am_ix_use c_17) dX12_move_45 ?_
        cases hF
        exact hJ_15
    · replace hF := am_yes c_9 hF
      refine g_iconst (pc := 21) (v := (0 : Int32)) dX12_move_21 rfl ?_
      cases hF
      exact g_zret (pc := 22) rfl (Or.inl rfl) (Nat.le_refl _) (Nat.le_refl _) dX12_move_22 ⟨(Or.inl rfl), rfl, rfl, rfl, rfl⟩
def F_X12_view_55 (I : am_IT) (a1 : Int32) (a2 : Int32) (a3 : Int32) : Option (Int32 × am_IT) := am_let (up2 I 55 0 (0 : Int32)) (fun (I_1 : am_IT) => am_b1 (F_X12_isHouse_55 I_1 a1) (fun (r_3 : Int32) => if r_3 = 0 then (some ((0 : Int32), I_1)) else (am_b1 (F_X12_isWall_55 I_1 a2) (fun (r_7 : Int32) => if r_7 = 0 then (some ((0 : Int32), I_1)) else (am_b1 (F_X12_isIn_55 I_1 a3 (0 : Int32) (99 : Int32)) (fun (r_11 : Int32) => if r_11 = 0 then (some ((0 : Int32), I_1)) else (if am_ix (((7 : Int32) * a1) + a2) 56 = true then (am_let (up2 I_1 58 (((7 : Int32) * a1) + a2).toNatClampNeg a3) (fun (I_15 : am_IT) => some ((1 : Int32), I_15))) else none)))))))
set_option maxRecDepth 100000 in
set_option maxHeartbeats 4000000 in
theorem s_X12_view_55 {l : Launch} {d N : Nat} {P : am_PT} (hPl : am_Pl 94 N P) (hd : 2 ≤ d) {I : am_IT} {a1 : Int32} {a2 : Int32} {a3 : Int32} {r : Int32} {I2 : am_IT} (hF : F_X12_view_55 I a1 a2 a3 = some (r, I2)) : am_C l d 0 0 mX12_view [.ref 55, .int a1, .int a2, .int a3] N P I (am_qz r N P I2) := by
  refine am_body (sc := am_sc0) (n := 0) (by decide +kernel) (by decide) rfl ?_
  change G am_sc0 l d 0 0 mX12_view (am_qz r N P I2) 0 [.ref 55, .int a1, .int a2, .int a3] [] N P I 0 0
  unfold F_X12_view_55 at hF
  refine g_aload_n (pc := 0) dX12_view_0 rfl rfl ?_
  refine g_iconst (pc := 1) (v := (0 : Int32)) dX12_view_1 rfl ?_
  obtain ⟨I_1, e_I_1, hF⟩ := am_let_el hF
  refine n_putI (pc := 2) (k := 55) e_I_1 kf_X12_134 rfl rfl (hPl.lt (by decide)) dX12_view_2 ?_
  refine g_aload_n (pc := 5) dX12_view_5 rfl rfl ?_
  refine g_iload_n (pc := 6) dX12_view_6 rfl rfl ?_
  obtain ⟨r_3, h_2, hF⟩ := am_b1_el hF
  refine g_cVz (pc := 7) (k := 55) (As := [.int a1]) (st := []) ky_X12_isHouse kl_X12_168 (s_X12_isHouse_55 (d := 1) (hPl) (Nat.le_refl _) h_2) rfl rfl rfl (hPl.lt (by decide)) (Nat.le_trans (by decide) hd) (Nat.le_of_ble_eq_true rfl) (Nat.le_refl _) (Nat.le_refl _) dX12_view_7 ?_
  intro z_4
  refine g_if_eq (pc := 10) (tgt := 32) dX12_view_10 rfl (fun c_5 => ?_) (fun c_5 => ?_)
  · replace hF := am_yes c_5 hF
    refine g_iconst (pc := 32) (v := (0 : Int32)) dX12_view_32 rfl ?_
    cases hF
    exact g_zret (pc := 33) rfl (Or.inl rfl) (Nat.le_refl _) (Nat.le_refl _) dX12_view_33 ⟨(Or.inl rfl), rfl, rfl, rfl, rfl⟩
  · replace hF := am_no c_5 hF
    refine g_aload_n (pc := 13) dX12_view_13 rfl rfl ?_
    refine g_iload_n (pc := 14) dX12_view_14 rfl rfl ?_
    obtain ⟨r_7, h_6, hF⟩ := am_b1_el hF
    refine g_cVz (pc := 15) (k := 55) (As := [.int a2]) (st := []) ky_X12_isWall kl_X12_178 (s_X12_isWall_55 (d := 1) (hPl) (Nat.le_refl _) h_6) rfl rfl rfl (hPl.lt (by decide)) (Nat.le_trans (by decide) hd) (Nat.le_of_ble_eq_true rfl) (Nat.le_refl _) (Nat.le_refl _) dX12_view_15 ?_
    intro z_8
    refine g_if_eq (pc := 18) (tgt := 32) dX12_view_18 rfl (fun c_9 => ?_) (fun c_9 => ?_)
    · replace hF := am_yes c_9 hF
      refine g_iconst (pc := 32) (v := (0 : Int32)) dX12_view_32 rfl ?_
      cases hF
      exact g_zret (pc := 33) rfl (Or.inl rfl) (Nat.le_refl _) (Nat.le_refl _) dX12_view_33 ⟨(Or.inl rfl), rfl, rfl, rfl, rfl⟩
    · replace hF := am_no c_9 hF
      refine g_aload_n (pc := 21) dX12_view_21 rfl rfl ?_
      refine g_iload_n (pc := 22) dX12_view_22 rfl rfl ?_
      refine g_iconst (pc := 23) (v := (0 : Int32)) dX12_view_23 rfl ?_
      refine g_bipush (pc := 24) (v := (99 : Int32)) dX12_view_24 rfl ?_
      obtain ⟨r_11, h_10, hF⟩ := am_b1_el hF
      refine g_cVz (pc := 26) (k := 55) (As := [.int a3, .int (0 : Int32), .int (99 : Int32)]) (st := []) ky_X12_isIn kl_X12_148 (s_X12_isIn_55 (d := 1) (hPl) (Nat.le_refl _) h_10) rfl rfl rfl (hPl.lt (by decide)) (Nat.le_trans (by decide) hd) (Nat.le_of_ble_eq_true rfl) (Nat.le_refl _) (Nat.le_refl _) dX12_view_26 ?_
      intro z_12
      refine g_if_ne (pc := 29) (tgt := 34) dX12_view_29 rfl (fun c_13 => ?_) (fun c_13 => ?_)
      · replace hF := am_no c_13 hF
        refine g_aload_n (pc := 34) dX12_view_34 rfl rfl ?_
        refine g_getR (pc := 35) (k := 55) (r := 58) kf_X12_20.r rfl rfl (hPl.get (by decide) rfl) (hPl.lt (by decide)) dX12_view_35 ?_
        refine g_bipush (pc := 38) (v := (7 : Int32)) dX12_view_38 rfl ?_
        refine g_iload_n (pc := 40) dX12_view_40 rfl rfl ?_
        refine g_imul (pc := 41) dX12_view_41 ?_
        refine g_iload_n (pc := 42) dX12_view_42 rfl rfl ?_
        refine g_iadd (pc := 43) dX12_view_43 ?_
        refine g_iload_n (pc := 44) dX12_view_44 rfl rfl ?_
        obtain ⟨c_14, hF⟩ := am_gd hF
        obtain ⟨I_15, e_I_15, hF⟩ := am_let_el hF
        refine n_iast (pc := 45) (k := 58) e_I_15 rfl (hPl.lt (by decide)) (am_ix_use c_14) dX12_view_45 ?_
        refine g_iconst (pc := 46) (v := (1 : Int32)) dX12_view_46 rfl ?_
        cases hF
        exact g_zret (pc := 47) rfl (Or.inr rfl) (Nat.le_refl _) (Nat.le_refl _) dX12_view_47 ⟨(Or.inr rfl), rfl, rfl, rfl, rfl⟩
      · replace hF := am_yes c_13 hF
        refine g_iconst (pc := 32) (v := (0 : Int32)) dX12_view_32 rfl ?_
        cases hF
        exact g_zret (pc := 33) rfl (Or.inl rfl) (Nat.le_refl _) (Nat.le_refl _) dX12_view_33 ⟨(Or.inl rfl), rfl, rfl, rfl, rfl⟩
def F_X12_tree_55 (I : am_IT) (a1 : Int32) (a2 : Int32) (a3 : Int32) : Option (Int32 × am_IT) := am_let (up2 I 55 0 (0 : Int32)) (fun (I_1 : am_IT) => am_b1 (F_X12_isHouse_55 I_1 a1) (fun (r_3 : Int32) => if r_3 = 0 then (some ((-1 : Int32), I_1)) else (am_b1 (F_X12_isWall_55 I_1 a2) (fun (r_7 : Int32) => if r_7 = 0 then (some ((-1 : Int32), I_1)) else (am_b1 (F_X12_isIn_55 I_1 a3 (0 : Int32) (99 : Int32)) (fun (r_11 : Int32) => if r_11 = 0 then (some ((-1 : Int32), I_1)) else (if (I_1 55 8) = (20 : Int32) then (some ((-1 : Int32), I_1)) else (if am_ix (I_1 55 8) 20 = true then (am_let (up2 I_1 59 (I_1 55 8).toNatClampNeg a1) (fun (I_16 : am_IT) => if am_ix (I_16 55 8) 20 = true then (am_let (up2 I_16 60 (I_16 55 8).toNatClampNeg a2) (fun (I_18 : am_IT) => if am_ix (I_18 55 8) 20 = true then (am_let (up2 I_18 61 (I_18 55 8).toNatClampNeg a3) (fun (I_20 : am_IT) => if am_ix (I_20 55 8) 20 = true then (am_let (up2 I_20 62 (I_20 55 8).toNatClampNeg (I_20 55 13)) (fun (I_22 : am_IT) => am_let (up2 I_22 55 8 ((I_22 55 8) + (1 : Int32))) (fun (I_23 : am_IT) => some ((I_23 55 8) - (1 : Int32), I_23)))) else none)) else none)) else none)) else none))))))))
set_option maxRecDepth 100000 in
set_option maxHeartbeats 4000000 in
theorem s_X12_tree_55 {l : Launch} {d N : Nat} {P : am_PT} (hPl : am_Pl 94 N P) (hd : 2 ≤ d) {I : am_IT} {a1 : Int32} {a2 : Int32} {a3 : Int32} {r : Int32} {I2 : am_IT} (hF : F_X12_tree_55 I a1 a2 a3 = some (r, I2)) : am_C l d 0 0 mX12_tree [.ref 55, .int a1, .int a2, .int a3] N P I (am_qi r N P I2) := by
  refine am_body (sc := am_sc0) (n := 0) (by decide +kernel) (by decide) rfl ?_
  change G am_sc0 l d 0 0 mX12_tree (am_qi r N P I2) 0 [.ref 55, .int a1, .int a2, .int a3] [] N P I 0 0
  unfold F_X12_tree_55 at hF
  refine g_aload_n (pc := 0) dX12_tree_0 rfl rfl ?_
  refine g_iconst (pc := 1) (v := (0 : Int32)) dX12_tree_1 rfl ?_
  obtain ⟨I_1, e_I_1, hF⟩ := am_let_el hF
  refine n_putI (pc := 2) (k := 55) e_I_1 kf_X12_134 rfl rfl (hPl.lt (by decide)) dX12_tree_2 ?_
  refine g_aload_n (pc := 5) dX12_tree_5 rfl rfl ?_
  refine g_iload_n (pc := 6) dX12_tree_6 rfl rfl ?_
  obtain ⟨r_3, h_2, hF⟩ := am_b1_el hF
  refine g_cVz (pc := 7) (k := 55) (As := [.int a1]) (st := []) ky_X12_isHouse kl_X12_168 (s_X12_isHouse_55 (d := 1) (hPl) (Nat.le_refl _) h_2) rfl rfl rfl (hPl.lt (by decide)) (Nat.le_trans (by decide) hd) (Nat.le_of_ble_eq_true rfl) (Nat.le_refl _) (Nat.le_refl _) dX12_tree_7 ?_
  intro z_4
  refine g_if_eq (pc := 10) (tgt := 41) dX12_tree_10 rfl (fun c_5 => ?_) (fun c_5 => ?_)
  · replace hF := am_yes c_5 hF
    refine g_iconst (pc := 41) (v := (-1 : Int32)) dX12_tree_41 (by decide) ?_
    cases hF
    exact g_iret (pc := 42) rfl (Nat.le_refl _) (Nat.le_refl _) dX12_tree_42 ⟨rfl, rfl, rfl, rfl⟩
  · replace hF := am_no c_5 hF
    refine g_aload_n (pc := 13) dX12_tree_13 rfl rfl ?_
    refine g_iload_n (pc := 14) dX12_tree_14 rfl rfl ?_
    obtain ⟨r_7, h_6, hF⟩ := am_b1_el hF
    refine g_cVz (pc := 15) (k := 55) (As := [.int a2]) (st := []) ky_X12_isWall kl_X12_178 (s_X12_isWall_55 (d := 1) (hPl) (Nat.le_refl _) h_6) rfl rfl rfl (hPl.lt (by decide)) (Nat.le_trans (by decide) hd) (Nat.le_of_ble_eq_true rfl) (Nat.le_refl _) (Nat.le_refl _) dX12_tree_15 ?_
    intro z_8
    refine g_if_eq (pc := 18) (tgt := 41) dX12_tree_18 rfl (fun c_9 => ?_) (fun c_9 => ?_)
    · replace hF := am_yes c_9 hF
      refine g_iconst (pc := 41) (v := (-1 : Int32)) dX12_tree_41 (by decide) ?_
      cases hF
      exact g_iret (pc := 42) rfl (Nat.le_refl _) (Nat.le_refl _) dX12_tree_42 ⟨rfl, rfl, rfl, rfl⟩
    · replace hF := am_no c_9 hF
      refine g_aload_n (pc := 21) dX12_tree_21 rfl rfl ?_
      refine g_iload_n (pc := 22) dX12_tree_22 rfl rfl ?_
      refine g_iconst (pc := 23) (v := (0 : Int32)) dX12_tree_23 rfl ?_
      refine g_bipush (pc := 24) (v := (99 : Int32)) dX12_tree_24 rfl ?_
      obtain ⟨r_11, h_10, hF⟩ := am_b1_el hF
      refine g_cVz (pc := 26) (k := 55) (As := [.int a3, .int (0 : Int32), .int (99 : Int32)]) (st := []) ky_X12_isIn kl_X12_148 (s_X12_isIn_55 (d := 1) (hPl) (Nat.le_refl _) h_10) rfl rfl rfl (hPl.lt (by decide)) (Nat.le_trans (by decide) hd) (Nat.le_of_ble_eq_true rfl) (Nat.le_refl _) (Nat.le_refl _) dX12_tree_26 ?_
      intro z_12
      refine g_if_eq (pc := 29) (tgt := 41) dX12_tree_29 rfl (fun c_13 => ?_) (fun c_13 => ?_)
      · replace hF := am_yes c_13 hF
        refine g_iconst (pc := 41) (v := (-1 : Int32)) dX12_tree_41 (by decide) ?_
        cases hF
        exact g_iret (pc := 42) rfl (Nat.le_refl _) (Nat.le_refl _) dX12_tree_42 ⟨rfl, rfl, rfl, rfl⟩
      · replace hF := am_no c_13 hF
        refine g_aload_n (pc := 32) dX12_tree_32 rfl rfl ?_
        refine g_getI (pc := 33) (k := 55) kf_X12_152.r rfl rfl (hPl.lt (by decide)) dX12_tree_33 ?_
        refine g_bipush (pc := 36) (v := (20 : Int32)) dX12_tree_36 rfl ?_
        refine g_icmp_ne (pc := 38) (tgt := 43) dX12_tree_38 rfl (fun c_14 => ?_) (fun c_14 => ?_)
        · replace hF := am_no c_14 hF
          refine g_aload_n (pc := 43) dX12_tree_43 rfl rfl ?_
          refine g_getR (pc := 44) (k := 55) (r := 59) kf_X12_23.r rfl rfl (hPl.get (by decide) rfl) (hPl.lt (by decide)) dX12_tree_44 ?_
          refine g_aload_n (pc := 47) dX12_tree_47 rfl rfl ?_
          refine g_getI (pc := 48) (k := 55) kf_X12_152.r rfl rfl (hPl.lt (by decide)) dX12_tree_48 ?_
          refine g_iload_n (pc := 51) dX12_tree_51 rfl rfl ?_
          obtain ⟨c_15, hF⟩ := am_gd hF
          obtain ⟨I_16, e_I_16, hF⟩ := am_let_el hF
          refine n_iast (pc := 52) (k := 59) e_I_16 rfl (hPl.lt (by decide)) (am_ix_use c_15) dX12_tree_52 ?_
          refine g_aload_n (pc := 53) dX12_tree_53 rfl rfl ?_
          refine g_getR (pc := 54) (k := 55) (r := 60) kf_X12_26.r rfl rfl (hPl.get (by decide) rfl) (hPl.lt (by decide)) dX12_tree_54 ?_
          refine g_aload_n (pc := 57) dX12_tree_57 rfl rfl ?_
          refine g_getI (pc := 58) (k := 55) kf_X12_152.r rfl rfl (hPl.lt (by decide)) dX12_tree_58 ?_
          refine g_iload_n (pc := 61) dX12_tree_61 rfl rfl ?_
          obtain ⟨c_17, hF⟩ := am_gd hF
          obtain ⟨I_18, e_I_18, hF⟩ := am_let_el hF
          refine n_iast (pc := 62) (k := 60) e_I_18 rfl (hPl.lt (by decide)) (am_ix_use c_17) dX12_tree_62 ?_
          refine g_aload_n (pc := 63) dX12_tree_63 rfl rfl ?_
          refine g_getR (pc := 64) (k := 55) (r := 61) kf_X12_29.r rfl rfl (hPl.get (by decide) rfl) (hPl.lt (by decide)) dX12_tree_64 ?_
          refine g_aload_n (pc := 67) dX12_tree_67 rfl rfl ?_
          refine g_getI (pc := 68) (k := 55) kf_X12_152.r rfl rfl (hPl.lt (by decide)) dX12_tree_68 ?_
          refine g_iload_n (pc := 71) dX12_tree_71 rfl rfl ?_
          obtain ⟨c_19, hF⟩ := am_gd hF
          obtain ⟨I_20, e_I_20, hF⟩ := am_let_el hF
          refine n_iast (pc := 72) (k := 61) e_I_20 rfl (hPl.lt (by decide)) (am_ix_use c_19) dX12_tree_72 ?_
          refine g_aload_n (pc := 73) dX12_tree_73 rfl rfl ?_
          refine g_getR (pc := 74) (k := 55) (r := 62) kf_X12_32.r rfl rfl (hPl.get (by decide) rfl) (hPl.lt (by decide)) dX12_tree_74 ?_
          refine g_aload_n (pc := 77) dX12_tree_77 rfl rfl ?_
          refine g_getI (pc := 78) (k := 55) kf_X12_152.r rfl rfl (hPl.lt (by decide)) dX12_tree_78 ?_
          refine g_aload_n (pc := 81) dX12_tree_81 rfl rfl ?_
          refine g_getI (pc := 82) (k := 55) kf_X12_155.r rfl rfl (hPl.lt (by decide)) dX12_tree_82 ?_
          obtain ⟨c_21, hF⟩ := am_gd hF
          obtain ⟨I_22, e_I_22, hF⟩ := am_let_el hF
          refine n_iast (pc := 85) (k := 62) e_I_22 rfl (hPl.lt (by decide)) (am_ix_use c_21) dX12_tree_85 ?_
          refine g_aload_n (pc := 86) dX12_tree_86 rfl rfl ?_
          refine g_aload_n (pc := 87) dX12_tree_87 rfl rfl ?_
          refine g_getI (pc := 88) (k := 55) kf_X12_152.r rfl rfl (hPl.lt (by decide)) dX12_tree_88 ?_
          refine g_iconst (pc := 91) (v := (1 : Int32)) dX12_tree_91 rfl ?_
          refine g_iadd (pc := 92) dX12_tree_92 ?_
          obtain ⟨I_23, e_I_23, hF⟩ := am_let_el hF
          refine n_putI (pc := 93) (k := 55) e_I_23 kf_X12_152 rfl rfl (hPl.lt (by decide)) dX12_tree_93 ?_
          refine g_aload_n (pc := 96) dX12_tree_96 rfl rfl ?_
          refine g_getI (pc := 97) (k := 55) kf_X12_152.r rfl rfl (hPl.lt (by decide)) dX12_tree_97 ?_
          refine g_iconst (pc := 100) (v := (1 : Int32)) dX12_tree_100 rfl ?_
          refine g_isub (pc := 101) dX12_tree_101 ?_
          cases hF
          exact g_iret (pc := 102) rfl (Nat.le_refl _) (Nat.le_refl _) dX12_tree_102 ⟨rfl, rfl, rfl, rfl⟩
        · replace hF := am_yes c_14 hF
          refine g_iconst (pc := 41) (v := (-1 : Int32)) dX12_tree_41 (by decide) ?_
          cases hF
          exact g_iret (pc := 42) rfl (Nat.le_refl _) (Nat.le_refl _) dX12_tree_42 ⟨rfl, rfl, rfl, rfl⟩
def F_X12_tell_55 (I : am_IT) (a1 : Int32) (a2 : Int32) (a3 : Int32) (a4 : Int32) : Option (Int32 × am_IT) := am_let (up2 I 55 0 (0 : Int32)) (fun (I_1 : am_IT) => am_b1 (F_X12_isOne_55 I_1 a1) (fun (r_3 : Int32) => if r_3 = 0 then (some ((0 : Int32), I_1)) else (am_b1 (F_X12_isIn_55 I_1 a2 (0 : Int32) (2 : Int32)) (fun (r_7 : Int32) => if r_7 = 0 then (some ((0 : Int32), I_1)) else (if (2 : Int32) ≤ a2 then (am_b1 (F_X12_isIn_55 I_1 a4 (-9 : Int32) (9 : Int32)) (fun (r_12 : Int32) => if r_12 = 0 then (some ((0 : Int32), I_1)) else (am_let (((4 : Int32) * a1) + a3) (fun (l5_15 : Int32) => if a2 = (2 : Int32) then (if am_ix a1 7 = true then (am_let (up2 I_1 65 a1.toNatClampNeg a4) (fun (I_26 : am_IT) => some ((1 : Int32), I_26))) else none) else (am_b1 (if a2 = 0 then (if am_ix l5_15 28 = true then (am_let (up2 I_1 63 l5_15.toNatClampNeg a4) (fun (I_22 : am_IT) => some (I_22))) else none) else (some (I_1))) (fun (I_18 : am_IT) => if am_ix l5_15 28 = true then (am_let (up2 I_18 64 l5_15.toNatClampNeg a4) (fun (I_24 : am_IT) => some ((1 : Int32), I_24))) else none)))))) else (am_b1 (F_X12_isColour_55 I_1 a3) (fun (r_28 : Int32) => if r_28 = 0 then (some ((0 : Int32), I_1)) else (am_b1 (F_X12_isIn_55 I_1 a4 (-9 : Int32) (9 : Int32)) (fun (r_32 : Int32) => if r_32 = 0 then (some ((0 : Int32), I_1)) else (am_let (((4 : Int32) * a1) + a3) (fun (l5_35 : Int32) => if a2 = (2 : Int32) then (if am_ix a1 7 = true then (am_let (up2 I_1 65 a1.toNatClampNeg a4) (fun (I_46 : am_IT) => some ((1 : Int32), I_46))) else none) else (am_b1 (if a2 = 0 then (if am_ix l5_35 28 = true then (am_let (up2 I_1 63 l5_35.toNatClampNeg a4) (fun (I_42 : am_IT) => some (I_42))) else none) else (some (I_1))) (fun (I_38 : am_IT) => if am_ix l5_35 28 = true then (am_let (up2 I_38 64 l5_35.toNatClampNeg a4) (fun (I_44 : am_IT) => some ((1 : Int32), I_44))) else none)))))))))))))
set_option maxRecDepth 100000 in
set_option maxHeartbeats 4000000 in
theorem s_X12_tell_55 {l : Launch} {d N : Nat} {P : am_PT} (hPl : am_Pl 94 N P) (hd : 2 ≤ d) {I : am_IT} {a1 : Int32} {a2 : Int32} {a3 : Int32} {a4 : Int32} {r : Int32} {I2 : am_IT} (hF : F_X12_tell_55 I a1 a2 a3 a4 = some (r, I2)) : am_C l d 0 0 mX12_tell [.ref 55, .int a1, .int a2, .int a3, .int a4] N P I (am_qz r N P I2) := by
  refine am_body (sc := am_sc0) (n := 1) (by decide +kernel) (by decide) rfl ?_
  change G am_sc0 l d 0 0 mX12_tell (am_qz r N P I2) 0 [.ref 55, .int a1, .int a2, .int a3, .int a4, .null] [] N P I 0 0
  unfold F_X12_tell_55 at hF
  refine g_aload_n (pc := 0) dX12_tell_0 rfl rfl ?_
  refine g_iconst (pc := 1) (v := (0 : Int32)) dX12_tell_1 rfl ?_
  obtain ⟨I_1, e_I_1, hF⟩ := am_let_el hF
  refine n_putI (pc := 2) (k := 55) e_I_1 kf_X12_134 rfl rfl (hPl.lt (by decide)) dX12_tell_2 ?_
  refine g_aload_n (pc := 5) dX12_tell_5 rfl rfl ?_
  refine g_iload_n (pc := 6) dX12_tell_6 rfl rfl ?_
  obtain ⟨r_3, h_2, hF⟩ := am_b1_el hF
  refine g_cVz (pc := 7) (k := 55) (As := [.int a1]) (st := []) ky_X12_isOne kl_X12_175 (s_X12_isOne_55 (d := 1) (hPl) (Nat.le_refl _) h_2) rfl rfl rfl (hPl.lt (by decide)) (Nat.le_trans (by decide) hd) (Nat.le_of_ble_eq_true rfl) (Nat.le_refl _) (Nat.le_refl _) dX12_tell_7 ?_
  intro z_4
  refine g_if_eq (pc := 10) (tgt := 49) dX12_tell_10 rfl (fun c_5 => ?_) (fun c_5 => ?_)
  · replace hF := am_yes c_5 hF
    refine g_iconst (pc := 49) (v := (0 : Int32)) dX12_tell_49 rfl ?_
    cases hF
    exact g_zret (pc := 50) rfl (Or.inl rfl) (Nat.le_refl _) (Nat.le_refl _) dX12_tell_50 ⟨(Or.inl rfl), rfl, rfl, rfl, rfl⟩
  · replace hF := am_no c_5 hF
    refine g_aload_n (pc := 13) dX12_tell_13 rfl rfl ?_
    refine g_iload_n (pc := 14) dX12_tell_14 rfl rfl ?_
    refine g_iconst (pc := 15) (v := (0 : Int32)) dX12_tell_15 rfl ?_
    refine g_iconst (pc := 16) (v := (2 : Int32)) dX12_tell_16 rfl ?_
    obtain ⟨r_7, h_6, hF⟩ := am_b1_el hF
    refine g_cVz (pc := 17) (k := 55) (As := [.int a2, .int (0 : Int32), .int (2 : Int32)]) (st := []) ky_X12_isIn kl_X12_148 (s_X12_isIn_55 (d := 1) (hPl) (Nat.le_refl _) h_6) rfl rfl rfl (hPl.lt (by decide)) (Nat.le_trans (by decide) hd) (Nat.le_of_ble_eq_true rfl) (Nat.le_refl _) (Nat.le_refl _) dX12_tell_17 ?_
    intro z_8
    refine g_if_eq (pc := 20) (tgt := 49) dX12_tell_20 rfl (fun c_9 => ?_) (fun c_9 => ?_)
    · replace hF := am_yes c_9 hF
      refine g_iconst (pc := 49) (v := (0 : Int32)) dX12_tell_49 rfl ?_
      cases hF
      exact g_zret (pc := 50) rfl (Or.inl rfl) (Nat.le_refl _) (Nat.le_refl _) dX12_tell_50 ⟨(Or.inl rfl), rfl, rfl, rfl, rfl⟩
    · replace hF := am_no c_9 hF
      refine g_iload_n (pc := 23) dX12_tell_23 rfl rfl ?_
      refine g_iconst (pc := 24) (v := (2 : Int32)) dX12_tell_24 rfl ?_
      refine g_icmp_ge (pc := 25) (tgt := 36) dX12_tell_25 rfl (fun c_10 => ?_) (fun c_10 => ?_)
      · replace hF := am_yes c_10 hF
        refine g_aload_n (pc := 36) dX12_tell_36 rfl rfl ?_
        refine g_iload (pc := 37) dX12_tell_37 rfl ?_
        refine g_bipush (pc := 39) (v := (-9 : Int32)) dX12_tell_39 (by decide) ?_
        refine g_bipush (pc := 41) (v := (9 : Int32)) dX12_tell_41 rfl ?_
        obtain ⟨r_12, h_11, hF⟩ := am_b1_el hF
        refine g_cVz (pc := 43) (k := 55) (As := [.int a4, .int (-9 : Int32), .int (9 : Int32)]) (st := []) ky_X12_isIn kl_X12_148 (s_X12_isIn_55 (d := 1) (hPl) (Nat.le_refl _) h_11) rfl rfl rfl (hPl.lt (by decide)) (Nat.le_trans (by decide) hd) (Nat.le_of_ble_eq_true rfl) (Nat.le_refl _) (Nat.le_refl _) dX12_tell_43 ?_
        intro z_13
        refine g_if_ne (pc := 46) (tgt := 51) dX12_tell_46 rfl (fun c_14 => ?_) (fun c_14 => ?_)
        · replace hF := am_no c_14 hF
          refine g_iconst (pc := 51) (v := (4 : Int32)) dX12_tell_51 rfl ?_
          refine g_iload_n (pc := 52) dX12_tell_52 rfl rfl ?_
          refine g_imul (pc := 53) dX12_tell_53 ?_
          refine g_iload_n (pc := 54) dX12_tell_54 rfl rfl ?_
          refine g_iadd (pc := 55) dX12_tell_55 ?_
          obtain ⟨l5_15, e_l5_15, hF⟩ := am_let_el hF
          refine n_istore (pc := 56) (ls2 := [.ref 55, .int a1, .int a2, .int a3, .int a4, .int l5_15]) e_l5_15 rfl dX12_tell_56 (Nat.le_of_ble_eq_true rfl) ?_
          refine g_iload_n (pc := 58) dX12_tell_58 rfl rfl ?_
          refine g_iconst (pc := 59) (v := (2 : Int32)) dX12_tell_59 rfl ?_
          refine g_icmp_ne (pc := 60) (tgt := 73) dX12_tell_60 rfl (fun c_16 => ?_) (fun c_16 => ?_)
          · replace hF := am_no c_16 hF
            refine g_iload_n (pc := 73) dX12_tell_73 rfl rfl ?_
            obtain ⟨I_18, hR_19, hF⟩ := am_b1_el hF
            have hJ_20 : G am_sc0 l d 0 0 mX12_tell (am_qz r N P I2) 86 [.ref 55, .int a1, .int a2, .int a3, .int a4, .int l5_15] [] N P I_18 0 0 := by
              refine g_aload_n (pc := 86) dX12_tell_86 rfl rfl ?_
              refine g_getR (pc := 87) (k := 55) (r := 64) kf_X12_38.r rfl rfl (hPl.get (by decide) rfl) (hPl.lt (by decide)) dX12_tell_87 ?_
              refine g_iload (pc := 90) dX12_tell_90 rfl ?_
              refine g_iload (pc := 92) dX12_tell_92 rfl ?_
              obtain ⟨c_23, hF⟩ := am_gd hF
              obtain ⟨I_24, e_I_24, hF⟩ := am_let_el hF
              refine n_iast (pc := 94) (k := 64) e_I_24 rfl (hPl.lt (by decide)) (am_ix_use c_23) dX12_tell_94 ?_
              refine g_iconst (pc := 95) (v := (1 : Int32)) dX12_tell_95 rfl ?_
              cases hF
              exact g_zret (pc := 96) rfl (Or.inr rfl) (Nat.le_refl _) (Nat.le_refl _) dX12_tell_96 ⟨(Or.inr rfl), rfl, rfl, rfl, rfl⟩
            clear hF
            have hF := hR_19
            clear hR_19
            refine g_if_ne (pc := 74) (tgt := 86) dX12_tell_74 rfl (fun c_17 => ?_) (fun c_17 => ?_)
            · replace hF := am_no c_17 hF
              cases hF
              exact hJ_20
            · replace hF := am_yes c_17 hF
              refine g_aload_n (pc := 77) dX12_tell_77 rfl rfl ?_
              refine g_getR (pc := 78) (k := 55) (r := 63) kf_X12_35.r rfl rfl (hPl.get (by decide) rfl) (hPl.lt (by decide)) dX12_tell_78 ?_
              refine g_iload (pc := 81) dX12_tell_81 rfl ?_
              refine g_iload (pc := 83) dX12_tell_83 rfl ?_
              obtain ⟨c_21, hF⟩ := am_gd hF
              obtain ⟨I_22, e_I_22, hF⟩ := am_let_el hF
              refine n_iast (pc := 85) (k := 63) e_I_22 rfl (hPl.lt (by decide)) (am_ix_use c_21) dX12_tell_85 ?_
              cases hF
              exact hJ_20
          · replace hF := am_yes c_16 hF
            refine g_aload_n (pc := 63) dX12_tell_63 rfl rfl ?_
            refine g_getR (pc := 64) (k := 55) (r := 65) kf_X12_41.r rfl rfl (hPl.get (by decide) rfl) (hPl.lt (by decide)) dX12_tell_64 ?_
            refine g_iload_n (pc := 67) dX12_tell_67 rfl rfl ?_
            refine g_iload (pc := 68) dX12_tell_68 rfl ?_
            obtain ⟨c_25, hF⟩ := am_gd hF
            obtain ⟨I_26, e_I_26, hF⟩ := am_let_el hF
            refine n_iast (pc := 70) (k := 65) e_I_26 rfl (hPl.lt (by decide)) (am_ix_use c_25) dX12_tell_70 ?_
            refine g_iconst (pc := 71) (v := (1 : Int32)) dX12_tell_71 rfl ?_
            cases hF
            exact g_zret (pc := 72) rfl (Or.inr rfl) (Nat.le_refl _) (Nat.le_refl _) dX12_tell_72 ⟨(Or.inr rfl), rfl, rfl, rfl, rfl⟩
        · replace hF := am_yes c_14 hF
          refine g_iconst (pc := 49) (v := (0 : Int32)) dX12_tell_49 rfl ?_
          cases hF
          exact g_zret (pc := 50) rfl (Or.inl rfl) (Nat.le_refl _) (Nat.le_refl _) dX12_tell_50 ⟨(Or.inl rfl), rfl, rfl, rfl, rfl⟩
      · replace hF := am_no c_10 hF
        refine g_aload_n (pc := 28) dX12_tell_28 rfl rfl ?_
        refine g_iload_n (pc := 29) dX12_tell_29 rfl rfl ?_
        obtain ⟨r_28, h_27, hF⟩ := am_b1_el hF
        refine g_cVz (pc := 30) (k := 55) (As := [.int a3]) (st := []) ky_X12_isColour kl_X12_164 (s_X12_isColour_55 (d := 1) (hPl) (Nat.le_refl _) h_27) rfl rfl rfl (hPl.lt (by decide)) (Nat.le_trans (by decide) hd) (Nat.le_of_ble_eq_true rfl) (Nat.le_refl _) (Nat.le_refl _) dX12_tell_30 ?_
        intro z_29
        refine g_if_eq (pc := 33) (tgt := 49) dX12_tell_33 rfl (fun c_30 => ?_) (fun c_30 => ?_)
        · replace hF := am_yes c_30 hF
          refine g_iconst (pc := 49) (v := (0 : Int32)) dX12_tell_49 rfl ?_
          cases hF
          exact g_zret (pc := 50) rfl (Or.inl rfl) (Nat.le_refl _) (Nat.le_refl _) dX12_tell_50 ⟨(Or.inl rfl), rfl, rfl, rfl, rfl⟩
        · replace hF := am_no c_30 hF
          refine g_aload_n (pc := 36) dX12_tell_36 rfl rfl ?_
          refine g_iload (pc := 37) dX12_tell_37 rfl ?_
          refine g_bipush (pc := 39) (v := (-9 : Int32)) dX12_tell_39 (by decide) ?_
          refine g_bipush (pc := 41) (v := (9 : Int32)) dX12_tell_41 rfl ?_
          obtain ⟨r_32, h_31, hF⟩ := am_b1_el hF
          refine g_cVz (pc := 43) (k := 55) (As := [.int a4, .int (-9 : Int32), .int (9 : Int32)]) (st := []) ky_X12_isIn kl_X12_148 (s_X12_isIn_55 (d := 1) (hPl) (Nat.le_refl _) h_31) rfl rfl rfl (hPl.lt (by decide)) (Nat.le_trans (by decide) hd) (Nat.le_of_ble_eq_true rfl) (Nat.le_refl _) (Nat.le_refl _) dX12_tell_43 ?_
          intro z_33
          refine g_if_ne (pc := 46) (tgt := 51) dX12_tell_46 rfl (fun c_34 => ?_) (fun c_34 => ?_)
          · replace hF := am_no c_34 hF
            refine g_iconst (pc := 51) (v := (4 : Int32)) dX12_tell_51 rfl ?_
            refine g_iload_n (pc := 52) dX12_tell_52 rfl rfl ?_
            refine g_imul (pc := 53) dX12_tell_53 ?_
            refine g_iload_n (pc := 54) dX12_tell_54 rfl rfl ?_
            refine g_iadd (pc := 55) dX12_tell_55 ?_
            obtain ⟨l5_35, e_l5_35, hF⟩ := am_let_el hF
            refine n_istore (pc := 56) (ls2 := [.ref 55, .int a1, .int a2, .int a3, .int a4, .int l5_35]) e_l5_35 rfl dX12_tell_56 (Nat.le_of_ble_eq_true rfl) ?_
            refine g_iload_n (pc := 58) dX12_tell_58 rfl rfl ?_
            refine g_iconst (pc := 59) (v := (2 : Int32)) dX12_tell_59 rfl ?_
            refine g_icmp_ne (pc := 60) (tgt := 73) dX12_tell_60 rfl (fun c_36 => ?_) (fun c_36 => ?_)
            · replace hF := am_no c_36 hF
              refine g_iload_n (pc := 73) dX12_tell_73 rfl rfl ?_
              obtain ⟨I_38, hR_39, hF⟩ := am_b1_el hF
              have hJ_40 : G am_sc0 l d 0 0 mX12_tell (am_qz r N P I2) 86 [.ref 55, .int a1, .int a2, .int a3, .int a4, .int l5_35] [] N P I_38 0 0 := by
                refine g_aload_n (pc := 86) dX12_tell_86 rfl rfl ?_
                refine g_getR (pc := 87) (k := 55) (r := 64) kf_X12_38.r rfl rfl (hPl.get (by decide) rfl) (hPl.lt (by decide)) dX12_tell_87 ?_
                refine g_iload (pc := 90) dX12_tell_90 rfl ?_
                refine g_iload (pc := 92) dX12_tell_92 rfl ?_
                obtain ⟨c_43, hF⟩ := am_gd hF
                obtain ⟨I_44, e_I_44, hF⟩ := am_let_el hF
                refine n_iast (pc := 94) (k := 64) e_I_44 rfl (hPl.lt (by decide)) (am_ix_use c_43) dX12_tell_94 ?_
                refine g_iconst (pc := 95) (v := (1 : Int32)) dX12_tell_95 rfl ?_
                cases hF
                exact g_zret (pc := 96) rfl (Or.inr rfl) (Nat.le_refl _) (Nat.le_refl _) dX12_tell_96 ⟨(Or.inr rfl), rfl, rfl, rfl, rfl⟩
              clear hF
              have hF := hR_39
              clear hR_39
              refine g_if_ne (pc := 74) (tgt := 86) dX12_tell_74 rfl (fun c_37 => ?_) (fun c_37 => ?_)
              · replace hF := am_no c_37 hF
                cases hF
                exact hJ_40
              · replace hF := am_yes c_37 hF
                refine g_aload_n (pc := 77) dX12_tell_77 rfl rfl ?_
                refine g_getR (pc := 78) (k := 55) (r := 63) kf_X12_35.r rfl rfl (hPl.get (by decide) rfl) (hPl.lt (by decide)) dX12_tell_78 ?_
                refine g_iload (pc := 81) dX12_tell_81 rfl ?_
                refine g_iload (pc := 83) dX12_tell_83 rfl ?_
                obtain ⟨c_41, hF⟩ := am_gd hF
                obtain ⟨I_42, e_I_42, hF⟩ := am_let_el hF
                refine n_iast (pc := 85) (k := 63) e_I_42 rfl (hPl.lt (by decide)) (am_ix_use c_41) dX12_tell_85 ?_
                cases hF
                exact hJ_40
            · replace hF := am_yes c_36 hF
              refine g_aload_n (pc := 63) dX12_tell_63 rfl rfl ?_
              refine g_getR (pc := 64) (k := 55) (r := 65) kf_X12_41.r rfl rfl (hPl.get (by decide) rfl) (hPl.lt (by decide)) dX12_tell_64 ?_
              refine g_iload_n (pc := 67) dX12_tell_67 rfl rfl ?_
              refine g_iload (pc := 68) dX12_tell_68 rfl ?_
              obtain ⟨c_45, hF⟩ := am_gd hF
              obtain ⟨I_46, e_I_46, hF⟩ := am_let_el hF
              refine n_iast (pc := 70) (k := 65) e_I_46 rfl (hPl.lt (by decide)) (am_ix_use c_45) dX12_tell_70 ?_
              refine g_iconst (pc := 71) (v := (1 : Int32)) dX12_tell_71 rfl ?_
              cases hF
              exact g_zret (pc := 72) rfl (Or.inr rfl) (Nat.le_refl _) (Nat.le_refl _) dX12_tell_72 ⟨(Or.inr rfl), rfl, rfl, rfl, rfl⟩
          · replace hF := am_yes c_34 hF
            refine g_iconst (pc := 49) (v := (0 : Int32)) dX12_tell_49 rfl ?_
            cases hF
            exact g_zret (pc := 50) rfl (Or.inl rfl) (Nat.le_refl _) (Nat.le_refl _) dX12_tell_50 ⟨(Or.inl rfl), rfl, rfl, rfl, rfl⟩
def F_X12_beside_55 (I : am_IT) (a1 : Int32) (a2 : Int32) (a3 : Int32) : Option (Int32 × am_IT) := am_let (up2 I 55 0 (0 : Int32)) (fun (I_1 : am_IT) => am_b1 (F_X12_isWall_55 I_1 a1) (fun (r_3 : Int32) => if r_3 = 0 then (some ((0 : Int32), I_1)) else (am_b1 (F_X12_isWall_55 I_1 a2) (fun (r_7 : Int32) => if r_7 = 0 then (some ((0 : Int32), I_1)) else (if a1 = a2 then (some ((0 : Int32), I_1)) else (am_b1 (if a3 = 0 then (some ((0 : Int32))) else (some ((1 : Int32)))) (fun (v_12 : Int32) => if am_ix (((7 : Int32) * a1) + a2) 49 = true then (am_let (up2 I_1 66 (((7 : Int32) * a1) + a2).toNatClampNeg v_12) (fun (I_16 : am_IT) => if a3 = 0 then (if am_ix (((7 : Int32) * a2) + a1) 49 = true then (am_let (up2 I_16 66 (((7 : Int32) * a2) + a1).toNatClampNeg (0 : Int32)) (fun (I_19 : am_IT) => some ((1 : Int32), I_19))) else none) else (if am_ix (((7 : Int32) * a2) + a1) 49 = true then (am_let (up2 I_16 66 (((7 : Int32) * a2) + a1).toNatClampNeg (1 : Int32)) (fun (I_21 : am_IT) => some ((1 : Int32), I_21))) else none))) else none)))))))
set_option maxRecDepth 100000 in
set_option maxHeartbeats 4000000 in
theorem s_X12_beside_55 {l : Launch} {d N : Nat} {P : am_PT} (hPl : am_Pl 94 N P) (hd : 2 ≤ d) {I : am_IT} {a1 : Int32} {a2 : Int32} {a3 : Int32} {r : Int32} {I2 : am_IT} (hF : F_X12_beside_55 I a1 a2 a3 = some (r, I2)) : am_C l d 0 0 mX12_beside [.ref 55, .int a1, .int a2, .int a3] N P I (am_qz r N P I2) := by
  refine am_body (sc := am_sc0) (n := 0) (by decide +kernel) (by decide) rfl ?_
  change G am_sc0 l d 0 0 mX12_beside (am_qz r N P I2) 0 [.ref 55, .int a1, .int a2, .int a3] [] N P I 0 0
  unfold F_X12_beside_55 at hF
  refine g_aload_n (pc := 0) dX12_beside_0 rfl rfl ?_
  refine g_iconst (pc := 1) (v := (0 : Int32)) dX12_beside_1 rfl ?_
  obtain ⟨I_1, e_I_1, hF⟩ := am_let_el hF
  refine n_putI (pc := 2) (k := 55) e_I_1 kf_X12_134 rfl rfl (hPl.lt (by decide)) dX12_beside_2 ?_
  refine g_aload_n (pc := 5) dX12_beside_5 rfl rfl ?_
  refine g_iload_n (pc := 6) dX12_beside_6 rfl rfl ?_
  obtain ⟨r_3, h_2, hF⟩ := am_b1_el hF
  refine g_cVz (pc := 7) (k := 55) (As := [.int a1]) (st := []) ky_X12_isWall kl_X12_178 (s_X12_isWall_55 (d := 1) (hPl) (Nat.le_refl _) h_2) rfl rfl rfl (hPl.lt (by decide)) (Nat.le_trans (by decide) hd) (Nat.le_of_ble_eq_true rfl) (Nat.le_refl _) (Nat.le_refl _) dX12_beside_7 ?_
  intro z_4
  refine g_if_eq (pc := 10) (tgt := 26) dX12_beside_10 rfl (fun c_5 => ?_) (fun c_5 => ?_)
  · replace hF := am_yes c_5 hF
    refine g_iconst (pc := 26) (v := (0 : Int32)) dX12_beside_26 rfl ?_
    cases hF
    exact g_zret (pc := 27) rfl (Or.inl rfl) (Nat.le_refl _) (Nat.le_refl _) dX12_beside_27 ⟨(Or.inl rfl), rfl, rfl, rfl, rfl⟩
  · replace hF := am_no c_5 hF
    refine g_aload_n (pc := 13) dX12_beside_13 rfl rfl ?_
    refine g_iload_n (pc := 14) dX12_beside_14 rfl rfl ?_
    obtain ⟨r_7, h_6, hF⟩ := am_b1_el hF
    refine g_cVz (pc := 15) (k := 55) (As := [.int a2]) (st := []) ky_X12_isWall kl_X12_178 (s_X12_isWall_55 (d := 1) (hPl) (Nat.le_refl _) h_6) rfl rfl rfl (hPl.lt (by decide)) (Nat.le_trans (by decide) hd) (Nat.le_of_ble_eq_true rfl) (Nat.le_refl _) (Nat.le_refl _) dX12_beside_15 ?_
    intro z_8
    refine g_if_eq (pc := 18) (tgt := 26) dX12_beside_18 rfl (fun c_9 => ?_) (fun c_9 => ?_)
    · replace hF := am_yes c_9 hF
      refine g_iconst (pc := 26) (v := (0 : Int32)) dX12_beside_26 rfl ?_
      cases hF
      exact g_zret (pc := 27) rfl (Or.inl rfl) (Nat.le_refl _) (Nat.le_refl _) dX12_beside_27 ⟨(Or.inl rfl), rfl, rfl, rfl, rfl⟩
    · replace hF := am_no c_9 hF
      refine g_iload_n (pc := 21) dX12_beside_21 rfl rfl ?_
      refine g_iload_n (pc := 22) dX12_beside_22 rfl rfl ?_
      refine g_icmp_ne (pc := 23) (tgt := 28) dX12_beside_23 rfl (fun c_10 => ?_) (fun c_10 => ?_)
      · replace hF := am_no c_10 hF
        refine g_aload_n (pc := 28) dX12_beside_28 rfl rfl ?_
        refine g_getR (pc := 29) (k := 55) (r := 66) kf_X12_44.r rfl rfl (hPl.get (by decide) rfl) (hPl.lt (by decide)) dX12_beside_29 ?_
        refine g_bipush (pc := 32) (v := (7 : Int32)) dX12_beside_32 rfl ?_
        refine g_iload_n (pc := 34) dX12_beside_34 rfl rfl ?_
        refine g_imul (pc := 35) dX12_beside_35 ?_
        refine g_iload_n (pc := 36) dX12_beside_36 rfl rfl ?_
        refine g_iadd (pc := 37) dX12_beside_37 ?_
        refine g_iload_n (pc := 38) dX12_beside_38 rfl rfl ?_
        obtain ⟨v_12, hR_13, hF⟩ := am_b1_el hF
        have hJ_14 : G am_sc0 l d 0 0 mX12_beside (am_qz r N P I2) 47 [.ref 55, .int a1, .int a2, .int a3] [.int v_12, .int (((7 : Int32) * a1) + a2), .ref 66] N P I_1 0 0 := by
          obtain ⟨c_15, hF⟩ := am_gd hF
          obtain ⟨I_16, e_I_16, hF⟩ := am_let_el hF
          refine n_iast (pc := 47) (k := 66) e_I_16 rfl (hPl.lt (by decide)) (am_ix_use c_15) dX12_beside_47 ?_
          refine g_aload_n (pc := 48) dX12_beside_48 rfl rfl ?_
          refine g_getR (pc := 49) (k := 55) (r := 66) kf_X12_44.r rfl rfl (hPl.get (by decide) rfl) (hPl.lt (by decide)) dX12_beside_49 ?_
          refine g_bipush (pc := 52) (v := (7 : Int32)) dX12_beside_52 rfl ?_
          refine g_iload_n (pc := 54) dX12_beside_54 rfl rfl ?_
          refine g_imul (pc := 55) dX12_beside_55 ?_
          refine g_iload_n (pc := 56) dX12_beside_56 rfl rfl ?_
          refine g_iadd (pc := 57) dX12_beside_57 ?_
          refine g_iload_n (pc := 58) dX12_beside_58 rfl rfl ?_
          refine g_if_eq (pc := 59) (tgt := 66) dX12_beside_59 rfl (fun c_17 => ?_) (fun c_17 => ?_)
          · replace hF := am_yes c_17 hF
            refine g_iconst (pc := 66) (v := (0 : Int32)) dX12_beside_66 rfl ?_
            obtain ⟨c_18, hF⟩ := am_gd hF
            obtain ⟨I_19, e_I_19, hF⟩ := am_let_el hF
            refine n_iast (pc := 67) (k := 66) e_I_19 rfl (hPl.lt (by decide)) (am_ix_use c_18) dX12_beside_67 ?_
            refine g_iconst (pc := 68) (v := (1 : Int32)) dX12_beside_68 rfl ?_
            cases hF
            exact g_zret (pc := 69) rfl (Or.inr rfl) (Nat.le_refl _) (Nat.le_refl _) dX12_beside_69 ⟨(Or.inr rfl), rfl, rfl, rfl, rfl⟩
          · replace hF := am_no c_17 hF
            refine g_iconst (pc := 62) (v := (1 : Int32)) dX12_beside_62 rfl ?_
            refine g_goto (pc := 63) (tgt := 67) dX12_beside_63 rfl ?_
            obtain ⟨c_20, hF⟩ := am_gd hF
            obtain ⟨I_21, e_I_21, hF⟩ := am_let_el hF
            refine n_iast (pc := 67) (k := 66) e_I_21 rfl (hPl.lt (by decide)) (am_ix_use c_20) dX12_beside_67 ?_
            refine g_iconst (pc := 68) (v := (1 : Int32)) dX12_beside_68 rfl ?_
            cases hF
            exact g_zret (pc := 69) rfl (Or.inr rfl) (Nat.le_refl _) (Nat.le_refl _) dX12_beside_69 ⟨(Or.inr rfl), rfl, rfl, rfl, rfl⟩
        clear hF
        have hF := hR_13
        clear hR_13
        refine g_if_eq (pc := 39) (tgt := 46) dX12_beside_39 rfl (fun c_11 => ?_) (fun c_11 => ?_)
        · replace hF := am_yes c_11 hF
          refine g_iconst (pc := 46) (v := (0 : Int32)) dX12_beside_46 rfl ?_
          cases hF
          exact hJ_14
        · replace hF := am_no c_11 hF
          refine g_iconst (pc := 42) (v := (1 : Int32)) dX12_beside_42 rfl ?_
          refine g_goto (pc := 43) (tgt := 47) dX12_beside_43 rfl ?_
          cases hF
          exact hJ_14
      · replace hF := am_yes c_10 hF
        refine g_iconst (pc := 26) (v := (0 : Int32)) dX12_beside_26 rfl ?_
        cases hF
        exact g_zret (pc := 27) rfl (Or.inl rfl) (Nat.le_refl _) (Nat.le_refl _) dX12_beside_27 ⟨(Or.inl rfl), rfl, rfl, rfl, rfl⟩
def F_X12_paint_55 (I : am_IT) (a1 : Int32) (a2 : Int32) : Option (Int32 × am_IT) := am_let (up2 I 55 0 (0 : Int32)) (fun (I_1 : am_IT) => am_b1 (F_X12_isWall_55 I_1 a1) (fun (r_3 : Int32) => if r_3 = 0 then (some ((0 : Int32), I_1)) else (am_b1 (F_X12_isColour_55 I_1 a2) (fun (r_7 : Int32) => if r_7 = 0 then (some ((0 : Int32), I_1)) else (if am_ix ((0 : Int32) + a1) 35 = true then (am_let (up2 I_1 72 ((0 : Int32) + a1).toNatClampNeg a2) (fun (I_11 : am_IT) => some ((1 : Int32), I_11))) else none)))))
set_option maxRecDepth 100000 in
set_option maxHeartbeats 4000000 in
theorem s_X12_paint_55 {l : Launch} {d N : Nat} {P : am_PT} (hPl : am_Pl 94 N P) (hd : 2 ≤ d) {I : am_IT} {a1 : Int32} {a2 : Int32} {r : Int32} {I2 : am_IT} (hF : F_X12_paint_55 I a1 a2 = some (r, I2)) : am_C l d 0 0 mX12_paint [.ref 55, .int a1, .int a2] N P I (am_qz r N P I2) := by
  refine am_body (sc := am_sc0) (n := 0) (by decide +kernel) (by decide) rfl ?_
  change G am_sc0 l d 0 0 mX12_paint (am_qz r N P I2) 0 [.ref 55, .int a1, .int a2] [] N P I 0 0
  unfold F_X12_paint_55 at hF
  refine g_aload_n (pc := 0) dX12_paint_0 rfl rfl ?_
  refine g_iconst (pc := 1) (v := (0 : Int32)) dX12_paint_1 rfl ?_
  obtain ⟨I_1, e_I_1, hF⟩ := am_let_el hF
  refine n_putI (pc := 2) (k := 55) e_I_1 kf_X12_134 rfl rfl (hPl.lt (by decide)) dX12_paint_2 ?_
  refine g_aload_n (pc := 5) dX12_paint_5 rfl rfl ?_
  refine g_iload_n (pc := 6) dX12_paint_6 rfl rfl ?_
  obtain ⟨r_3, h_2, hF⟩ := am_b1_el hF
  refine g_cVz (pc := 7) (k := 55) (As := [.int a1]) (st := []) ky_X12_isWall kl_X12_178 (s_X12_isWall_55 (d := 1) (hPl) (Nat.le_refl _) h_2) rfl rfl rfl (hPl.lt (by decide)) (Nat.le_trans (by decide) hd) (Nat.le_of_ble_eq_true rfl) (Nat.le_refl _) (Nat.le_refl _) dX12_paint_7 ?_
  intro z_4
  refine g_if_eq (pc := 10) (tgt := 21) dX12_paint_10 rfl (fun c_5 => ?_) (fun c_5 => ?_)
  · replace hF := am_yes c_5 hF
    refine g_iconst (pc := 21) (v := (0 : Int32)) dX12_paint_21 rfl ?_
    cases hF
    exact g_zret (pc := 22) rfl (Or.inl rfl) (Nat.le_refl _) (Nat.le_refl _) dX12_paint_22 ⟨(Or.inl rfl), rfl, rfl, rfl, rfl⟩
  · replace hF := am_no c_5 hF
    refine g_aload_n (pc := 13) dX12_paint_13 rfl rfl ?_
    refine g_iload_n (pc := 14) dX12_paint_14 rfl rfl ?_
    obtain ⟨r_7, h_6, hF⟩ := am_b1_el hF
    refine g_cVz (pc := 15) (k := 55) (As := [.int a2]) (st := []) ky_X12_isColour kl_X12_164 (s_X12_isColour_55 (d := 1) (hPl) (Nat.le_refl _) h_6) rfl rfl rfl (hPl.lt (by decide)) (Nat.le_trans (by decide) hd) (Nat.le_of_ble_eq_true rfl) (Nat.le_refl _) (Nat.le_refl _) dX12_paint_15 ?_
    intro z_8
    refine g_if_ne (pc := 18) (tgt := 23) dX12_paint_18 rfl (fun c_9 => ?_) (fun c_9 => ?_)
    · replace hF := am_no c_9 hF
      refine g_aload_n (pc := 23) dX12_paint_23 rfl rfl ?_
      refine g_getR (pc := 24) (k := 55) (r := 72) kf_X12_62.r rfl rfl (hPl.get (by decide) rfl) (hPl.lt (by decide)) dX12_paint_24 ?_
      refine g_iconst (pc := 27) (v := (0 : Int32)) dX12_paint_27 rfl ?_
      refine g_iload_n (pc := 28) dX12_paint_28 rfl rfl ?_
      refine g_iadd (pc := 29) dX12_paint_29 ?_
      refine g_iload_n (pc := 30) dX12_paint_30 rfl rfl ?_
      obtain ⟨c_10, hF⟩ := am_gd hF
      obtain ⟨I_11, e_I_11, hF⟩ := am_let_el hF
      refine n_iast (pc := 31) (k := 72) e_I_11 rfl (hPl.lt (by decide)) (am_ix_use c_10) dX12_paint_31 ?_
      refine g_iconst (pc := 32) (v := (1 : Int32)) dX12_paint_32 rfl ?_
      cases hF
      exact g_zret (pc := 33) rfl (Or.inr rfl) (Nat.le_refl _) (Nat.le_refl _) dX12_paint_33 ⟨(Or.inr rfl), rfl, rfl, rfl, rfl⟩
    · replace hF := am_yes c_9 hF
      refine g_iconst (pc := 21) (v := (0 : Int32)) dX12_paint_21 rfl ?_
      cases hF
      exact g_zret (pc := 22) rfl (Or.inl rfl) (Nat.le_refl _) (Nat.le_refl _) dX12_paint_22 ⟨(Or.inl rfl), rfl, rfl, rfl, rfl⟩
def F_X12_types_55 (I : am_IT) (a1 : Int32) : Option (am_IT) := am_b1 (am_it am_fu (am_u2 (fun (l2_1 : Int32) (I_2 : am_IT) => if l2_1 < 0 then (some (.inr (I_2))) else (if am_ix (I_2 55 26) 400 = true then (am_let (up2 I_2 73 (I_2 55 26).toNatClampNeg ((a1 >>> (l2_1 &&& 31)) &&& (255 : Int32))) (fun (I_11 : am_IT) => am_let (up2 I_11 55 26 ((I_11 55 26) + (1 : Int32))) (fun (I_12 : am_IT) => am_let (l2_1 + (-8 : Int32)) (fun (l2_13 : Int32) => some (.inl (l2_13, I_12)))))) else none))) ((24 : Int32), I)) (fun (I_3 : am_IT) => some I_3)
set_option maxRecDepth 100000 in
set_option maxHeartbeats 4000000 in
theorem s_X12_types_55 {l : Launch} {d N : Nat} {P : am_PT} (hPl : am_Pl 94 N P) (hd : 1 ≤ d) {I : am_IT} {a1 : Int32} {I2 : am_IT} (hF : F_X12_types_55 I a1 = some (I2)) : am_C l d 0 0 mX12_types [.ref 55, .int a1] N P I (am_qv N P I2) := by
  refine am_body (sc := am_sc0) (n := 1) (by decide +kernel) (by decide) rfl ?_
  change G am_sc0 l d 0 0 mX12_types (am_qv N P I2) 0 [.ref 55, .int a1, .null] [] N P I 0 0
  unfold F_X12_types_55 at hF
  refine g_bipush (pc := 0) (v := (24 : Int32)) dX12_types_0 rfl ?_
  refine n_istore_n (pc := 2) (ls2 := [.ref 55, .int a1, .int (24 : Int32)]) rfl rfl dX12_types_2 rfl (Nat.le_of_ble_eq_true rfl) ?_
  obtain ⟨I_3, hL_7, hF⟩ := am_b1_el hF
  have hX_4 : G am_sc0 l d 0 0 mX12_types (am_qv N P I2) 39 [.ref 55, .int a1, .null] [] N P I_3 0 0 := by
    cases hF
    exact g_vret (pc := 39) rfl (Nat.le_refl _) (Nat.le_refl _) dX12_types_39 ⟨rfl, rfl, rfl, rfl⟩
  clear hF
  have hC := am_loop (C := fun x => G am_sc0 l d 0 0 mX12_types (am_qv N P I2) 3 [.ref 55, .int a1, .int x.1] [] N P x.2 0 0) (by
    rintro ⟨l2_1, I_2⟩ rr hF ih_5 hE_6
    replace hF := am_u2_ap hF
    change G am_sc0 l d 0 0 mX12_types (am_qv N P I2) 3 [.ref 55, .int a1, .int l2_1] [] N P I_2 0 0
    refine g_iload_n (pc := 3) dX12_types_3 rfl rfl ?_
    refine g_if_lt (pc := 4) (tgt := 39) dX12_types_4 rfl (fun c_9 => ?_) (fun c_9 => ?_)
    · replace hF := am_yes c_9 hF
      cases hF
      cases hE_6 _ rfl
      exact g_weak hX_4 ⟨Or.inr rfl, Or.inr rfl, Or.inl rfl, trivial⟩
    · replace hF := am_no c_9 hF
      refine g_aload_n (pc := 7) dX12_types_7 rfl rfl ?_
      refine g_getR (pc := 8) (k := 55) (r := 73) kf_X12_65.r rfl rfl (hPl.get (by decide) rfl) (hPl.lt (by decide)) dX12_types_8 ?_
      refine g_aload_n (pc := 11) dX12_types_11 rfl rfl ?_
      refine g_getI (pc := 12) (k := 55) kf_X12_181.r rfl rfl (hPl.lt (by decide)) dX12_types_12 ?_
      refine g_iload_n (pc := 15) dX12_types_15 rfl rfl ?_
      refine g_iload_n (pc := 16) dX12_types_16 rfl rfl ?_
      refine g_ishr (pc := 17) dX12_types_17 ?_
      refine g_sipush (pc := 18) (v := (255 : Int32)) dX12_types_18 rfl ?_
      refine g_iand (pc := 21) dX12_types_21 ?_
      obtain ⟨c_10, hF⟩ := am_gd hF
      obtain ⟨I_11, e_I_11, hF⟩ := am_let_el hF
      refine n_iast (pc := 22) (k := 73) e_I_11 rfl (hPl.lt (by decide)) (am_ix_use c_10) dX12_types_22 ?_
      refine g_aload_n (pc := 23) dX12_types_23 rfl rfl ?_
      refine g_aload_n (pc := 24) dX12_types_24 rfl rfl ?_
      refine g_getI (pc := 25) (k := 55) kf_X12_181.r rfl rfl (hPl.lt (by decide)) dX12_types_25 ?_
      refine g_iconst (pc := 28) (v := (1 : Int32)) dX12_types_28 rfl ?_
      refine g_iadd (pc := 29) dX12_types_29 ?_
      obtain ⟨I_12, e_I_12, hF⟩ := am_let_el hF
      refine n_putI (pc := 30) (k := 55) e_I_12 kf_X12_181 rfl rfl (hPl.lt (by decide)) dX12_types_30 ?_
      obtain ⟨l2_13, e_l2_13, hF⟩ := am_let_el hF
      refine n_iinc (pc := 33) (ls2 := [.ref 55, .int a1, .int l2_13]) e_l2_13 (by rw [show Int32.ofInt (-8) = (-8 : Int32) from by decide]) rfl rfl dX12_types_33 (Nat.le_of_ble_eq_true rfl) ?_
      refine g_goto (pc := 36) (tgt := 3) dX12_types_36 rfl ?_
      cases hF
      exact ih_5 (l2_13, I_12) rfl
    ) _ _ hL_7
  exact hC
def F_X12_feed_55 (I : am_IT) (a1 : Int32) (a2 : Int32) (a3 : Int32) (a4 : Int32) (a5 : Int32) : Option (Int32 × am_IT) := am_let (up2 I 55 0 (0 : Int32)) (fun (I_1 : am_IT) => if (I_1 55 26) ≤ (380 : Int32) then (am_b1 (F_X12_types_55 I_1 a1) (fun (I_4 : am_IT) => am_b1 (F_X12_types_55 I_4 a2) (fun (I_6 : am_IT) => am_b1 (F_X12_types_55 I_6 a3) (fun (I_8 : am_IT) => am_b1 (F_X12_types_55 I_8 a4) (fun (I_10 : am_IT) => am_b1 (F_X12_types_55 I_10 a5) (fun (I_12 : am_IT) => some (I_12 55 26, I_12))))))) else (some ((-1 : Int32), I_1)))
set_option maxRecDepth 100000 in
set_option maxHeartbeats 4000000 in
theorem s_X12_feed_55 {l : Launch} {d N : Nat} {P : am_PT} (hPl : am_Pl 94 N P) (hd : 2 ≤ d) {I : am_IT} {a1 : Int32} {a2 : Int32} {a3 : Int32} {a4 : Int32} {a5 : Int32} {r : Int32} {I2 : am_IT} (hF : F_X12_feed_55 I a1 a2 a3 a4 a5 = some (r, I2)) : am_C l d 0 0 mX12_feed [.ref 55, .int a1, .int a2, .int a3, .int a4, .int a5] N P I (am_qi r N P I2) := by
  refine am_body (sc := am_sc0) (n := 0) (by decide +kernel) (by decide) rfl ?_
  change G am_sc0 l d 0 0 mX12_feed (am_qi r N P I2) 0 [.ref 55, .int a1, .int a2, .int a3, .int a4, .int a5] [] N P I 0 0
  unfold F_X12_feed_55 at hF
  refine g_aload_n (pc := 0) dX12_feed_0 rfl rfl ?_
  refine g_iconst (pc := 1) (v := (0 : Int32)) dX12_feed_1 rfl ?_
  obtain ⟨I_1, e_I_1, hF⟩ := am_let_el hF
  refine n_putI (pc := 2) (k := 55) e_I_1 kf_X12_134 rfl rfl (hPl.lt (by decide)) dX12_feed_2 ?_
  refine g_aload_n (pc := 5) dX12_feed_5 rfl rfl ?_
  refine g_getI (pc := 6) (k := 55) kf_X12_181.r rfl rfl (hPl.lt (by decide)) dX12_feed_6 ?_
  refine g_sipush (pc := 9) (v := (380 : Int32)) dX12_feed_9 rfl ?_
  refine g_icmp_le (pc := 12) (tgt := 17) dX12_feed_12 rfl (fun c_2 => ?_) (fun c_2 => ?_)
  · replace hF := am_yes c_2 hF
    refine g_aload_n (pc := 17) dX12_feed_17 rfl rfl ?_
    refine g_iload_n (pc := 18) dX12_feed_18 rfl rfl ?_
    obtain ⟨I_4, h_3, hF⟩ := am_b1_el hF
    refine g_cVv (pc := 19) (k := 55) (As := [.int a1]) (st := []) ky_X12_types kl_X12_184 (s_X12_types_55 (d := 1) (hPl) (Nat.le_refl _) h_3) rfl rfl rfl (hPl.lt (by decide)) (Nat.le_trans (by decide) hd) (Nat.le_of_ble_eq_true rfl) (Nat.le_refl _) (Nat.le_refl _) dX12_feed_19 ?_
    refine g_aload_n (pc := 22) dX12_feed_22 rfl rfl ?_
    refine g_iload_n (pc := 23) dX12_feed_23 rfl rfl ?_
    obtain ⟨I_6, h_5, hF⟩ := am_b1_el hF
    refine g_cVv (pc := 24) (k := 55) (As := [.int a2]) (st := []) ky_X12_types kl_X12_184 (s_X12_types_55 (d := 1) (hPl) (Nat.le_refl _) h_5) rfl rfl rfl (hPl.lt (by decide)) (Nat.le_trans (by decide) hd) (Nat.le_of_ble_eq_true rfl) (Nat.le_refl _) (Nat.le_refl _) dX12_feed_24 ?_
    refine g_aload_n (pc := 27) dX12_feed_27 rfl rfl ?_
    refine g_iload_n (pc := 28) dX12_feed_28 rfl rfl ?_
    obtain ⟨I_8, h_7, hF⟩ := am_b1_el hF
    refine g_cVv (pc := 29) (k := 55) (As := [.int a3]) (st := []) ky_X12_types kl_X12_184 (s_X12_types_55 (d := 1) (hPl) (Nat.le_refl _) h_7) rfl rfl rfl (hPl.lt (by decide)) (Nat.le_trans (by decide) hd) (Nat.le_of_ble_eq_true rfl) (Nat.le_refl _) (Nat.le_refl _) dX12_feed_29 ?_
    refine g_aload_n (pc := 32) dX12_feed_32 rfl rfl ?_
    refine g_iload (pc := 33) dX12_feed_33 rfl ?_
    obtain ⟨I_10, h_9, hF⟩ := am_b1_el hF
    refine g_cVv (pc := 35) (k := 55) (As := [.int a4]) (st := []) ky_X12_types kl_X12_184 (s_X12_types_55 (d := 1) (hPl) (Nat.le_refl _) h_9) rfl rfl rfl (hPl.lt (by decide)) (Nat.le_trans (by decide) hd) (Nat.le_of_ble_eq_true rfl) (Nat.le_refl _) (Nat.le_refl _) dX12_feed_35 ?_
    refine g_aload_n (pc := 38) dX12_feed_38 rfl rfl ?_
    refine g_iload (pc := 39) dX12_feed_39 rfl ?_
    obtain ⟨I_12, h_11, hF⟩ := am_b1_el hF
    refine g_cVv (pc := 41) (k := 55) (As := [.int a5]) (st := []) ky_X12_types kl_X12_184 (s_X12_types_55 (d := 1) (hPl) (Nat.le_refl _) h_11) rfl rfl rfl (hPl.lt (by decide)) (Nat.le_trans (by decide) hd) (Nat.le_of_ble_eq_true rfl) (Nat.le_refl _) (Nat.le_refl _) dX12_feed_41 ?_
    refine g_aload_n (pc := 44) dX12_feed_44 rfl rfl ?_
    refine g_getI (pc := 45) (k := 55) kf_X12_181.r rfl rfl (hPl.lt (by decide)) dX12_feed_45 ?_
    cases hF
    exact g_iret (pc := 48) rfl (Nat.le_refl _) (Nat.le_refl _) dX12_feed_48 ⟨rfl, rfl, rfl, rfl⟩
  · replace hF := am_no c_2 hF
    refine g_iconst (pc := 15) (v := (-1 : Int32)) dX12_feed_15 (by decide) ?_
    cases hF
    exact g_iret (pc := 16) rfl (Nat.le_refl _) (Nat.le_refl _) dX12_feed_16 ⟨rfl, rfl, rfl, rfl⟩
def F_X12_end_55 (I : am_IT) (a1 : Int32) : Option (Int32 × am_IT) := am_let (up2 I 55 0 (0 : Int32)) (fun (I_1 : am_IT) => am_b1 (F_X12_isIn_55 I_1 a1 (0 : Int32) (I_1 55 26)) (fun (r_3 : Int32) => if r_3 = 0 then (some ((0 : Int32), I_1)) else (am_let (up2 I_1 55 26 a1) (fun (I_6 : am_IT) => some ((1 : Int32), I_6)))))
set_option maxRecDepth 100000 in
set_option maxHeartbeats 4000000 in
theorem s_X12_end_55 {l : Launch} {d N : Nat} {P : am_PT} (hPl : am_Pl 94 N P) (hd : 2 ≤ d) {I : am_IT} {a1 : Int32} {r : Int32} {I2 : am_IT} (hF : F_X12_end_55 I a1 = some (r, I2)) : am_C l d 0 0 mX12_end [.ref 55, .int a1] N P I (am_qz r N P I2) := by
  refine am_body (sc := am_sc0) (n := 0) (by decide +kernel) (by decide) rfl ?_
  change G am_sc0 l d 0 0 mX12_end (am_qz r N P I2) 0 [.ref 55, .int a1] [] N P I 0 0
  unfold F_X12_end_55 at hF
  refine g_aload_n (pc := 0) dX12_end_0 rfl rfl ?_
  refine g_iconst (pc := 1) (v := (0 : Int32)) dX12_end_1 rfl ?_
  obtain ⟨I_1, e_I_1, hF⟩ := am_let_el hF
  refine n_putI (pc := 2) (k := 55) e_I_1 kf_X12_134 rfl rfl (hPl.lt (by decide)) dX12_end_2 ?_
  refine g_aload_n (pc := 5) dX12_end_5 rfl rfl ?_
  refine g_iload_n (pc := 6) dX12_end_6 rfl rfl ?_
  refine g_iconst (pc := 7) (v := (0 : Int32)) dX12_end_7 rfl ?_
  refine g_aload_n (pc := 8) dX12_end_8 rfl rfl ?_
  refine g_getI (pc := 9) (k := 55) kf_X12_181.r rfl rfl (hPl.lt (by decide)) dX12_end_9 ?_
  obtain ⟨r_3, h_2, hF⟩ := am_b1_el hF
  refine g_cVz (pc := 12) (k := 55) (As := [.int a1, .int (0 : Int32), .int (I_1 55 26)]) (st := []) ky_X12_isIn kl_X12_148 (s_X12_isIn_55 (d := 1) (hPl) (Nat.le_refl _) h_2) rfl rfl rfl (hPl.lt (by decide)) (Nat.le_trans (by decide) hd) (Nat.le_of_ble_eq_true rfl) (Nat.le_refl _) (Nat.le_refl _) dX12_end_12 ?_
  intro z_4
  refine g_if_ne (pc := 15) (tgt := 20) dX12_end_15 rfl (fun c_5 => ?_) (fun c_5 => ?_)
  · replace hF := am_no c_5 hF
    refine g_aload_n (pc := 20) dX12_end_20 rfl rfl ?_
    refine g_iload_n (pc := 21) dX12_end_21 rfl rfl ?_
    obtain ⟨I_6, e_I_6, hF⟩ := am_let_el hF
    refine n_putI (pc := 22) (k := 55) e_I_6 kf_X12_181 rfl rfl (hPl.lt (by decide)) dX12_end_22 ?_
    refine g_iconst (pc := 25) (v := (1 : Int32)) dX12_end_25 rfl ?_
    cases hF
    exact g_zret (pc := 26) rfl (Or.inr rfl) (Nat.le_refl _) (Nat.le_refl _) dX12_end_26 ⟨(Or.inr rfl), rfl, rfl, rfl, rfl⟩
  · replace hF := am_yes c_5 hF
    refine g_iconst (pc := 18) (v := (0 : Int32)) dX12_end_18 rfl ?_
    cases hF
    exact g_zret (pc := 19) rfl (Or.inl rfl) (Nat.le_refl _) (Nat.le_refl _) dX12_end_19 ⟨(Or.inl rfl), rfl, rfl, rfl, rfl⟩
def F_X12_raw_55 (I : am_IT) (a1 : Int32) : Option (Int32) := if (I 55 26) ≤ a1 then (some (-1 : Int32)) else (if am_ix a1 400 = true then (some (I 73 a1.toNatClampNeg)) else none)
set_option maxRecDepth 100000 in
set_option maxHeartbeats 4000000 in
theorem s_X12_raw_55 {l : Launch} {d N : Nat} {P : am_PT} (hPl : am_Pl 94 N P) (hd : 1 ≤ d) {I : am_IT} {a1 : Int32} {r : Int32} (hF : F_X12_raw_55 I a1 = some (r)) : am_C l d 0 0 mX12_raw [.ref 55, .int a1] N P I (am_qi r N P I) := by
  refine am_body (sc := am_sc0) (n := 0) (by decide +kernel) (by decide) rfl ?_
  change G am_sc0 l d 0 0 mX12_raw (am_qi r N P I) 0 [.ref 55, .int a1] [] N P I 0 0
  unfold F_X12_raw_55 at hF
  refine g_iload_n (pc := 0) dX12_raw_0 rfl rfl ?_
  refine g_aload_n (pc := 1) dX12_raw_1 rfl rfl ?_
  refine g_getI (pc := 2) (k := 55) kf_X12_181.r rfl rfl (hPl.lt (by decide)) dX12_raw_2 ?_
  refine g_icmp_ge (pc := 5) (tgt := 17) dX12_raw_5 rfl (fun c_1 => ?_) (fun c_1 => ?_)
  · replace hF := am_yes c_1 hF
    refine g_iconst (pc := 17) (v := (-1 : Int32)) dX12_raw_17 (by decide) ?_
    cases hF
    exact g_iret (pc := 18) rfl (Nat.le_refl _) (Nat.le_refl _) dX12_raw_18 ⟨rfl, rfl, rfl, rfl⟩
  · replace hF := am_no c_1 hF
    refine g_aload_n (pc := 8) dX12_raw_8 rfl rfl ?_
    refine g_getR (pc := 9) (k := 55) (r := 73) kf_X12_65.r rfl rfl (hPl.get (by decide) rfl) (hPl.lt (by decide)) dX12_raw_9 ?_
    refine g_iload_n (pc := 12) dX12_raw_12 rfl rfl ?_
    obtain ⟨c_2, hF⟩ := am_gd hF
    refine g_iald (pc := 13) (k := 73) rfl (hPl.lt (by decide)) (am_ix_use c_2) dX12_raw_13 ?_
    refine g_goto (pc := 14) (tgt := 18) dX12_raw_14 rfl ?_
    cases hF
    exact g_iret (pc := 18) rfl (Nat.le_refl _) (Nat.le_refl _) dX12_raw_18 ⟨rfl, rfl, rfl, rfl⟩
def F_X12_isLetter_55 (I : am_IT) (a1 : Int32) : Option (Int32) := am_b1 (F_X12_isIn_55 I a1 (97 : Int32) (122 : Int32)) (fun (r_2 : Int32) => if r_2 = 0 then (am_b1 (F_X12_isIn_55 I a1 (65 : Int32) (90 : Int32)) (fun (r_6 : Int32) => if r_6 = 0 then (some (0 : Int32)) else (some (1 : Int32)))) else (some (1 : Int32)))
set_option maxRecDepth 100000 in
set_option maxHeartbeats 4000000 in
theorem s_X12_isLetter_55 {l : Launch} {d N : Nat} {P : am_PT} (hPl : am_Pl 94 N P) (hd : 2 ≤ d) {I : am_IT} {a1 : Int32} {r : Int32} (hF : F_X12_isLetter_55 I a1 = some (r)) : am_C l d 0 0 mX12_isLetter [.ref 55, .int a1] N P I (am_qz r N P I) := by
  refine am_body (sc := am_sc0) (n := 0) (by decide +kernel) (by decide) rfl ?_
  change G am_sc0 l d 0 0 mX12_isLetter (am_qz r N P I) 0 [.ref 55, .int a1] [] N P I 0 0
  unfold F_X12_isLetter_55 at hF
  refine g_aload_n (pc := 0) dX12_isLetter_0 rfl rfl ?_
  refine g_iload_n (pc := 1) dX12_isLetter_1 rfl rfl ?_
  refine g_bipush (pc := 2) (v := (97 : Int32)) dX12_isLetter_2 rfl ?_
  refine g_bipush (pc := 4) (v := (122 : Int32)) dX12_isLetter_4 rfl ?_
  obtain ⟨r_2, h_1, hF⟩ := am_b1_el hF
  refine g_cVz (pc := 6) (k := 55) (As := [.int a1, .int (97 : Int32), .int (122 : Int32)]) (st := []) ky_X12_isIn kl_X12_148 (s_X12_isIn_55 (d := 1) (hPl) (Nat.le_refl _) h_1) rfl rfl rfl (hPl.lt (by decide)) (Nat.le_trans (by decide) hd) (Nat.le_of_ble_eq_true rfl) (Nat.le_refl _) (Nat.le_refl _) dX12_isLetter_6 ?_
  intro z_3
  refine g_if_ne (pc := 9) (tgt := 24) dX12_isLetter_9 rfl (fun c_4 => ?_) (fun c_4 => ?_)
  · replace hF := am_no c_4 hF
    refine g_iconst (pc := 24) (v := (1 : Int32)) dX12_isLetter_24 rfl ?_
    refine g_goto (pc := 25) (tgt := 29) dX12_isLetter_25 rfl ?_
    cases hF
    exact g_zret (pc := 29) rfl (Or.inr rfl) (Nat.le_refl _) (Nat.le_refl _) dX12_isLetter_29 ⟨(Or.inr rfl), rfl, rfl, rfl, rfl⟩
  · replace hF := am_yes c_4 hF
    refine g_aload_n (pc := 12) dX12_isLetter_12 rfl rfl ?_
    refine g_iload_n (pc := 13) dX12_isLetter_13 rfl rfl ?_
    refine g_bipush (pc := 14) (v := (65 : Int32)) dX12_isLetter_14 rfl ?_
    refine g_bipush (pc := 16) (v := (90 : Int32)) dX12_isLetter_16 rfl ?_
    obtain ⟨r_6, h_5, hF⟩ := am_b1_el hF
    refine g_cVz (pc := 18) (k := 55) (As := [.int a1, .int (65 : Int32), .int (90 : Int32)]) (st := []) ky_X12_isIn kl_X12_148 (s_X12_isIn_55 (d := 1) (hPl) (Nat.le_refl _) h_5) rfl rfl rfl (hPl.lt (by decide)) (Nat.le_trans (by decide) hd) (Nat.le_of_ble_eq_true rfl) (Nat.le_refl _) (Nat.le_refl _) dX12_isLetter_18 ?_
    intro z_7
    refine g_if_eq (pc := 21) (tgt := 28) dX12_isLetter_21 rfl (fun c_8 => ?_) (fun c_8 => ?_)
    · replace hF := am_yes c_8 hF
      refine g_iconst (pc := 28) (v := (0 : Int32)) dX12_isLetter_28 rfl ?_
      cases hF
      exact g_zret (pc := 29) rfl (Or.inl rfl) (Nat.le_refl _) (Nat.le_refl _) dX12_isLetter_29 ⟨(Or.inl rfl), rfl, rfl, rfl, rfl⟩
    · replace hF := am_no c_8 hF
      refine g_iconst (pc := 24) (v := (1 : Int32)) dX12_isLetter_24 rfl ?_
      refine g_goto (pc := 25) (tgt := 29) dX12_isLetter_25 rfl ?_
      cases hF
      exact g_zret (pc := 29) rfl (Or.inr rfl) (Nat.le_refl _) (Nat.le_refl _) dX12_isLetter_29 ⟨(Or.inr rfl), rfl, rfl, rfl, rfl⟩
def F_X12_isDigit_55 (I : am_IT) (a1 : Int32) : Option (Int32) := am_b1 (F_X12_isIn_55 I a1 (48 : Int32) (57 : Int32)) (fun (r_2 : Int32) => some r_2)
set_option maxRecDepth 100000 in
set_option maxHeartbeats 4000000 in
theorem s_X12_isDigit_55 {l : Launch} {d N : Nat} {P : am_PT} (hPl : am_Pl 94 N P) (hd : 2 ≤ d) {I : am_IT} {a1 : Int32} {r : Int32} (hF : F_X12_isDigit_55 I a1 = some (r)) : am_C l d 0 0 mX12_isDigit [.ref 55, .int a1] N P I (am_qz r N P I) := by
  refine am_body (sc := am_sc0) (n := 0) (by decide +kernel) (by decide) rfl ?_
  change G am_sc0 l d 0 0 mX12_isDigit (am_qz r N P I) 0 [.ref 55, .int a1] [] N P I 0 0
  unfold F_X12_isDigit_55 at hF
  refine g_aload_n (pc := 0) dX12_isDigit_0 rfl rfl ?_
  refine g_iload_n (pc := 1) dX12_isDigit_1 rfl rfl ?_
  refine g_bipush (pc := 2) (v := (48 : Int32)) dX12_isDigit_2 rfl ?_
  refine g_bipush (pc := 4) (v := (57 : Int32)) dX12_isDigit_4 rfl ?_
  obtain ⟨r_2, h_1, hF⟩ := am_b1_el hF
  refine g_cVz (pc := 6) (k := 55) (As := [.int a1, .int (48 : Int32), .int (57 : Int32)]) (st := []) ky_X12_isIn kl_X12_148 (s_X12_isIn_55 (d := 1) (hPl) (Nat.le_refl _) h_1) rfl rfl rfl (hPl.lt (by decide)) (Nat.le_trans (by decide) hd) (Nat.le_of_ble_eq_true rfl) (Nat.le_refl _) (Nat.le_refl _) dX12_isDigit_6 ?_
  intro z_3
  cases hF
  exact g_zret (pc := 9) rfl z_3 (Nat.le_refl _) (Nat.le_refl _) dX12_isDigit_9 ⟨z_3, rfl, rfl, rfl, rfl⟩
def F_X12_isMarkSign_55 (I : am_IT) (a1 : Int32) : Option (Int32) := if a1 = (59 : Int32) then (some (1 : Int32)) else (if a1 = (43 : Int32) then (some (1 : Int32)) else (if a1 = (45 : Int32) then (some (1 : Int32)) else (if a1 = (42 : Int32) then (some (1 : Int32)) else (if a1 = (47 : Int32) then (some (1 : Int32)) else (if a1 = (40 : Int32) then (some (1 : Int32)) else (if a1 = (41 : Int32) then (some (1 : Int32)) else (if a1 = (60 : Int32) then (some (1 : Int32)) else (if a1 = (61 : Int32) then (some (1 : Int32)) else (if a1 = (62 : Int32) then (some (1 : Int32)) else (some (0 : Int32)))))))))))
set_option maxRecDepth 100000 in
set_option maxHeartbeats 4000000 in
theorem s_X12_isMarkSign_55 {l : Launch} {d N : Nat} {P : am_PT} (hPl : am_Pl 94 N P) (hd : 1 ≤ d) {I : am_IT} {a1 : Int32} {r : Int32} (hF : F_X12_isMarkSign_55 I a1 = some (r)) : am_C l d 0 0 mX12_isMarkSign [.ref 55, .int a1] N P I (am_qz r N P I) := by
  refine am_body (sc := am_sc0) (n := 0) (by decide +kernel) (by decide) rfl ?_
  change G am_sc0 l d 0 0 mX12_isMarkSign (am_qz r N P I) 0 [.ref 55, .int a1] [] N P I 0 0
  unfold F_X12_isMarkSign_55 at hF
  refine g_iload_n (pc := 0) dX12_isMarkSign_0 rfl rfl ?_
  refine g_bipush (pc := 1) (v := (59 : Int32)) dX12_isMarkSign_1 rfl ?_
  refine g_icmp_eq (pc := 3) (tgt := 60) dX12_isMarkSign_3 rfl (fun c_1 => ?_) (fun c_1 => ?_)
  · replace hF := am_yes c_1 hF
    refine g_iconst (pc := 60) (v := (1 : Int32)) dX12_isMarkSign_60 rfl ?_
    refine g_goto (pc := 61) (tgt := 65) dX12_isMarkSign_61 rfl ?_
    cases hF
    exact g_zret (pc := 65) rfl (Or.inr rfl) (Nat.le_refl _) (Nat.le_refl _) dX12_isMarkSign_65 ⟨(Or.inr rfl), rfl, rfl, rfl, rfl⟩
  · replace hF := am_no c_1 hF
    refine g_iload_n (pc := 6) dX12_isMarkSign_6 rfl rfl ?_
    refine g_bipush (pc := 7) (v := (43 : Int32)) dX12_isMarkSign_7 rfl ?_
    refine g_icmp_eq (pc := 9) (tgt := 60) dX12_isMarkSign_9 rfl (fun c_2 => ?_) (fun c_2 => ?_)
    · replace hF := am_yes c_2 hF
      refine g_iconst (pc := 60) (v := (1 : Int32)) dX12_isMarkSign_60 rfl ?_
      refine g_goto (pc := 61) (tgt := 65) dX12_isMarkSign_61 rfl ?_
      cases hF
      exact g_zret (pc := 65) rfl (Or.inr rfl) (Nat.le_refl _) (Nat.le_refl _) dX12_isMarkSign_65 ⟨(Or.inr rfl), rfl, rfl, rfl, rfl⟩
    · replace hF := am_no c_2 hF
      refine g_iload_n (pc := 12) dX12_isMarkSign_12 rfl rfl ?_
      refine g_bipush (pc := 13) (v := (45 : Int32)) dX12_isMarkSign_13 rfl ?_
      refine g_icmp_eq (pc := 15) (tgt := 60) dX12_isMarkSign_15 rfl (fun c_3 => ?_) (fun c_3 => ?_)
      · replace hF := am_yes c_3 hF
        refine g_iconst (pc := 60) (v := (1 : Int32)) dX12_isMarkSign_60 rfl ?_
        refine g_goto (pc := 61) (tgt := 65) dX12_isMarkSign_61 rfl ?_
        cases hF
        exact g_zret (pc := 65) rfl (Or.inr rfl) (Nat.le_refl _) (Nat.le_refl _) dX12_isMarkSign_65 ⟨(Or.inr rfl), rfl, rfl, rfl, rfl⟩
      · replace hF := am_no c_3 hF
        refine g_iload_n (pc := 18) dX12_isMarkSign_18 rfl rfl ?_
        refine g_bipush (pc := 19) (v := (42 : Int32)) dX12_isMarkSign_19 rfl ?_
        refine g_icmp_eq (pc := 21) (tgt := 60) dX12_isMarkSign_21 rfl (fun c_4 => ?_) (fun c_4 => ?_)
        · replace hF := am_yes c_4 hF
          refine g_iconst (pc := 60) (v := (1 : Int32)) dX12_isMarkSign_60 rfl ?_
          refine g_goto (pc := 61) (tgt := 65) dX12_isMarkSign_61 rfl ?_
          cases hF
          exact g_zret (pc := 65) rfl (Or.inr rfl) (Nat.le_refl _) (Nat.le_refl _) dX12_isMarkSign_65 ⟨(Or.inr rfl), rfl, rfl, rfl, rfl⟩
        · replace hF := am_no c_4 hF
          refine g_iload_n (pc := 24) dX12_isMarkSign_24 rfl rfl ?_
          refine g_bipush (pc := 25) (v := (47 : Int32)) dX12_isMarkSign_25 rfl ?_
          refine g_icmp_eq (pc := 27) (tgt := 60) dX12_isMarkSign_27 rfl (fun c_5 => ?_) (fun c_5 => ?_)
          · replace hF := am_yes c_5 hF
            refine g_iconst (pc := 60) (v := (1 : Int32)) dX12_isMarkSign_60 rfl ?_
            refine g_goto (pc := 61) (tgt := 65) dX12_isMarkSign_61 rfl ?_
            cases hF
            exact g_zret (pc := 65) rfl (Or.inr rfl) (Nat.le_refl _) (Nat.le_refl _) dX12_isMarkSign_65 ⟨(Or.inr rfl), rfl, rfl, rfl, rfl⟩
          · replace hF := am_no c_5 hF
            refine g_iload_n (pc := 30) dX12_isMarkSign_30 rfl rfl ?_
            refine g_bipush (pc := 31) (v := (40 : Int32)) dX12_isMarkSign_31 rfl ?_
            refine g_icmp_eq (pc := 33) (tgt := 60) dX12_isMarkSign_33 rfl (fun c_6 => ?_) (fun c_6 => ?_)
            · replace hF := am_yes c_6 hF
              refine g_iconst (pc := 60) (v := (1 : Int32)) dX12_isMarkSign_60 rfl ?_
              refine g_goto (pc := 61) (tgt := 65) dX12_isMarkSign_61 rfl ?_
              cases hF
              exact g_zret (pc := 65) rfl (Or.inr rfl) (Nat.le_refl _) (Nat.le_refl _) dX12_isMarkSign_65 ⟨(Or.inr rfl), rfl, rfl, rfl, rfl⟩
            · replace hF := am_no c_6 hF
              refine g_iload_n (pc := 36) dX12_isMarkSign_36 rfl rfl ?_
              refine g_bipush (pc := 37) (v := (41 : Int32)) dX12_isMarkSign_37 rfl ?_
              refine g_icmp_eq (pc := 39) (tgt := 60) dX12_isMarkSign_39 rfl (fun c_7 => ?_) (fun c_7 => ?_)
              · replace hF := am_yes c_7 hF
                refine g_iconst (pc := 60) (v := (1 : Int32)) dX12_isMarkSign_60 rfl ?_
                refine g_goto (pc := 61) (tgt := 65) dX12_isMarkSign_61 rfl ?_
                cases hF
                exact g_zret (pc := 65) rfl (Or.inr rfl) (Nat.le_refl _) (Nat.le_refl _) dX12_isMarkSign_65 ⟨(Or.inr rfl), rfl, rfl, rfl, rfl⟩
              · replace hF := am_no c_7 hF
                refine g_iload_n (pc := 42) dX12_isMarkSign_42 rfl rfl ?_
                refine g_bipush (pc := 43) (v := (60 : Int32)) dX12_isMarkSign_43 rfl ?_
                refine g_icmp_eq (pc := 45) (tgt := 60) dX12_isMarkSign_45 rfl (fun c_8 => ?_) (fun c_8 => ?_)
                · replace hF := am_yes c_8 hF
                  refine g_iconst (pc := 60) (v := (1 : Int32)) dX12_isMarkSign_60 rfl ?_
                  refine g_goto (pc := 61) (tgt := 65) dX12_isMarkSign_61 rfl ?_
                  cases hF
                  exact g_zret (pc := 65) rfl (Or.inr rfl) (Nat.le_refl _) (Nat.le_refl _) dX12_isMarkSign_65 ⟨(Or.inr rfl), rfl, rfl, rfl, rfl⟩
                · replace hF := am_no c_8 hF
                  refine g_iload_n (pc := 48) dX12_isMarkSign_48 rfl rfl ?_
                  refine g_bipush (pc := 49) (v := (61 : Int32)) dX12_isMarkSign_49 rfl ?_
                  refine g_icmp_eq (pc := 51) (tgt := 60) dX12_isMarkSign_51 rfl (fun c_9 => ?_) (fun c_9 => ?_)
                  · replace hF := am_yes c_9 hF
                    refine g_iconst (pc := 60) (v := (1 : Int32)) dX12_isMarkSign_60 rfl ?_
                    refine g_goto (pc := 61) (tgt := 65) dX12_isMarkSign_61 rfl ?_
                    cases hF
                    exact g_zret (pc := 65) rfl (Or.inr rfl) (Nat.le_refl _) (Nat.le_refl _) dX12_isMarkSign_65 ⟨(Or.inr rfl), rfl, rfl, rfl, rfl⟩
                  · replace hF := am_no c_9 hF
                    refine g_iload_n (pc := 54) dX12_isMarkSign_54 rfl rfl ?_
                    refine g_bipush (pc := 55) (v := (62 : Int32)) dX12_isMarkSign_55 rfl ?_
                    refine g_icmp_ne (pc := 57) (tgt := 64) dX12_isMarkSign_57 rfl (fun c_10 => ?_) (fun c_10 => ?_)
                    · replace hF := am_no c_10 hF
                      refine g_iconst (pc := 64) (v := (0 : Int32)) dX12_isMarkSign_64 rfl ?_
                      cases hF
                      exact g_zret (pc := 65) rfl (Or.inl rfl) (Nat.le_refl _) (Nat.le_refl _) dX12_isMarkSign_65 ⟨(Or.inl rfl), rfl, rfl, rfl, rfl⟩
                    · replace hF := am_yes c_10 hF
                      refine g_iconst (pc := 60) (v := (1 : Int32)) dX12_isMarkSign_60 rfl ?_
                      refine g_goto (pc := 61) (tgt := 65) dX12_isMarkSign_61 rfl ?_
                      cases hF
                      exact g_zret (pc := 65) rfl (Or.inr rfl) (Nat.le_refl _) (Nat.le_refl _) dX12_isMarkSign_65 ⟨(Or.inr rfl), rfl, rfl, rfl, rfl⟩
def F_X12_wordAt_55 (I : am_IT) (a1 : Int32) (a2 : Int32) : Option (Int32) := am_lr (am_it am_fu (am_u2 (fun (l3_1 : Int32) (l4_2 : Int32) => if (84 : Int32) ≤ l4_2 then (some (.inr (.inl ((0 : Int32))))) else (am_let (l3_1 + (1 : Int32)) (fun (l3_10 : Int32) => am_b1 (am_it am_fu (fun (l5_11 : Int32) => if a2 ≤ (a1 + l5_11) then (some (.inr (l5_11))) else (if am_ix ((l4_2 + (1 : Int32)) + l5_11) 85 = true then (if am_ix (a1 + l5_11) 400 = true then (if (I 74 ((l4_2 + (1 : Int32)) + l5_11).toNatClampNeg) = (I 73 (a1 + l5_11).toNatClampNeg) then (am_let (l5_11 + (1 : Int32)) (fun (l5_22 : Int32) => some (.inl (l5_22)))) else (some (.inr (l5_11)))) else none) else none)) (0 : Int32)) (fun (l5_12 : Int32) => if (a1 + l5_12) = a2 then (if am_ix ((l4_2 + (1 : Int32)) + l5_12) 85 = true then (if (I 74 ((l4_2 + (1 : Int32)) + l5_12).toNatClampNeg) = (32 : Int32) then (some (.inr (.inr l3_10))) else (am_let (l4_2 + (1 : Int32)) (fun (l4_37 : Int32) => am_b1 (am_it am_fu (fun (l4_38 : Int32) => if am_ix l4_38 85 = true then (if (I 74 l4_38.toNatClampNeg) = (32 : Int32) then (some (.inr (l4_38))) else (am_let (l4_38 + (1 : Int32)) (fun (l4_47 : Int32) => some (.inl (l4_47))))) else none) l4_37) (fun (l4_39 : Int32) => some (.inl (l3_10, l4_39)))))) else none) else (am_let (l4_2 + (1 : Int32)) (fun (l4_24 : Int32) => am_b1 (am_it am_fu (fun (l4_25 : Int32) => if am_ix l4_25 85 = true then (if (I 74 l4_25.toNatClampNeg) = (32 : Int32) then (some (.inr (l4_25))) else (am_let (l4_25 + (1 : Int32)) (fun (l4_34 : Int32) => some (.inl (l4_34))))) else none) l4_24) (fun (l4_26 : Int32) => some (.inl (l3_10, l4_26)))))))))) ((-1 : Int32), (0 : Int32))) (fun (u_3 : Int32) => some (-1 : Int32))
set_option maxRecDepth 100000 in
set_option maxHeartbeats 4000000 in
theorem s_X12_wordAt_55 {l : Launch} {d N : Nat} {P : am_PT} (hPl : am_Pl 94 N P) (hd : 1 ≤ d) {I : am_IT} {a1 : Int32} {a2 : Int32} {r : Int32} (hF : F_X12_wordAt_55 I a1 a2 = some (r)) : am_C l d 0 0 mX12_wordAt [.ref 55, .int a1, .int a2] N P I (am_qi r N P I) := by
  refine am_body (sc := am_sc0) (n := 3) (by decide +kernel) (by decide) rfl ?_
  change G am_sc0 l d 0 0 mX12_wordAt (am_qi r N P I) 0 [.ref 55, .int a1, .int a2, .null, .null, .null] [] N P I 0 0
  unfold F_X12_wordAt_55 at hF
  refine g_iconst (pc := 0) (v := (-1 : Int32)) dX12_wordAt_0 (by decide) ?_
  refine n_istore_n (pc := 1) (ls2 := [.ref 55, .int a1, .int a2, .int (-1 : Int32), .null, .null]) rfl rfl dX12_wordAt_1 rfl (Nat.le_of_ble_eq_true rfl) ?_
  refine g_iconst (pc := 2) (v := (0 : Int32)) dX12_wordAt_2 rfl ?_
  refine n_istore (pc := 3) (ls2 := [.ref 55, .int a1, .int a2, .int (-1 : Int32), .int (0 : Int32), .null]) rfl rfl dX12_wordAt_3 (Nat.le_of_ble_eq_true rfl) ?_
  obtain ⟨x_49, hL_7, hF⟩ := am_lr_el hF
  have hX_4 : ∀ (u_3 : Int32), x_49 = .inl u_3 → G am_sc0 l d 0 0 mX12_wordAt (am_qi r N P I) 117 [.ref 55, .int a1, .int a2, .null, .null, .null] [] N P I 0 0 := by
    intro u_3 q
    subst q
    refine g_iconst (pc := 117) (v := (-1 : Int32)) dX12_wordAt_117 (by decide) ?_
    cases hF
    exact g_iret (pc := 118) rfl (Nat.le_refl _) (Nat.le_refl _) dX12_wordAt_118 ⟨rfl, rfl, rfl, rfl⟩
  have hZ_8 : ∀ y, x_49 = .inr y → y = _ := fun y q => by subst q; exact hF
  clear hF
  have hC := am_loop (C := fun x => G am_sc0 l d 0 0 mX12_wordAt (am_qi r N P I) 5 [.ref 55, .int a1, .int a2, .int x.1, .int x.2, .null] [] N P I 0 0) (by
    rintro ⟨l3_1, l4_2⟩ rr hF ih_5 hE_6
    replace hF := am_u2_ap hF
    change G am_sc0 l d 0 0 mX12_wordAt (am_qi r N P I) 5 [.ref 55, .int a1, .int a2, .int l3_1, .int l4_2, .null] [] N P I 0 0
    refine g_iload (pc := 5) dX12_wordAt_5 rfl ?_
    refine g_bipush (pc := 7) (v := (84 : Int32)) dX12_wordAt_7 rfl ?_
    refine g_icmp_ge (pc := 9) (tgt := 117) dX12_wordAt_9 rfl (fun c_9 => ?_) (fun c_9 => ?_)
    · replace hF := am_yes c_9 hF
      cases hF
      exact g_weak (hX_4 _ (hE_6 _ rfl).symm) ⟨Or.inr rfl, Or.inr rfl, Or.inr rfl, Or.inl rfl, Or.inl rfl, Or.inl rfl, trivial⟩
    · replace hF := am_no c_9 hF
      refine g_iconst (pc := 12) (v := (0 : Int32)) dX12_wordAt_12 rfl ?_
      refine n_istore (pc := 13) (ls2 := [.ref 55, .int a1, .int a2, .int l3_1, .int l4_2, .int (0 : Int32)]) rfl rfl dX12_wordAt_13 (Nat.le_of_ble_eq_true rfl) ?_
      refine g_iload_n (pc := 15) dX12_wordAt_15 rfl rfl ?_
      refine g_iconst (pc := 16) (v := (1 : Int32)) dX12_wordAt_16 rfl ?_
      refine g_iadd (pc := 17) dX12_wordAt_17 ?_
      obtain ⟨l3_10, e_l3_10, hF⟩ := am_let_el hF
      refine n_istore_n (pc := 18) (ls2 := [.ref 55, .int a1, .int a2, .int l3_10, .int l4_2, .int (0 : Int32)]) e_l3_10 rfl dX12_wordAt_18 rfl (Nat.le_of_ble_eq_true rfl) ?_
      obtain ⟨l5_12, hL_16, hF⟩ := am_b1_el hF
      have hX_13 : G am_sc0 l d 0 0 mX12_wordAt (am_qi r N P I) 60 [.ref 55, .int a1, .int a2, .int l3_10, .int l4_2, .int l5_12] [] N P I 0 0 := by
        refine g_iload_n (pc := 60) dX12_wordAt_60 rfl rfl ?_
        refine g_iload (pc := 61) dX12_wordAt_61 rfl ?_
        refine g_iadd (pc := 63) dX12_wordAt_63 ?_
        refine g_iload_n (pc := 64) dX12_wordAt_64 rfl rfl ?_
        refine g_icmp_ne (pc := 65) (tgt := 87) dX12_wordAt_65 rfl (fun c_23 => ?_) (fun c_23 => ?_)
        · replace hF := am_no c_23 hF
          refine g_iload (pc := 87) dX12_wordAt_87 rfl ?_
          refine g_iconst (pc := 89) (v := (1 : Int32)) dX12_wordAt_89 rfl ?_
          refine g_iadd (pc := 90) dX12_wordAt_90 ?_
          obtain ⟨l4_24, e_l4_24, hF⟩ := am_let_el hF
          refine n_istore (pc := 91) (ls2 := [.ref 55, .int a1, .int a2, .int l3_10, .int l4_24, .int l5_12]) e_l4_24 rfl dX12_wordAt_91 (Nat.le_of_ble_eq_true rfl) ?_
          obtain ⟨l4_26, hL_30, hF⟩ := am_b1_el hF
          have hX_27 : G am_sc0 l d 0 0 mX12_wordAt (am_qi r N P I) 114 [.ref 55, .int a1, .int a2, .int l3_10, .int l4_26, .int l5_12] [] N P I 0 0 := by
            refine g_goto (pc := 114) (tgt := 5) dX12_wordAt_114 rfl ?_
            cases hF
            exact g_weak (ih_5 (l3_10, l4_26) rfl) ⟨Or.inr rfl, Or.inr rfl, Or.inr rfl, Or.inr rfl, Or.inr rfl, Or.inl rfl, trivial⟩
          clear hF
          have hC := am_loop (C := fun x => G am_sc0 l d 0 0 mX12_wordAt (am_qi r N P I) 93 [.ref 55, .int a1, .int a2, .int l3_10, .int x, .int l5_12] [] N P I 0 0) (by
            intro l4_25 rr hF ih_28 hE_29
            refine g_aload_n (pc := 93) dX12_wordAt_93 rfl rfl ?_
            refine g_getR (pc := 94) (k := 55) (r := 74) kf_X12_68.r rfl rfl (hPl.get (by decide) rfl) (hPl.lt (by decide)) dX12_wordAt_94 ?_
            refine g_iload (pc := 97) dX12_wordAt_97 rfl ?_
            obtain ⟨c_32, hF⟩ := am_gd hF
            refine g_iald (pc := 99) (k := 74) rfl (hPl.lt (by decide)) (am_ix_use c_32) dX12_wordAt_99 ?_
            refine g_bipush (pc := 100) (v := (32 : Int32)) dX12_wordAt_100 rfl ?_
            refine g_icmp_eq (pc := 102) (tgt := 114) dX12_wordAt_102 rfl (fun c_33 => ?_) (fun c_33 => ?_)
            · replace hF := am_yes c_33 hF
              cases hF
              cases hE_29 _ rfl
              exact hX_27
            · replace hF := am_no c_33 hF
              refine g_iload (pc := 105) dX12_wordAt_105 rfl ?_
              refine g_iconst (pc := 107) (v := (1 : Int32)) dX12_wordAt_107 rfl ?_
              refine g_iadd (pc := 108) dX12_wordAt_108 ?_
              obtain ⟨l4_34, e_l4_34, hF⟩ := am_let_el hF
              refine n_istore (pc := 109) (ls2 := [.ref 55, .int a1, .int a2, .int l3_10, .int l4_34, .int l5_12]) e_l4_34 rfl dX12_wordAt_109 (Nat.le_of_ble_eq_true rfl) ?_
              refine g_goto (pc := 111) (tgt := 93) dX12_wordAt_111 rfl ?_
              cases hF
              exact ih_28 (l4_34) rfl
            ) _ _ hL_30
          exact hC
        · replace hF := am_yes c_23 hF
          refine g_aload_n (pc := 68) dX12_wordAt_68 rfl rfl ?_
          refine g_getR (pc := 69) (k := 55) (r := 74) kf_X12_68.r rfl rfl (hPl.get (by decide) rfl) (hPl.lt (by decide)) dX12_wordAt_69 ?_
          refine g_iload (pc := 72) dX12_wordAt_72 rfl ?_
          refine g_iconst (pc := 74) (v := (1 : Int32)) dX12_wordAt_74 rfl ?_
          refine g_iadd (pc := 75) dX12_wordAt_75 ?_
          refine g_iload (pc := 76) dX12_wordAt_76 rfl ?_
          refine g_iadd (pc := 78) dX12_wordAt_78 ?_
          obtain ⟨c_35, hF⟩ := am_gd hF
          refine g_iald (pc := 79) (k := 74) rfl (hPl.lt (by decide)) (am_ix_use c_35) dX12_wordAt_79 ?_
          refine g_bipush (pc := 80) (v := (32 : Int32)) dX12_wordAt_80 rfl ?_
          refine g_icmp_ne (pc := 82) (tgt := 87) dX12_wordAt_82 rfl (fun c_36 => ?_) (fun c_36 => ?_)
          · replace hF := am_no c_36 hF
            refine g_iload (pc := 87) dX12_wordAt_87 rfl ?_
            refine g_iconst (pc := 89) (v := (1 : Int32)) dX12_wordAt_89 rfl ?_
            refine g_iadd (pc := 90) dX12_wordAt_90 ?_
            obtain ⟨l4_37, e_l4_37, hF⟩ := am_let_el hF
            refine n_istore (pc := 91) (ls2 := [.ref 55, .int a1, .int a2, .int l3_10, .int l4_37, .int l5_12]) e_l4_37 rfl dX12_wordAt_91 (Nat.le_of_ble_eq_true rfl) ?_
            obtain ⟨l4_39, hL_43, hF⟩ := am_b1_el hF
            have hX_40 : G am_sc0 l d 0 0 mX12_wordAt (am_qi r N P I) 114 [.ref 55, .int a1, .int a2, .int l3_10, .int l4_39, .int l5_12] [] N P I 0 0 := by
              refine g_goto (pc := 114) (tgt := 5) dX12_wordAt_114 rfl ?_
              cases hF
              exact g_weak (ih_5 (l3_10, l4_39) rfl) ⟨Or.inr rfl, Or.inr rfl, Or.inr rfl, Or.inr rfl, Or.inr rfl, Or.inl rfl, trivial⟩
            clear hF
            have hC := am_loop (C := fun x => G am_sc0 l d 0 0 mX12_wordAt (am_qi r N P I) 93 [.ref 55, .int a1, .int a2, .int l3_10, .int x, .int l5_12] [] N P I 0 0) (by
              intro l4_38 rr hF ih_41 hE_42
              refine g_aload_n (pc := 93) dX12_wordAt_93 rfl rfl ?_
              refine g_getR (pc := 94) (k := 55) (r := 74) kf_X12_68.r rfl rfl (hPl.get (by decide) rfl) (hPl.lt (by decide)) dX12_wordAt_94 ?_
              refine g_iload (pc := 97) dX12_wordAt_97 rfl ?_
              obtain ⟨c_45, hF⟩ := am_gd hF
              refine g_iald (pc := 99) (k := 74) rfl (hPl.lt (by decide)) (am_ix_use c_45) dX12_wordAt_99 ?_
              refine g_bipush (pc := 100) (v := (32 : Int32)) dX12_wordAt_100 rfl ?_
              refine g_icmp_eq (pc := 102) (tgt := 114) dX12_wordAt_102 rfl (fun c_46 => ?_) (fun c_46 => ?_)
              · replace hF := am_yes c_46 hF
                cases hF
                cases hE_42 _ rfl
                exact hX_40
              · replace hF := am_no c_46 hF
                refine g_iload (pc := 105) dX12_wordAt_105 rfl ?_
                refine g_iconst (pc := 107) (v := (1 : Int32)) dX12_wordAt_107 rfl ?_
                refine g_iadd (pc := 108) dX12_wordAt_108 ?_
                obtain ⟨l4_47, e_l4_47, hF⟩ := am_let_el hF
                refine n_istore (pc := 109) (ls2 := [.ref 55, .int a1, .int a2, .int l3_10, .int l4_47, .int l5_12]) e_l4_47 rfl dX12_wordAt_109 (Nat.le_of_ble_eq_true rfl) ?_
                refine g_goto (pc := 111) (tgt := 93) dX12_wordAt_111 rfl ?_
                cases hF
                exact ih_41 (l4_47) rfl
              ) _ _ hL_43
            exact hC
          · replace hF := am_yes c_36 hF
            refine g_iload_n (pc := 85) dX12_wordAt_85 rfl rfl ?_
            cases hF
            have q_48 := hZ_8 _ (hE_6 _ rfl).symm
            cases q_48
            exact g_iret (pc := 86) rfl (Nat.le_refl _) (Nat.le_refl _) dX12_wordAt_86 ⟨rfl, rfl, rfl, rfl⟩
      clear hF
      have hC := am_loop (C := fun x => G am_sc0 l d 0 0 mX12_wordAt (am_qi r N P I) 19 [.ref 55, .int a1, .int a2, .int l3_10, .int l4_2, .int x] [] N P I 0 0) (by
        intro l5_11 rr hF ih_14 hE_15
        refine g_iload_n (pc := 19) dX12_wordAt_19 rfl rfl ?_
        refine g_iload (pc := 20) dX12_wordAt_20 rfl ?_
        refine g_iadd (pc := 22) dX12_wordAt_22 ?_
        refine g_iload_n (pc := 23) dX12_wordAt_23 rfl rfl ?_
        refine g_icmp_ge (pc := 24) (tgt := 60) dX12_wordAt_24 rfl (fun c_18 => ?_) (fun c_18 => ?_)
        · replace hF := am_yes c_18 hF
          cases hF
          cases hE_15 _ rfl
          exact hX_13
        · replace hF := am_no c_18 hF
          refine g_aload_n (pc := 27) dX12_wordAt_27 rfl rfl ?_
          refine g_getR (pc := 28) (k := 55) (r := 74) kf_X12_68.r rfl rfl (hPl.get (by decide) rfl) (hPl.lt (by decide)) dX12_wordAt_28 ?_
          refine g_iload (pc := 31) dX12_wordAt_31 rfl ?_
          refine g_iconst (pc := 33) (v := (1 : Int32)) dX12_wordAt_33 rfl ?_
          refine g_iadd (pc := 34) dX12_wordAt_34 ?_
          refine g_iload (pc := 35) dX12_wordAt_35 rfl ?_
          refine g_iadd (pc := 37) dX12_wordAt_37 ?_
          obtain ⟨c_19, hF⟩ := am_gd hF
          refine g_iald (pc := 38) (k := 74) rfl (hPl.lt (by decide)) (am_ix_use c_19) dX12_wordAt_38 ?_
          refine g_aload_n (pc := 39) dX12_wordAt_39 rfl rfl ?_
          refine g_getR (pc := 40) (k := 55) (r := 73) kf_X12_65.r rfl rfl (hPl.get (by decide) rfl) (hPl.lt (by decide)) dX12_wordAt_40 ?_
          refine g_iload_n (pc := 43) dX12_wordAt_43 rfl rfl ?_
          refine g_iload (pc := 44) dX12_wordAt_44 rfl ?_
          refine g_iadd (pc := 46) dX12_wordAt_46 ?_
          obtain ⟨c_20, hF⟩ := am_gd hF
          refine g_iald (pc := 47) (k := 73) rfl (hPl.lt (by decide)) (am_ix_use c_20) dX12_wordAt_47 ?_
          refine g_icmp_ne (pc := 48) (tgt := 60) dX12_wordAt_48 rfl (fun c_21 => ?_) (fun c_21 => ?_)
          · replace hF := am_no c_21 hF
            cases hF
            cases hE_15 _ rfl
            exact hX_13
          · replace hF := am_yes c_21 hF
            refine g_iload (pc := 51) dX12_wordAt_51 rfl ?_
            refine g_iconst (pc := 53) (v := (1 : Int32)) dX12_wordAt_53 rfl ?_
            refine g_iadd (pc := 54) dX12_wordAt_54 ?_
            obtain ⟨l5_22, e_l5_22, hF⟩ := am_let_el hF
            refine n_istore (pc := 55) (ls2 := [.ref 55, .int a1, .int a2, .int l3_10, .int l4_2, .int l5_22]) e_l5_22 rfl dX12_wordAt_55 (Nat.le_of_ble_eq_true rfl) ?_
            refine g_goto (pc := 57) (tgt := 19) dX12_wordAt_57 rfl ?_
            cases hF
            exact ih_14 (l5_22) rfl
        ) _ _ hL_16
      exact hC
    ) _ _ hL_7
  exact hC
def F_X12_reads_55 (I : am_IT) : Option (am_IT) := am_b1 (am_it am_fu (fun (I_1 : am_IT) => am_b1 (F_X12_raw_55 I_1 (I_1 55 27)) (fun (r_9 : Int32) => if r_9 = (32 : Int32) then (am_let (up2 I_1 55 27 ((I_1 55 27) + (1 : Int32))) (fun (I_11 : am_IT) => some (.inl (I_11)))) else (am_b1 (F_X12_raw_55 I_1 (I_1 55 27)) (fun (r_13 : Int32) => if r_13 = (10 : Int32) then (am_let (up2 I_1 55 27 ((I_1 55 27) + (1 : Int32))) (fun (I_15 : am_IT) => some (.inl (I_15)))) else (some (.inr (I_1))))))) I) (fun (I_2 : am_IT) => am_let (up2 I_2 55 28 (I_2 55 27)) (fun (I_16 : am_IT) => am_let (up2 I_16 55 29 (1 : Int32)) (fun (I_17 : am_IT) => am_b1 (F_X12_raw_55 I_17 (I_17 55 27)) (fun (r_19 : Int32) => if r_19 = (-1 : Int32) then (am_let (up2 I_17 55 29 (0 : Int32)) (fun (I_79 : am_IT) => some I_79)) else (am_let (up2 I_17 55 27 ((I_17 55 27) + (1 : Int32))) (fun (I_21 : am_IT) => am_let (up2 I_21 55 30 r_19) (fun (I_22 : am_IT) => am_b1 (F_X12_isLetter_55 I_22 r_19) (fun (r_24 : Int32) => if r_24 = 0 then (am_b1 (F_X12_isDigit_55 I_22 r_19) (fun (r_28 : Int32) => if r_28 = 0 then (am_b1 (F_X12_isMarkSign_55 I_22 r_19) (fun (r_32 : Int32) => if r_32 = 0 then (some I_22) else (am_let (up2 I_22 55 29 (4 : Int32)) (fun (I_35 : am_IT) => some I_35)))) else (am_let (up2 I_22 55 30 (r_19 - (48 : Int32))) (fun (I_36 : am_IT) => am_b1 (am_it am_fu (fun (I_37 : am_IT) => am_b1 (F_X12_raw_55 I_37 (I_37 55 27)) (fun (r_45 : Int32) => am_b1 (F_X12_isDigit_55 I_37 r_45) (fun (r_47 : Int32) => if r_47 = 0 then (some (.inr (I_37))) else (am_b1 (if (10000 : Int32) ≤ (I_37 55 30) then (some (I_37 55 30)) else (am_b1 (F_X12_raw_55 I_37 (I_37 55 27)) (fun (r_55 : Int32) => some ((((10 : Int32) * (I_37 55 30)) + r_55) - (48 : Int32))))) (fun (v_51 : Int32) => am_let (up2 I_37 55 30 v_51) (fun (I_56 : am_IT) => am_let (up2 I_56 55 27 ((I_56 55 27) + (1 : Int32))) (fun (I_57 : am_IT) => some (.inl (I_57))))))))) I_36) (fun (I_38 : am_IT) => if (5 : Int32) ≤ ((I_38 55 27) - (I_38 55 28)) then (some I_38) else (am_let (up2 I_38 55 29 (3 : Int32)) (fun (I_59 : am_IT) => some I_59))))))) else (am_b1 (am_it am_fu (fun (I_60 : am_IT) => am_b1 (F_X12_raw_55 I_60 (I_60 55 27)) (fun (r_68 : Int32) => am_b1 (F_X12_isLetter_55 I_60 r_68) (fun (r_70 : Int32) => if r_70 = 0 then (some (.inr (I_60))) else (am_let (up2 I_60 55 27 ((I_60 55 27) + (1 : Int32))) (fun (I_73 : am_IT) => some (.inl (I_73))))))) I_22) (fun (I_61 : am_IT) => am_b1 (F_X12_wordAt_55 I_61 (I_61 55 28) (I_61 55 27)) (fun (r_75 : Int32) => am_let (up2 I_61 55 30 r_75) (fun (I_76 : am_IT) => if (I_76 55 30) = (-1 : Int32) then (some I_76) else (am_let (up2 I_76 55 29 (2 : Int32)) (fun (I_78 : am_IT) => some I_78))))))))))))))
set_option maxRecDepth 100000 in
set_option maxHeartbeats 4000000 in
theorem s_X12_reads_55 {l : Launch} {d N : Nat} {P : am_PT} (hPl : am_Pl 94 N P) (hd : 3 ≤ d) {I : am_IT} {I2 : am_IT} (hF : F_X12_reads_55 I = some (I2)) : am_C l d 0 0 mX12_reads [.ref 55] N P I (am_qv N P I2) := by
  refine am_body (sc := am_sc0) (n := 1) (by decide +kernel) (by decide) rfl ?_
  change G am_sc0 l d 0 0 mX12_reads (am_qv N P I2) 0 [.ref 55, .null] [] N P I 0 0
  unfold F_X12_reads_55 at hF
  obtain ⟨I_2, hL_6, hF⟩ := am_b1_el hF
  have hX_3 : G am_sc0 l d 0 0 mX12_reads (am_qv N P I2) 39 [.ref 55, .null] [] N P I_2 0 0 := by
    refine g_aload_n (pc := 39) dX12_reads_39 rfl rfl ?_
    refine g_aload_n (pc := 40) dX12_reads_40 rfl rfl ?_
    refine g_getI (pc := 41) (k := 55) kf_X12_188.r rfl rfl (hPl.lt (by decide)) dX12_reads_41 ?_
    obtain ⟨I_16, e_I_16, hF⟩ := am_let_el hF
    refine n_putI (pc := 44) (k := 55) e_I_16 kf_X12_194 rfl rfl (hPl.lt (by decide)) dX12_reads_44 ?_
    refine g_aload_n (pc := 47) dX12_reads_47 rfl rfl ?_
    refine g_iconst (pc := 48) (v := (1 : Int32)) dX12_reads_48 rfl ?_
    obtain ⟨I_17, e_I_17, hF⟩ := am_let_el hF
    refine n_putI (pc := 49) (k := 55) e_I_17 kf_X12_197 rfl rfl (hPl.lt (by decide)) dX12_reads_49 ?_
    refine g_aload_n (pc := 52) dX12_reads_52 rfl rfl ?_
    refine g_aload_n (pc := 53) dX12_reads_53 rfl rfl ?_
    refine g_getI (pc := 54) (k := 55) kf_X12_188.r rfl rfl (hPl.lt (by decide)) dX12_reads_54 ?_
    obtain ⟨r_19, h_18, hF⟩ := am_b1_el hF
    refine g_cVi (pc := 57) (k := 55) (As := [.int (I_17 55 27)]) (st := []) ky_X12_raw kl_X12_191 (s_X12_raw_55 (d := 1) (hPl) (Nat.le_refl _) h_18) rfl rfl rfl (hPl.lt (by decide)) (Nat.le_trans (by decide) hd) (Nat.le_of_ble_eq_true rfl) (Nat.le_refl _) (Nat.le_refl _) dX12_reads_57 ?_
    refine n_istore_n (pc := 60) (ls2 := [.ref 55, .int r_19]) rfl rfl dX12_reads_60 rfl (Nat.le_of_ble_eq_true rfl) ?_
    refine g_iload_n (pc := 61) dX12_reads_61 rfl rfl ?_
    refine g_iconst (pc := 62) (v := (-1 : Int32)) dX12_reads_62 (by decide) ?_
    refine g_icmp_ne (pc := 63) (tgt := 72) dX12_reads_63 rfl (fun c_20 => ?_) (fun c_20 => ?_)
    · replace hF := am_no c_20 hF
      refine g_aload_n (pc := 72) dX12_reads_72 rfl rfl ?_
      refine g_aload_n (pc := 73) dX12_reads_73 rfl rfl ?_
      refine g_getI (pc := 74) (k := 55) kf_X12_188.r rfl rfl (hPl.lt (by decide)) dX12_reads_74 ?_
      refine g_iconst (pc := 77) (v := (1 : Int32)) dX12_reads_77 rfl ?_
      refine g_iadd (pc := 78) dX12_reads_78 ?_
      obtain ⟨I_21, e_I_21, hF⟩ := am_let_el hF
      refine n_putI (pc := 79) (k := 55) e_I_21 kf_X12_188 rfl rfl (hPl.lt (by decide)) dX12_reads_79 ?_
      refine g_aload_n (pc := 82) dX12_reads_82 rfl rfl ?_
      refine g_iload_n (pc := 83) dX12_reads_83 rfl rfl ?_
      obtain ⟨I_22, e_I_22, hF⟩ := am_let_el hF
      refine n_putI (pc := 84) (k := 55) e_I_22 kf_X12_200 rfl rfl (hPl.lt (by decide)) dX12_reads_84 ?_
      refine g_aload_n (pc := 87) dX12_reads_87 rfl rfl ?_
      refine g_iload_n (pc := 88) dX12_reads_88 rfl rfl ?_
      obtain ⟨r_24, h_23, hF⟩ := am_b1_el hF
      refine g_cVz (pc := 89) (k := 55) (As := [.int r_19]) (st := []) ky_X12_isLetter kl_X12_203 (s_X12_isLetter_55 (d := 2) (hPl) (Nat.le_refl _) h_23) rfl rfl rfl (hPl.lt (by decide)) (Nat.le_trans (by decide) hd) (Nat.le_of_ble_eq_true rfl) (Nat.le_refl _) (Nat.le_refl _) dX12_reads_89 ?_
      intro z_25
      refine g_if_eq (pc := 92) (tgt := 155) dX12_reads_92 rfl (fun c_26 => ?_) (fun c_26 => ?_)
      · replace hF := am_yes c_26 hF
        refine g_aload_n (pc := 155) dX12_reads_155 rfl rfl ?_
        refine g_iload_n (pc := 156) dX12_reads_156 rfl rfl ?_
        obtain ⟨r_28, h_27, hF⟩ := am_b1_el hF
        refine g_cVz (pc := 157) (k := 55) (As := [.int r_19]) (st := []) ky_X12_isDigit kl_X12_210 (s_X12_isDigit_55 (d := 2) (hPl) (Nat.le_refl _) h_27) rfl rfl rfl (hPl.lt (by decide)) (Nat.le_trans (by decide) hd) (Nat.le_of_ble_eq_true rfl) (Nat.le_refl _) (Nat.le_refl _) dX12_reads_157 ?_
        intro z_29
        refine g_if_eq (pc := 160) (tgt := 260) dX12_reads_160 rfl (fun c_30 => ?_) (fun c_30 => ?_)
        · replace hF := am_yes c_30 hF
          refine g_aload_n (pc := 260) dX12_reads_260 rfl rfl ?_
          refine g_iload_n (pc := 261) dX12_reads_261 rfl rfl ?_
          obtain ⟨r_32, h_31, hF⟩ := am_b1_el hF
          refine g_cVz (pc := 262) (k := 55) (As := [.int r_19]) (st := []) ky_X12_isMarkSign kl_X12_213 (s_X12_isMarkSign_55 (d := 1) (hPl) (Nat.le_refl _) h_31) rfl rfl rfl (hPl.lt (by decide)) (Nat.le_trans (by decide) hd) (Nat.le_of_ble_eq_true rfl) (Nat.le_refl _) (Nat.le_refl _) dX12_reads_262 ?_
          intro z_33
          refine g_if_eq (pc := 265) (tgt := 273) dX12_reads_265 rfl (fun c_34 => ?_) (fun c_34 => ?_)
          · replace hF := am_yes c_34 hF
            cases hF
            exact g_vret (pc := 273) rfl (Nat.le_refl _) (Nat.le_refl _) dX12_reads_273 ⟨rfl, rfl, rfl, rfl⟩
          · replace hF := am_no c_34 hF
            refine g_aload_n (pc := 268) dX12_reads_268 rfl rfl ?_
            refine g_iconst (pc := 269) (v := (4 : Int32)) dX12_reads_269 rfl ?_
            obtain ⟨I_35, e_I_35, hF⟩ := am_let_el hF
            refine n_putI (pc := 270) (k := 55) e_I_35 kf_X12_197 rfl rfl (hPl.lt (by decide)) dX12_reads_270 ?_
            cases hF
            exact g_vret (pc := 273) rfl (Nat.le_refl _) (Nat.le_refl _) dX12_reads_273 ⟨rfl, rfl, rfl, rfl⟩
        · replace hF := am_no c_30 hF
          refine g_aload_n (pc := 163) dX12_reads_163 rfl rfl ?_
          refine g_iload_n (pc := 164) dX12_reads_164 rfl rfl ?_
          refine g_bipush (pc := 165) (v := (48 : Int32)) dX12_reads_165 rfl ?_
          refine g_isub (pc := 167) dX12_reads_167 ?_
          obtain ⟨I_36, e_I_36, hF⟩ := am_let_el hF
          refine n_putI (pc := 168) (k := 55) e_I_36 kf_X12_200 rfl rfl (hPl.lt (by decide)) dX12_reads_168 ?_
          obtain ⟨I_38, hL_42, hF⟩ := am_b1_el hF
          have hX_39 : G am_sc0 l d 0 0 mX12_reads (am_qv N P I2) 239 [.ref 55, .int r_19] [] N P I_38 0 0 := by
            refine g_aload_n (pc := 239) dX12_reads_239 rfl rfl ?_
            refine g_getI (pc := 240) (k := 55) kf_X12_188.r rfl rfl (hPl.lt (by decide)) dX12_reads_240 ?_
            refine g_aload_n (pc := 243) dX12_reads_243 rfl rfl ?_
            refine g_getI (pc := 244) (k := 55) kf_X12_194.r rfl rfl (hPl.lt (by decide)) dX12_reads_244 ?_
            refine g_isub (pc := 247) dX12_reads_247 ?_
            refine g_iconst (pc := 248) (v := (5 : Int32)) dX12_reads_248 rfl ?_
            refine g_icmp_ge (pc := 249) (tgt := 273) dX12_reads_249 rfl (fun c_58 => ?_) (fun c_58 => ?_)
            · replace hF := am_yes c_58 hF
              cases hF
              exact g_vret (pc := 273) rfl (Nat.le_refl _) (Nat.le_refl _) dX12_reads_273 ⟨rfl, rfl, rfl, rfl⟩
            · replace hF := am_no c_58 hF
              refine g_aload_n (pc := 252) dX12_reads_252 rfl rfl ?_
              refine g_iconst (pc := 253) (v := (3 : Int32)) dX12_reads_253 rfl ?_
              obtain ⟨I_59, e_I_59, hF⟩ := am_let_el hF
              refine n_putI (pc := 254) (k := 55) e_I_59 kf_X12_197 rfl rfl (hPl.lt (by decide)) dX12_reads_254 ?_
              refine g_goto (pc := 257) (tgt := 273) dX12_reads_257 rfl ?_
              cases hF
              exact g_vret (pc := 273) rfl (Nat.le_refl _) (Nat.le_refl _) dX12_reads_273 ⟨rfl, rfl, rfl, rfl⟩
          clear hF
          have hC := am_loop (C := fun x => G am_sc0 l d 0 0 mX12_reads (am_qv N P I2) 171 [.ref 55, .int r_19] [] N P x 0 0) (by
            intro I_37 rr hF ih_40 hE_41
            refine g_aload_n (pc := 171) dX12_reads_171 rfl rfl ?_
            refine g_aload_n (pc := 172) dX12_reads_172 rfl rfl ?_
            refine g_aload_n (pc := 173) dX12_reads_173 rfl rfl ?_
            refine g_getI (pc := 174) (k := 55) kf_X12_188.r rfl rfl (hPl.lt (by decide)) dX12_reads_174 ?_
            obtain ⟨r_45, h_44, hF⟩ := am_b1_el hF
            refine g_cVi (pc := 177) (k := 55) (As := [.int (I_37 55 27)]) (st := [.ref 55]) ky_X12_raw kl_X12_191 (s_X12_raw_55 (d := 1) (hPl) (Nat.le_refl _) h_44) rfl rfl rfl (hPl.lt (by decide)) (Nat.le_trans (by decide) hd) (Nat.le_of_ble_eq_true rfl) (Nat.le_refl _) (Nat.le_refl _) dX12_reads_177 ?_
            obtain ⟨r_47, h_46, hF⟩ := am_b1_el hF
            refine g_cVz (pc := 180) (k := 55) (As := [.int r_45]) (st := []) ky_X12_isDigit kl_X12_210 (s_X12_isDigit_55 (d := 2) (hPl) (Nat.le_refl _) h_46) rfl rfl rfl (hPl.lt (by decide)) (Nat.le_trans (by decide) hd) (Nat.le_of_ble_eq_true rfl) (Nat.le_refl _) (Nat.le_refl _) dX12_reads_180 ?_
            intro z_48
            refine g_if_eq (pc := 183) (tgt := 239) dX12_reads_183 rfl (fun c_49 => ?_) (fun c_49 => ?_)
            · replace hF := am_yes c_49 hF
              cases hF
              cases hE_41 _ rfl
              exact hX_39
            · replace hF := am_no c_49 hF
              refine g_aload_n (pc := 186) dX12_reads_186 rfl rfl ?_
              refine g_aload_n (pc := 187) dX12_reads_187 rfl rfl ?_
              refine g_getI (pc := 188) (k := 55) kf_X12_200.r rfl rfl (hPl.lt (by decide)) dX12_reads_188 ?_
              refine g_sipush (pc := 191) (v := (10000 : Int32)) dX12_reads_191 rfl ?_
              obtain ⟨v_51, hR_52, hF⟩ := am_b1_el hF
              have hJ_53 : G am_sc0 l d 0 0 mX12_reads (am_qv N P I2) 223 [.ref 55, .int r_19] [.int v_51, .ref 55] N P I_37 0 0 := by
                obtain ⟨I_56, e_I_56, hF⟩ := am_let_el hF
                refine n_putI (pc := 223) (k := 55) e_I_56 kf_X12_200 rfl rfl (hPl.lt (by decide)) dX12_reads_223 ?_
                refine g_aload_n (pc := 226) dX12_reads_226 rfl rfl ?_
                refine g_aload_n (pc := 227) dX12_reads_227 rfl rfl ?_
                refine g_getI (pc := 228) (k := 55) kf_X12_188.r rfl rfl (hPl.lt (by decide)) dX12_reads_228 ?_
                refine g_iconst (pc := 231) (v := (1 : Int32)) dX12_reads_231 rfl ?_
                refine g_iadd (pc := 232) dX12_reads_232 ?_
                obtain ⟨I_57, e_I_57, hF⟩ := am_let_el hF
                refine n_putI (pc := 233) (k := 55) e_I_57 kf_X12_188 rfl rfl (hPl.lt (by decide)) dX12_reads_233 ?_
                refine g_goto (pc := 236) (tgt := 171) dX12_reads_236 rfl ?_
                cases hF
                exact ih_40 (I_57) rfl
              clear hF
              have hF := hR_52
              clear hR_52
              refine g_icmp_ge (pc := 194) (tgt := 219) dX12_reads_194 rfl (fun c_50 => ?_) (fun c_50 => ?_)
              · replace hF := am_yes c_50 hF
                refine g_aload_n (pc := 219) dX12_reads_219 rfl rfl ?_
                refine g_getI (pc := 220) (k := 55) kf_X12_200.r rfl rfl (hPl.lt (by decide)) dX12_reads_220 ?_
                cases hF
                exact hJ_53
              · replace hF := am_no c_50 hF
                refine g_bipush (pc := 197) (v := (10 : Int32)) dX12_reads_197 rfl ?_
                refine g_aload_n (pc := 199) dX12_reads_199 rfl rfl ?_
                refine g_getI (pc := 200) (k := 55) kf_X12_200.r rfl rfl (hPl.lt (by decide)) dX12_reads_200 ?_
                refine g_imul (pc := 203) dX12_reads_203 ?_
                refine g_aload_n (pc := 204) dX12_reads_204 rfl rfl ?_
                refine g_aload_n (pc := 205) dX12_reads_205 rfl rfl ?_
                refine g_getI (pc := 206) (k := 55) kf_X12_188.r rfl rfl (hPl.lt (by decide)) dX12_reads_206 ?_
                obtain ⟨r_55, h_54, hF⟩ := am_b1_el hF
                refine g_cVi (pc := 209) (k := 55) (As := [.int (I_37 55 27)]) (st := [.int ((10 : Int32) * (I_37 55 30)), .ref 55]) ky_X12_raw kl_X12_191 (s_X12_raw_55 (d := 1) (hPl) (Nat.le_refl _) h_54) rfl rfl rfl (hPl.lt (by decide)) (Nat.le_trans (by decide) hd) (Nat.le_of_ble_eq_true rfl) (Nat.le_refl _) (Nat.le_refl _) dX12_reads_209 ?_
                refine g_iadd (pc := 212) dX12_reads_212 ?_
                refine g_bipush (pc := 213) (v := (48 : Int32)) dX12_reads_213 rfl ?_
                refine g_isub (pc := 215) dX12_reads_215 ?_
                refine g_goto (pc := 216) (tgt := 223) dX12_reads_216 rfl ?_
                cases hF
                exact hJ_53
            ) _ _ hL_42
          exact hC
      · replace hF := am_no c_26 hF
        obtain ⟨I_61, hL_65, hF⟩ := am_b1_el hF
        have hX_62 : G am_sc0 l d 0 0 mX12_reads (am_qv N P I2) 123 [.ref 55, .int r_19] [] N P I_61 0 0 := by
          refine g_aload_n (pc := 123) dX12_reads_123 rfl rfl ?_
          refine g_aload_n (pc := 124) dX12_reads_124 rfl rfl ?_
          refine g_aload_n (pc := 125) dX12_reads_125 rfl rfl ?_
          refine g_getI (pc := 126) (k := 55) kf_X12_194.r rfl rfl (hPl.lt (by decide)) dX12_reads_126 ?_
          refine g_aload_n (pc := 129) dX12_reads_129 rfl rfl ?_
          refine g_getI (pc := 130) (k := 55) kf_X12_188.r rfl rfl (hPl.lt (by decide)) dX12_reads_130 ?_
          obtain ⟨r_75, h_74, hF⟩ := am_b1_el hF
          refine g_cVi (pc := 133) (k := 55) (As := [.int (I_61 55 28), .int (I_61 55 27)]) (st := [.ref 55]) ky_X12_wordAt kl_X12_206 (s_X12_wordAt_55 (d := 1) (hPl) (Nat.le_refl _) h_74) rfl rfl rfl (hPl.lt (by decide)) (Nat.le_trans (by decide) hd) (Nat.le_of_ble_eq_true rfl) (Nat.le_refl _) (Nat.le_refl _) dX12_reads_133 ?_
          obtain ⟨I_76, e_I_76, hF⟩ := am_let_el hF
          refine n_putI (pc := 136) (k := 55) e_I_76 kf_X12_200 rfl rfl (hPl.lt (by decide)) dX12_reads_136 ?_
          refine g_aload_n (pc := 139) dX12_reads_139 rfl rfl ?_
          refine g_getI (pc := 140) (k := 55) kf_X12_200.r rfl rfl (hPl.lt (by decide)) dX12_reads_140 ?_
          refine g_iconst (pc := 143) (v := (-1 : Int32)) dX12_reads_143 (by decide) ?_
          refine g_icmp_eq (pc := 144) (tgt := 273) dX12_reads_144 rfl (fun c_77 => ?_) (fun c_77 => ?_)
          · replace hF := am_yes c_77 hF
            cases hF
            exact g_vret (pc := 273) rfl (Nat.le_refl _) (Nat.le_refl _) dX12_reads_273 ⟨rfl, rfl, rfl, rfl⟩
          · replace hF := am_no c_77 hF
            refine g_aload_n (pc := 147) dX12_reads_147 rfl rfl ?_
            refine g_iconst (pc := 148) (v := (2 : Int32)) dX12_reads_148 rfl ?_
            obtain ⟨I_78, e_I_78, hF⟩ := am_let_el hF
            refine n_putI (pc := 149) (k := 55) e_I_78 kf_X12_197 rfl rfl (hPl.lt (by decide)) dX12_reads_149 ?_
            refine g_goto (pc := 152) (tgt := 273) dX12_reads_152 rfl ?_
            cases hF
            exact g_vret (pc := 273) rfl (Nat.le_refl _) (Nat.le_refl _) dX12_reads_273 ⟨rfl, rfl, rfl, rfl⟩
        clear hF
        have hC := am_loop (C := fun x => G am_sc0 l d 0 0 mX12_reads (am_qv N P I2) 95 [.ref 55, .int r_19] [] N P x 0 0) (by
          intro I_60 rr hF ih_63 hE_64
          refine g_aload_n (pc := 95) dX12_reads_95 rfl rfl ?_
          refine g_aload_n (pc := 96) dX12_reads_96 rfl rfl ?_
          refine g_aload_n (pc := 97) dX12_reads_97 rfl rfl ?_
          refine g_getI (pc := 98) (k := 55) kf_X12_188.r rfl rfl (hPl.lt (by decide)) dX12_reads_98 ?_
          obtain ⟨r_68, h_67, hF⟩ := am_b1_el hF
          refine g_cVi (pc := 101) (k := 55) (As := [.int (I_60 55 27)]) (st := [.ref 55]) ky_X12_raw kl_X12_191 (s_X12_raw_55 (d := 1) (hPl) (Nat.le_refl _) h_67) rfl rfl rfl (hPl.lt (by decide)) (Nat.le_trans (by decide) hd) (Nat.le_of_ble_eq_true rfl) (Nat.le_refl _) (Nat.le_refl _) dX12_reads_101 ?_
          obtain ⟨r_70, h_69, hF⟩ := am_b1_el hF
          refine g_cVz (pc := 104) (k := 55) (As := [.int r_68]) (st := []) ky_X12_isLetter kl_X12_203 (s_X12_isLetter_55 (d := 2) (hPl) (Nat.le_refl _) h_69) rfl rfl rfl (hPl.lt (by decide)) (Nat.le_trans (by decide) hd) (Nat.le_of_ble_eq_true rfl) (Nat.le_refl _) (Nat.le_refl _) dX12_reads_104 ?_
          intro z_71
          refine g_if_eq (pc := 107) (tgt := 123) dX12_reads_107 rfl (fun c_72 => ?_) (fun c_72 => ?_)
          · replace hF := am_yes c_72 hF
            cases hF
            cases hE_64 _ rfl
            exact hX_62
          · replace hF := am_no c_72 hF
            refine g_aload_n (pc := 110) dX12_reads_110 rfl rfl ?_
            refine g_aload_n (pc := 111) dX12_reads_111 rfl rfl ?_
            refine g_getI (pc := 112) (k := 55) kf_X12_188.r rfl rfl (hPl.lt (by decide)) dX12_reads_112 ?_
            refine g_iconst (pc := 115) (v := (1 : Int32)) dX12_reads_115 rfl ?_
            refine g_iadd (pc := 116) dX12_reads_116 ?_
            obtain ⟨I_73, e_I_73, hF⟩ := am_let_el hF
            refine n_putI (pc := 117) (k := 55) e_I_73 kf_X12_188 rfl rfl (hPl.lt (by decide)) dX12_reads_117 ?_
            refine g_goto (pc := 120) (tgt := 95) dX12_reads_120 rfl ?_
            cases hF
            exact ih_63 (I_73) rfl
          ) _ _ hL_65
        exact hC
    · replace hF := am_yes c_20 hF
      refine g_aload_n (pc := 66) dX12_reads_66 rfl rfl ?_
      refine g_iconst (pc := 67) (v := (0 : Int32)) dX12_reads_67 rfl ?_
      obtain ⟨I_79, e_I_79, hF⟩ := am_let_el hF
      refine n_putI (pc := 68) (k := 55) e_I_79 kf_X12_197 rfl rfl (hPl.lt (by decide)) dX12_reads_68 ?_
      cases hF
      exact g_vret (pc := 71) rfl (Nat.le_refl _) (Nat.le_refl _) dX12_reads_71 ⟨rfl, rfl, rfl, rfl⟩
  clear hF
  have hC := am_loop (C := fun x => G am_sc0 l d 0 0 mX12_reads (am_qv N P I2) 0 [.ref 55, .null] [] N P x 0 0) (by
    intro I_1 rr hF ih_4 hE_5
    refine g_aload_n (pc := 0) dX12_reads_0 rfl rfl ?_
    refine g_aload_n (pc := 1) dX12_reads_1 rfl rfl ?_
    refine g_getI (pc := 2) (k := 55) kf_X12_188.r rfl rfl (hPl.lt (by decide)) dX12_reads_2 ?_
    obtain ⟨r_9, h_8, hF⟩ := am_b1_el hF
    refine g_cVi (pc := 5) (k := 55) (As := [.int (I_1 55 27)]) (st := []) ky_X12_raw kl_X12_191 (s_X12_raw_55 (d := 1) (hPl) (Nat.le_refl _) h_8) rfl rfl rfl (hPl.lt (by decide)) (Nat.le_trans (by decide) hd) (Nat.le_of_ble_eq_true rfl) (Nat.le_refl _) (Nat.le_refl _) dX12_reads_5 ?_
    refine g_bipush (pc := 8) (v := (32 : Int32)) dX12_reads_8 rfl ?_
    refine g_icmp_eq (pc := 10) (tgt := 26) dX12_reads_10 rfl (fun c_10 => ?_) (fun c_10 => ?_)
    · replace hF := am_yes c_10 hF
      refine g_aload_n (pc := 26) dX12_reads_26 rfl rfl ?_
      refine g_aload_n (pc := 27) dX12_reads_27 rfl rfl ?_
      refine g_getI (pc := 28) (k := 55) kf_X12_188.r rfl rfl (hPl.lt (by decide)) dX12_reads_28 ?_
      refine g_iconst (pc := 31) (v := (1 : Int32)) dX12_reads_31 rfl ?_
      refine g_iadd (pc := 32) dX12_reads_32 ?_
      obtain ⟨I_11, e_I_11, hF⟩ := am_let_el hF
      refine n_putI (pc := 33) (k := 55) e_I_11 kf_X12_188 rfl rfl (hPl.lt (by decide)) dX12_reads_33 ?_
      refine g_goto (pc := 36) (tgt := 0) dX12_reads_36 rfl ?_
      cases hF
      exact ih_4 (I_11) rfl
    · replace hF := am_no c_10 hF
      refine g_aload_n (pc := 13) dX12_reads_13 rfl rfl ?_
      refine g_aload_n (pc := 14) dX12_reads_14 rfl rfl ?_
      refine g_getI (pc := 15) (k := 55) kf_X12_188.r rfl rfl (hPl.lt (by decide)) dX12_reads_15 ?_
      obtain ⟨r_13, h_12, hF⟩ := am_b1_el hF
      refine g_cVi (pc := 18) (k := 55) (As := [.int (I_1 55 27)]) (st := []) ky_X12_raw kl_X12_191 (s_X12_raw_55 (d := 1) (hPl) (Nat.le_refl _) h_12) rfl rfl rfl (hPl.lt (by decide)) (Nat.le_trans (by decide) hd) (Nat.le_of_ble_eq_true rfl) (Nat.le_refl _) (Nat.le_refl _) dX12_reads_18 ?_
      refine g_bipush (pc := 21) (v := (10 : Int32)) dX12_reads_21 rfl ?_
      refine g_icmp_ne (pc := 23) (tgt := 39) dX12_reads_23 rfl (fun c_14 => ?_) (fun c_14 => ?_)
      · replace hF := am_no c_14 hF
        cases hF
        cases hE_5 _ rfl
        exact hX_3
      · replace hF := am_yes c_14 hF
        refine g_aload_n (pc := 26) dX12_reads_26 rfl rfl ?_
        refine g_aload_n (pc := 27) dX12_reads_27 rfl rfl ?_
        refine g_getI (pc := 28) (k := 55) kf_X12_188.r rfl rfl (hPl.lt (by decide)) dX12_reads_28 ?_
        refine g_iconst (pc := 31) (v := (1 : Int32)) dX12_reads_31 rfl ?_
        refine g_iadd (pc := 32) dX12_reads_32 ?_
        obtain ⟨I_15, e_I_15, hF⟩ := am_let_el hF
        refine n_putI (pc := 33) (k := 55) e_I_15 kf_X12_188 rfl rfl (hPl.lt (by decide)) dX12_reads_33 ?_
        refine g_goto (pc := 36) (tgt := 0) dX12_reads_36 rfl ?_
        cases hF
        exact ih_4 (I_15) rfl
    ) _ _ hL_6
  exact hC
def F_X12_errs_55 (I : am_IT) (a1 : Int32) : Option (Int32 × am_IT) := am_let (up2 I 55 42 a1) (fun (I_1 : am_IT) => am_let (up2 I_1 55 43 (I_1 55 28)) (fun (I_2 : am_IT) => some ((-1 : Int32), I_2)))
set_option maxRecDepth 100000 in
set_option maxHeartbeats 4000000 in
theorem s_X12_errs_55 {l : Launch} {d N : Nat} {P : am_PT} (hPl : am_Pl 94 N P) (hd : 1 ≤ d) {I : am_IT} {a1 : Int32} {r : Int32} {I2 : am_IT} (hF : F_X12_errs_55 I a1 = some (r, I2)) : am_C l d 0 0 mX12_errs [.ref 55, .int a1] N P I (am_qi r N P I2) := by
  refine am_body (sc := am_sc0) (n := 0) (by decide +kernel) (by decide) rfl ?_
  change G am_sc0 l d 0 0 mX12_errs (am_qi r N P I2) 0 [.ref 55, .int a1] [] N P I 0 0
  unfold F_X12_errs_55 at hF
  refine g_aload_n (pc := 0) dX12_errs_0 rfl rfl ?_
  refine g_iload_n (pc := 1) dX12_errs_1 rfl rfl ?_
  obtain ⟨I_1, e_I_1, hF⟩ := am_let_el hF
  refine n_putI (pc := 2) (k := 55) e_I_1 kf_X12_216 rfl rfl (hPl.lt (by decide)) dX12_errs_2 ?_
  refine g_aload_n (pc := 5) dX12_errs_5 rfl rfl ?_
  refine g_aload_n (pc := 6) dX12_errs_6 rfl rfl ?_
  refine g_getI (pc := 7) (k := 55) kf_X12_194.r rfl rfl (hPl.lt (by decide)) dX12_errs_7 ?_
  obtain ⟨I_2, e_I_2, hF⟩ := am_let_el hF
  refine n_putI (pc := 10) (k := 55) e_I_2 kf_X12_219 rfl rfl (hPl.lt (by decide)) dX12_errs_10 ?_
  refine g_iconst (pc := 13) (v := (-1 : Int32)) dX12_errs_13 (by decide) ?_
  cases hF
  exact g_iret (pc := 14) rfl (Nat.le_refl _) (Nat.le_refl _) dX12_errs_14 ⟨rfl, rfl, rfl, rfl⟩
def F_X12_isWord_55 (I : am_IT) (a1 : Int32) : Option (Int32) := if (I 55 29) = (2 : Int32) then (if (I 55 30) = a1 then (some (1 : Int32)) else (some (0 : Int32))) else (some (0 : Int32))
set_option maxRecDepth 100000 in
set_option maxHeartbeats 4000000 in
theorem s_X12_isWord_55 {l : Launch} {d N : Nat} {P : am_PT} (hPl : am_Pl 94 N P) (hd : 1 ≤ d) {I : am_IT} {a1 : Int32} {r : Int32} (hF : F_X12_isWord_55 I a1 = some (r)) : am_C l d 0 0 mX12_isWord [.ref 55, .int a1] N P I (am_qz r N P I) := by
  refine am_body (sc := am_sc0) (n := 0) (by decide +kernel) (by decide) rfl ?_
  change G am_sc0 l d 0 0 mX12_isWord (am_qz r N P I) 0 [.ref 55, .int a1] [] N P I 0 0
  unfold F_X12_isWord_55 at hF
  refine g_aload_n (pc := 0) dX12_isWord_0 rfl rfl ?_
  refine g_getI (pc := 1) (k := 55) kf_X12_197.r rfl rfl (hPl.lt (by decide)) dX12_isWord_1 ?_
  refine g_iconst (pc := 4) (v := (2 : Int32)) dX12_isWord_4 rfl ?_
  refine g_icmp_ne (pc := 5) (tgt := 20) dX12_isWord_5 rfl (fun c_1 => ?_) (fun c_1 => ?_)
  · replace hF := am_no c_1 hF
    refine g_iconst (pc := 20) (v := (0 : Int32)) dX12_isWord_20 rfl ?_
    cases hF
    exact g_zret (pc := 21) rfl (Or.inl rfl) (Nat.le_refl _) (Nat.le_refl _) dX12_isWord_21 ⟨(Or.inl rfl), rfl, rfl, rfl, rfl⟩
  · replace hF := am_yes c_1 hF
    refine g_aload_n (pc := 8) dX12_isWord_8 rfl rfl ?_
    refine g_getI (pc := 9) (k := 55) kf_X12_200.r rfl rfl (hPl.lt (by decide)) dX12_isWord_9 ?_
    refine g_iload_n (pc := 12) dX12_isWord_12 rfl rfl ?_
    refine g_icmp_ne (pc := 13) (tgt := 20) dX12_isWord_13 rfl (fun c_2 => ?_) (fun c_2 => ?_)
    · replace hF := am_no c_2 hF
      refine g_iconst (pc := 20) (v := (0 : Int32)) dX12_isWord_20 rfl ?_
      cases hF
      exact g_zret (pc := 21) rfl (Or.inl rfl) (Nat.le_refl _) (Nat.le_refl _) dX12_isWord_21 ⟨(Or.inl rfl), rfl, rfl, rfl, rfl⟩
    · replace hF := am_yes c_2 hF
      refine g_iconst (pc := 16) (v := (1 : Int32)) dX12_isWord_16 rfl ?_
      refine g_goto (pc := 17) (tgt := 21) dX12_isWord_17 rfl ?_
      cases hF
      exact g_zret (pc := 21) rfl (Or.inr rfl) (Nat.le_refl _) (Nat.le_refl _) dX12_isWord_21 ⟨(Or.inr rfl), rfl, rfl, rfl, rfl⟩
