def F_X2_colourByTurn_25_27 (I : am_IT) (a2 : Int32) : Option (Int32) := if (I 1 4) = 0 then (if am_ix a2 7 = true then (some (I 3 a2.toNatClampNeg)) else none) else (if ¬ (I 1 4) = (0 : Int32) then (am_let (((I 1 2) + a2) - ((I 1 2) + a2) / (I 1 4) * (I 1 4)) (fun (l3_3 : Int32) => am_b1 (F_X8_yardsOf_23 I l3_3 a2) (fun (r_5 : Int32) => if r_5 ≤ 0 then (if am_ix a2 7 = true then (some (I 3 a2.toNatClampNeg)) else none) else (am_b1 (F_X9_favourite_1_27 I l3_3) (fun (r_9 : Int32) => some r_9))))) else none)
set_option maxRecDepth 100000 in
set_option maxHeartbeats 4000000 in
theorem s_X2_colourByTurn_25_27 {l : Launch} {d N : Nat} {P : am_PT} (hPl : am_Pl 94 N P) (hd : 2 ≤ d) {I : am_IT} {a2 : Int32} {r : Int32} (hF : F_X2_colourByTurn_25_27 I a2 = some (r)) : am_C l d 0 0 mX2_colourByTurn [.ref 25, .ref 27, .int a2] N P I (am_qi r N P I) := by
  refine am_body (sc := am_sc0) (n := 1) (by decide +kernel) (by decide) rfl ?_
  change G am_sc0 l d 0 0 mX2_colourByTurn (am_qi r N P I) 0 [.ref 25, .ref 27, .int a2, .null] [] N P I 0 0
  unfold F_X2_colourByTurn_25_27 at hF
  refine g_aload_n (pc := 0) dX2_colourByTurn_0 rfl rfl ?_
  refine g_getR (pc := 1) (k := 25) (r := 1) kf_X2_31.r rfl rfl (hPl.get (by decide) rfl) (hPl.lt (by decide)) dX2_colourByTurn_1 ?_
  refine g_getI (pc := 4) (k := 1) kf_X2_102.r rfl rfl (hPl.lt (by decide)) dX2_colourByTurn_4 ?_
  refine g_if_ne (pc := 7) (tgt := 20) dX2_colourByTurn_7 rfl (fun c_1 => ?_) (fun c_1 => ?_)
  · replace hF := am_no c_1 hF
    refine g_aload_n (pc := 20) dX2_colourByTurn_20 rfl rfl ?_
    refine g_getR (pc := 21) (k := 25) (r := 1) kf_X2_31.r rfl rfl (hPl.get (by decide) rfl) (hPl.lt (by decide)) dX2_colourByTurn_21 ?_
    refine g_getI (pc := 24) (k := 1) kf_X2_114.r rfl rfl (hPl.lt (by decide)) dX2_colourByTurn_24 ?_
    refine g_iload_n (pc := 27) dX2_colourByTurn_27 rfl rfl ?_
    refine g_iadd (pc := 28) dX2_colourByTurn_28 ?_
    refine g_aload_n (pc := 29) dX2_colourByTurn_29 rfl rfl ?_
    refine g_getR (pc := 30) (k := 25) (r := 1) kf_X2_31.r rfl rfl (hPl.get (by decide) rfl) (hPl.lt (by decide)) dX2_colourByTurn_30 ?_
    refine g_getI (pc := 33) (k := 1) kf_X2_102.r rfl rfl (hPl.lt (by decide)) dX2_colourByTurn_33 ?_
    obtain ⟨c_2, hF⟩ := am_gd hF
    refine g_irem (pc := 36) dX2_colourByTurn_36 c_2 ?_
    obtain ⟨l3_3, e_l3_3, hF⟩ := am_let_el hF
    refine n_istore_n (pc := 37) (ls2 := [.ref 25, .ref 27, .int a2, .int l3_3]) e_l3_3 rfl dX2_colourByTurn_37 rfl (Nat.le_of_ble_eq_true rfl) ?_
    refine g_aload_n (pc := 38) dX2_colourByTurn_38 rfl rfl ?_
    refine g_getR (pc := 39) (k := 25) (r := 23) kf_X2_35.r rfl rfl (hPl.get (by decide) rfl) (hPl.lt (by decide)) dX2_colourByTurn_39 ?_
    refine g_iload_n (pc := 42) dX2_colourByTurn_42 rfl rfl ?_
    refine g_iload_n (pc := 43) dX2_colourByTurn_43 rfl rfl ?_
    obtain ⟨r_5, h_4, hF⟩ := am_b1_el hF
    refine g_cVi (pc := 44) (k := 23) (As := [.int l3_3, .int a2]) (st := []) ky_X8_yardsOf kl_X2_105 (s_X8_yardsOf_23 (d := 1) (hPl) (Nat.le_refl _) h_4) rfl rfl rfl (hPl.lt (by decide)) (Nat.le_trans (by decide) hd) (Nat.le_of_ble_eq_true rfl) (Nat.le_refl _) (Nat.le_refl _) dX2_colourByTurn_44 ?_
    refine g_if_le (pc := 47) (tgt := 62) dX2_colourByTurn_47 rfl (fun c_6 => ?_) (fun c_6 => ?_)
    · replace hF := am_yes c_6 hF
      refine g_aload_n (pc := 62) dX2_colourByTurn_62 rfl rfl ?_
      refine g_getR (pc := 63) (k := 25) (r := 1) kf_X2_31.r rfl rfl (hPl.get (by decide) rfl) (hPl.lt (by decide)) dX2_colourByTurn_63 ?_
      refine g_getR (pc := 66) (k := 1) (r := 3) kf_X2_81 rfl rfl (hPl.get (by decide) rfl) (hPl.lt (by decide)) dX2_colourByTurn_66 ?_
      refine g_iload_n (pc := 69) dX2_colourByTurn_69 rfl rfl ?_
      obtain ⟨c_7, hF⟩ := am_gd hF
      refine g_iald (pc := 70) (k := 3) rfl (hPl.lt (by decide)) (am_ix_use c_7) dX2_colourByTurn_70 ?_
      cases hF
      exact g_iret (pc := 71) rfl (Nat.le_refl _) (Nat.le_refl _) dX2_colourByTurn_71 ⟨rfl, rfl, rfl, rfl⟩
    · replace hF := am_no c_6 hF
      refine g_aload_n (pc := 50) dX2_colourByTurn_50 rfl rfl ?_
      refine g_getR (pc := 51) (k := 25) (r := 1) kf_X2_31.r rfl rfl (hPl.get (by decide) rfl) (hPl.lt (by decide)) dX2_colourByTurn_51 ?_
      refine g_aload_n (pc := 54) dX2_colourByTurn_54 rfl rfl ?_
      refine g_iload_n (pc := 55) dX2_colourByTurn_55 rfl rfl ?_
      obtain ⟨r_9, h_8, hF⟩ := am_b1_el hF
      refine g_cVi (pc := 56) (k := 1) (As := [.ref 27, .int l3_3]) (st := []) ky_X9_favourite kl_X2_92 (s_X9_favourite_1_27 (d := 1) (hPl) (Nat.le_refl _) h_8) rfl rfl rfl (hPl.lt (by decide)) (Nat.le_trans (by decide) hd) (Nat.le_of_ble_eq_true rfl) (Nat.le_refl _) (Nat.le_refl _) dX2_colourByTurn_56 ?_
      refine g_goto (pc := 59) (tgt := 71) dX2_colourByTurn_59 rfl ?_
      cases hF
      exact g_iret (pc := 71) rfl (Nat.le_refl _) (Nat.le_refl _) dX2_colourByTurn_71 ⟨rfl, rfl, rfl, rfl⟩
  · replace hF := am_yes c_1 hF
    refine g_aload_n (pc := 10) dX2_colourByTurn_10 rfl rfl ?_
    refine g_getR (pc := 11) (k := 25) (r := 1) kf_X2_31.r rfl rfl (hPl.get (by decide) rfl) (hPl.lt (by decide)) dX2_colourByTurn_11 ?_
    refine g_getR (pc := 14) (k := 1) (r := 3) kf_X2_81 rfl rfl (hPl.get (by decide) rfl) (hPl.lt (by decide)) dX2_colourByTurn_14 ?_
    refine g_iload_n (pc := 17) dX2_colourByTurn_17 rfl rfl ?_
    obtain ⟨c_10, hF⟩ := am_gd hF
    refine g_iald (pc := 18) (k := 3) rfl (hPl.lt (by decide)) (am_ix_use c_10) dX2_colourByTurn_18 ?_
    cases hF
    exact g_iret (pc := 19) rfl (Nat.le_refl _) (Nat.le_refl _) dX2_colourByTurn_19 ⟨rfl, rfl, rfl, rfl⟩
def F_X2_decideWall_25_27 (I : am_IT) (a2 : Int32) : Option (Int32 × am_IT) := am_b1 (F_X2_gatherFacts_25 I a2) (fun (I_2 : am_IT) => if am_ix (1 : Int32) 6 = true then (if (I_2 28 (1 : Int32).toNatClampNeg) = 0 then (if am_ix a2 7 = true then (some (I_2 3 a2.toNatClampNeg, I_2)) else none) else (am_b2 (F_X2_chosenMethod_25 I_2) (fun (r_6 : Int32) (I_7 : am_IT) => if r_6 = (261 : Int32) then (am_b1 (F_X2_seerOfMost_25 I_7 a2) (fun (r_10 : Int32) => am_b1 (F_X9_favourite_1_27 I_7 r_10) (fun (r_12 : Int32) => some (r_12, I_7)))) else (if r_6 = (262 : Int32) then (am_b1 (F_X2_colourOfMost_25_27 I_7 a2 r_6) (fun (r_15 : Int32) => some (r_15, I_7))) else (if r_6 = (263 : Int32) then (am_b1 (F_X2_colourOfMost_25_27 I_7 a2 r_6) (fun (r_18 : Int32) => some (r_18, I_7))) else (if r_6 = (264 : Int32) then (am_b1 (F_X2_colourOfMost_25_27 I_7 a2 r_6) (fun (r_21 : Int32) => some (r_21, I_7))) else (if r_6 = (265 : Int32) then (am_b1 (F_X2_colourByTurn_25_27 I_7 a2) (fun (r_24 : Int32) => some (r_24, I_7))) else (if am_out r_6 (261) (265) = true then (if am_ix a2 7 = true then (some (I_7 3 a2.toNatClampNeg, I_7)) else none) else none)))))))) else none)
set_option maxRecDepth 100000 in
set_option maxHeartbeats 4000000 in
theorem s_X2_decideWall_25_27 {l : Launch} {d N : Nat} {P : am_PT} (hPl : am_Pl 94 N P) (hd : 4 ≤ d) {I : am_IT} {a2 : Int32} {r : Int32} {I2 : am_IT} (hF : F_X2_decideWall_25_27 I a2 = some (r, I2)) : am_C l d 0 0 mX2_decideWall [.ref 25, .ref 27, .int a2] N P I (am_qi r N P I2) := by
  refine am_body (sc := am_sc0) (n := 1) (by decide +kernel) (by decide) rfl ?_
  change G am_sc0 l d 0 0 mX2_decideWall (am_qi r N P I2) 0 [.ref 25, .ref 27, .int a2, .null] [] N P I 0 0
  unfold F_X2_decideWall_25_27 at hF
  refine g_aload_n (pc := 0) dX2_decideWall_0 rfl rfl ?_
  refine g_iload_n (pc := 1) dX2_decideWall_1 rfl rfl ?_
  obtain ⟨I_2, h_1, hF⟩ := am_b1_el hF
  refine g_cVv (pc := 2) (k := 25) (As := [.int a2]) (st := []) ky_X2_gatherFacts kl_X2_77 (s_X2_gatherFacts_25 (d := 2) (hPl) (Nat.le_refl _) h_1) rfl rfl rfl (hPl.lt (by decide)) (Nat.le_trans (by decide) hd) (Nat.le_of_ble_eq_true rfl) (Nat.le_refl _) (Nat.le_refl _) dX2_decideWall_2 ?_
  refine g_aload_n (pc := 5) dX2_decideWall_5 rfl rfl ?_
  refine g_getR (pc := 6) (k := 25) (r := 28) kf_X2_25.r rfl rfl (hPl.get (by decide) rfl) (hPl.lt (by decide)) dX2_decideWall_6 ?_
  refine g_iconst (pc := 9) (v := (1 : Int32)) dX2_decideWall_9 rfl ?_
  obtain ⟨c_3, hF⟩ := am_gd hF
  refine g_iald (pc := 10) (k := 28) rfl (hPl.lt (by decide)) (am_ix_use c_3) dX2_decideWall_10 ?_
  refine g_if_ne (pc := 11) (tgt := 24) dX2_decideWall_11 rfl (fun c_4 => ?_) (fun c_4 => ?_)
  · replace hF := am_no c_4 hF
    refine g_aload_n (pc := 24) dX2_decideWall_24 rfl rfl ?_
    obtain ⟨r_6, I_7, h_5, hF⟩ := am_b2_el hF
    refine g_cVi (pc := 25) (k := 25) (As := []) (st := []) ky_X2_chosenMethod kl_X2_84 (s_X2_chosenMethod_25 (d := 3) (hPl) (Nat.le_refl _) h_5) rfl rfl rfl (hPl.lt (by decide)) (Nat.le_trans (by decide) hd) (Nat.le_of_ble_eq_true rfl) (Nat.le_refl _) (Nat.le_refl _) dX2_decideWall_25 ?_
    refine n_istore_n (pc := 28) (ls2 := [.ref 25, .ref 27, .int a2, .int r_6]) rfl rfl dX2_decideWall_28 rfl (Nat.le_of_ble_eq_true rfl) ?_
    refine g_iload_n (pc := 29) dX2_decideWall_29 rfl rfl ?_
    by_cases c_8 : r_6 = (261 : Int32)
    · replace hF := am_yes c_8 hF
      refine g_tableIn (pc := 30) (tgt := 64) dX2_decideWall_30 (by rw [c_8]; decide) (by rw [c_8]; decide) (by rw [c_8]; rfl) rfl ?_
      refine g_aload_n (pc := 64) dX2_decideWall_64 rfl rfl ?_
      refine g_getR (pc := 65) (k := 25) (r := 1) kf_X2_31.r rfl rfl (hPl.get (by decide) rfl) (hPl.lt (by decide)) dX2_decideWall_65 ?_
      refine g_aload_n (pc := 68) dX2_decideWall_68 rfl rfl ?_
      refine g_aload_n (pc := 69) dX2_decideWall_69 rfl rfl ?_
      refine g_iload_n (pc := 70) dX2_decideWall_70 rfl rfl ?_
      obtain ⟨r_10, h_9, hF⟩ := am_b1_el hF
      refine g_cVi (pc := 71) (k := 25) (As := [.int a2]) (st := [.ref 27, .ref 1]) ky_X2_seerOfMost kl_X2_88 (s_X2_seerOfMost_25 (d := 2) (hPl) (Nat.le_refl _) h_9) rfl rfl rfl (hPl.lt (by decide)) (Nat.le_trans (by decide) hd) (Nat.le_of_ble_eq_true rfl) (Nat.le_refl _) (Nat.le_refl _) dX2_decideWall_71 ?_
      obtain ⟨r_12, h_11, hF⟩ := am_b1_el hF
      refine g_cVi (pc := 74) (k := 1) (As := [.ref 27, .int r_10]) (st := []) ky_X9_favourite kl_X2_92 (s_X9_favourite_1_27 (d := 1) (hPl) (Nat.le_refl _) h_11) rfl rfl rfl (hPl.lt (by decide)) (Nat.le_trans (by decide) hd) (Nat.le_of_ble_eq_true rfl) (Nat.le_refl _) (Nat.le_refl _) dX2_decideWall_74 ?_
      cases hF
      exact g_iret (pc := 77) rfl (Nat.le_refl _) (Nat.le_refl _) dX2_decideWall_77 ⟨rfl, rfl, rfl, rfl⟩
    · replace hF := am_no c_8 hF
      by_cases c_13 : r_6 = (262 : Int32)
      · replace hF := am_yes c_13 hF
        refine g_tableIn (pc := 30) (tgt := 78) dX2_decideWall_30 (by rw [c_13]; decide) (by rw [c_13]; decide) (by rw [c_13]; rfl) rfl ?_
        refine g_aload_n (pc := 78) dX2_decideWall_78 rfl rfl ?_
        refine g_aload_n (pc := 79) dX2_decideWall_79 rfl rfl ?_
        refine g_iload_n (pc := 80) dX2_decideWall_80 rfl rfl ?_
        refine g_iload_n (pc := 81) dX2_decideWall_81 rfl rfl ?_
        obtain ⟨r_15, h_14, hF⟩ := am_b1_el hF
        refine g_cVi (pc := 82) (k := 25) (As := [.ref 27, .int a2, .int r_6]) (st := []) ky_X2_colourOfMost kl_X2_95 (s_X2_colourOfMost_25_27 (d := 3) (hPl) (Nat.le_refl _) h_14) rfl rfl rfl (hPl.lt (by decide)) (Nat.le_trans (by decide) hd) (Nat.le_of_ble_eq_true rfl) (Nat.le_refl _) (Nat.le_refl _) dX2_decideWall_82 ?_
        cases hF
        exact g_iret (pc := 85) rfl (Nat.le_refl _) (Nat.le_refl _) dX2_decideWall_85 ⟨rfl, rfl, rfl, rfl⟩
      · replace hF := am_no c_13 hF
        by_cases c_16 : r_6 = (263 : Int32)
        · replace hF := am_yes c_16 hF
          refine g_tableIn (pc := 30) (tgt := 78) dX2_decideWall_30 (by rw [c_16]; decide) (by rw [c_16]; decide) (by rw [c_16]; rfl) rfl ?_
          refine g_aload_n (pc := 78) dX2_decideWall_78 rfl rfl ?_
          refine g_aload_n (pc := 79) dX2_decideWall_79 rfl rfl ?_
          refine g_iload_n (pc := 80) dX2_decideWall_80 rfl rfl ?_
          refine g_iload_n (pc := 81) dX2_decideWall_81 rfl rfl ?_
          obtain ⟨r_18, h_17, hF⟩ := am_b1_el hF
          refine g_cVi (pc := 82) (k := 25) (As := [.ref 27, .int a2, .int r_6]) (st := []) ky_X2_colourOfMost kl_X2_95 (s_X2_colourOfMost_25_27 (d := 3) (hPl) (Nat.le_refl _) h_17) rfl rfl rfl (hPl.lt (by decide)) (Nat.le_trans (by decide) hd) (Nat.le_of_ble_eq_true rfl) (Nat.le_refl _) (Nat.le_refl _) dX2_decideWall_82 ?_
          cases hF
          exact g_iret (pc := 85) rfl (Nat.le_refl _) (Nat.le_refl _) dX2_decideWall_85 ⟨rfl, rfl, rfl, rfl⟩
        · replace hF := am_no c_16 hF
          by_cases c_19 : r_6 = (264 : Int32)
          · replace hF := am_yes c_19 hF
            refine g_tableIn (pc := 30) (tgt := 78) dX2_decideWall_30 (by rw [c_19]; decide) (by rw [c_19]; decide) (by rw [c_19]; rfl) rfl ?_
            refine g_aload_n (pc := 78) dX2_decideWall_78 rfl rfl ?_
            refine g_aload_n (pc := 79) dX2_decideWall_79 rfl rfl ?_
            refine g_iload_n (pc := 80) dX2_decideWall_80 rfl rfl ?_
            refine g_iload_n (pc := 81) dX2_decideWall_81 rfl rfl ?_
            obtain ⟨r_21, h_20, hF⟩ := am_b1_el hF
            refine g_cVi (pc := 82) (k := 25) (As := [.ref 27, .int a2, .int r_6]) (st := []) ky_X2_colourOfMost kl_X2_95 (s_X2_colourOfMost_25_27 (d := 3) (hPl) (Nat.le_refl _) h_20) rfl rfl rfl (hPl.lt (by decide)) (Nat.le_trans (by decide) hd) (Nat.le_of_ble_eq_true rfl) (Nat.le_refl _) (Nat.le_refl _) dX2_decideWall_82 ?_
            cases hF
            exact g_iret (pc := 85) rfl (Nat.le_refl _) (Nat.le_refl _) dX2_decideWall_85 ⟨rfl, rfl, rfl, rfl⟩
          · replace hF := am_no c_19 hF
            by_cases c_22 : r_6 = (265 : Int32)
            · replace hF := am_yes c_22 hF
              refine g_tableIn (pc := 30) (tgt := 86) dX2_decideWall_30 (by rw [c_22]; decide) (by rw [c_22]; decide) (by rw [c_22]; rfl) rfl ?_
              refine g_aload_n (pc := 86) dX2_decideWall_86 rfl rfl ?_
              refine g_aload_n (pc := 87) dX2_decideWall_87 rfl rfl ?_
              refine g_iload_n (pc := 88) dX2_decideWall_88 rfl rfl ?_
              obtain ⟨r_24, h_23, hF⟩ := am_b1_el hF
              refine g_cVi (pc := 89) (k := 25) (As := [.ref 27, .int a2]) (st := []) ky_X2_colourByTurn kl_X2_99 (s_X2_colourByTurn_25_27 (d := 2) (hPl) (Nat.le_refl _) h_23) rfl rfl rfl (hPl.lt (by decide)) (Nat.le_trans (by decide) hd) (Nat.le_of_ble_eq_true rfl) (Nat.le_refl _) (Nat.le_refl _) dX2_decideWall_89 ?_
              cases hF
              exact g_iret (pc := 92) rfl (Nat.le_refl _) (Nat.le_refl _) dX2_decideWall_92 ⟨rfl, rfl, rfl, rfl⟩
            · replace hF := am_no c_22 hF
              obtain ⟨c_26, hF⟩ := am_gd hF
              refine g_tableOut (pc := 30) (tgt := 93) dX2_decideWall_30 (am_out_use c_26) rfl ?_
              refine g_aload_n (pc := 93) dX2_decideWall_93 rfl rfl ?_
              refine g_getR (pc := 94) (k := 25) (r := 1) kf_X2_31.r rfl rfl (hPl.get (by decide) rfl) (hPl.lt (by decide)) dX2_decideWall_94 ?_
              refine g_getR (pc := 97) (k := 1) (r := 3) kf_X2_81 rfl rfl (hPl.get (by decide) rfl) (hPl.lt (by decide)) dX2_decideWall_97 ?_
              refine g_iload_n (pc := 100) dX2_decideWall_100 rfl rfl ?_
              obtain ⟨c_25, hF⟩ := am_gd hF
              refine g_iald (pc := 101) (k := 3) rfl (hPl.lt (by decide)) (am_ix_use c_25) dX2_decideWall_101 ?_
              cases hF
              exact g_iret (pc := 102) rfl (Nat.le_refl _) (Nat.le_refl _) dX2_decideWall_102 ⟨rfl, rfl, rfl, rfl⟩
  · replace hF := am_yes c_4 hF
    refine g_aload_n (pc := 14) dX2_decideWall_14 rfl rfl ?_
    refine g_getR (pc := 15) (k := 25) (r := 1) kf_X2_31.r rfl rfl (hPl.get (by decide) rfl) (hPl.lt (by decide)) dX2_decideWall_15 ?_
    refine g_getR (pc := 18) (k := 1) (r := 3) kf_X2_81 rfl rfl (hPl.get (by decide) rfl) (hPl.lt (by decide)) dX2_decideWall_18 ?_
    refine g_iload_n (pc := 21) dX2_decideWall_21 rfl rfl ?_
    obtain ⟨c_27, hF⟩ := am_gd hF
    refine g_iald (pc := 22) (k := 3) rfl (hPl.lt (by decide)) (am_ix_use c_27) dX2_decideWall_22 ?_
    cases hF
    exact g_iret (pc := 23) rfl (Nat.le_refl _) (Nat.le_refl _) dX2_decideWall_23 ⟨rfl, rfl, rfl, rfl⟩
def F_X2_decide_25_27 (I : am_IT) : Option (am_IT) := am_b1 (F_X8_measure_23 I) (fun (I_2 : am_IT) => am_b1 (am_it am_fu (am_u2 (fun (l2_3 : Int32) (I_4 : am_IT) => if (I_4 1 3) ≤ l2_3 then (some (.inr (I_4))) else (am_b2 (F_X2_decideWall_25_27 I_4 l2_3) (fun (r_13 : Int32) (I_14 : am_IT) => if am_ix l2_3 7 = true then (am_let (up2 I_14 26 l2_3.toNatClampNeg r_13) (fun (I_16 : am_IT) => am_let (l2_3 + (1 : Int32)) (fun (l2_17 : Int32) => some (.inl (l2_17, I_16))))) else none)))) ((0 : Int32), I_2)) (fun (I_5 : am_IT) => some I_5))
set_option maxRecDepth 100000 in
set_option maxHeartbeats 4000000 in
theorem s_X2_decide_25_27 {l : Launch} {d N : Nat} {P : am_PT} (hPl : am_Pl 94 N P) (hd : 5 ≤ d) {I : am_IT} {I2 : am_IT} (hF : F_X2_decide_25_27 I = some (I2)) : am_C l d 0 0 mX2_decide [.ref 25, .ref 27] N P I (am_qv N P I2) := by
  refine am_body (sc := am_sc0) (n := 1) (by decide +kernel) (by decide) rfl ?_
  change G am_sc0 l d 0 0 mX2_decide (am_qv N P I2) 0 [.ref 25, .ref 27, .null] [] N P I 0 0
  unfold F_X2_decide_25_27 at hF
  refine g_aload_n (pc := 0) dX2_decide_0 rfl rfl ?_
  refine g_getR (pc := 1) (k := 25) (r := 23) kf_X2_35.r rfl rfl (hPl.get (by decide) rfl) (hPl.lt (by decide)) dX2_decide_1 ?_
  obtain ⟨I_2, h_1, hF⟩ := am_b1_el hF
  refine g_cVv (pc := 4) (k := 23) (As := []) (st := []) ky_X8_measure kl_X2_39 (s_X8_measure_23 (d := 2) (hPl) (Nat.le_refl _) h_1) rfl rfl rfl (hPl.lt (by decide)) (Nat.le_trans (by decide) hd) (Nat.le_of_ble_eq_true rfl) (Nat.le_refl _) (Nat.le_refl _) dX2_decide_4 ?_
  refine g_iconst (pc := 7) (v := (0 : Int32)) dX2_decide_7 rfl ?_
  refine n_istore_n (pc := 8) (ls2 := [.ref 25, .ref 27, .int (0 : Int32)]) rfl rfl dX2_decide_8 rfl (Nat.le_of_ble_eq_true rfl) ?_
  obtain ⟨I_5, hL_9, hF⟩ := am_b1_el hF
  have hX_6 : G am_sc0 l d 0 0 mX2_decide (am_qv N P I2) 38 [.ref 25, .ref 27, .null] [] N P I_5 0 0 := by
    cases hF
    exact g_vret (pc := 38) rfl (Nat.le_refl _) (Nat.le_refl _) dX2_decide_38 ⟨rfl, rfl, rfl, rfl⟩
  clear hF
  have hC := am_loop (C := fun x => G am_sc0 l d 0 0 mX2_decide (am_qv N P I2) 9 [.ref 25, .ref 27, .int x.1] [] N P x.2 0 0) (by
    rintro ⟨l2_3, I_4⟩ rr hF ih_7 hE_8
    replace hF := am_u2_ap hF
    change G am_sc0 l d 0 0 mX2_decide (am_qv N P I2) 9 [.ref 25, .ref 27, .int l2_3] [] N P I_4 0 0
    refine g_iload_n (pc := 9) dX2_decide_9 rfl rfl ?_
    refine g_aload_n (pc := 10) dX2_decide_10 rfl rfl ?_
    refine g_getR (pc := 11) (k := 25) (r := 1) kf_X2_31.r rfl rfl (hPl.get (by decide) rfl) (hPl.lt (by decide)) dX2_decide_11 ?_
    refine g_getI (pc := 14) (k := 1) kf_X2_44.r rfl rfl (hPl.lt (by decide)) dX2_decide_14 ?_
    refine g_icmp_ge (pc := 17) (tgt := 38) dX2_decide_17 rfl (fun c_11 => ?_) (fun c_11 => ?_)
    · replace hF := am_yes c_11 hF
      cases hF
      cases hE_8 _ rfl
      exact g_weak hX_6 ⟨Or.inr rfl, Or.inr rfl, Or.inl rfl, trivial⟩
    · replace hF := am_no c_11 hF
      refine g_aload_n (pc := 20) dX2_decide_20 rfl rfl ?_
      refine g_getR (pc := 21) (k := 25) (r := 26) kf_X2_9.r rfl rfl (hPl.get (by decide) rfl) (hPl.lt (by decide)) dX2_decide_21 ?_
      refine g_iload_n (pc := 24) dX2_decide_24 rfl rfl ?_
      refine g_aload_n (pc := 25) dX2_decide_25 rfl rfl ?_
      refine g_aload_n (pc := 26) dX2_decide_26 rfl rfl ?_
      refine g_iload_n (pc := 27) dX2_decide_27 rfl rfl ?_
      obtain ⟨r_13, I_14, h_12, hF⟩ := am_b2_el hF
      refine g_cVi (pc := 28) (k := 25) (As := [.ref 27, .int l2_3]) (st := [.int l2_3, .ref 26]) ky_X2_decideWall kl_X2_49 (s_X2_decideWall_25_27 (d := 4) (hPl) (Nat.le_refl _) h_12) rfl rfl rfl (hPl.lt (by decide)) (Nat.le_trans (by decide) hd) (Nat.le_of_ble_eq_true rfl) (Nat.le_refl _) (Nat.le_refl _) dX2_decide_28 ?_
      obtain ⟨c_15, hF⟩ := am_gd hF
      obtain ⟨I_16, e_I_16, hF⟩ := am_let_el hF
      refine n_iast (pc := 31) (k := 26) e_I_16 rfl (hPl.lt (by decide)) (am_ix_use c_15) dX2_decide_31 ?_
      obtain ⟨l2_17, e_l2_17, hF⟩ := am_let_el hF
      refine n_iinc (pc := 32) (ls2 := [.ref 25, .ref 27, .int l2_17]) e_l2_17 rfl rfl rfl dX2_decide_32 (Nat.le_of_ble_eq_true rfl) ?_
      refine g_goto (pc := 35) (tgt := 9) dX2_decide_35 rfl ?_
      cases hF
      exact ih_7 (l2_17, I_16) rfl
    ) _ _ hL_9
  exact hC
def F_X2_weighSayings_25 (I : am_IT) (a1 : Int32) : Option (am_IT) := am_b1 (F_X2_decide_25_8 I) (fun (I_2 : am_IT) => am_b1 (F_X8_worthTo_23_26 I_2 a1) (fun (r_4 : Int32) => am_let (up2 I_2 25 1 (-1 : Int32)) (fun (I_5 : am_IT) => am_let (up2 I_5 25 2 (0 : Int32)) (fun (I_6 : am_IT) => am_b1 (am_it am_fu (am_u2 (fun (l3_7 : Int32) (I_8 : am_IT) => if (I_8 1 0) ≤ l3_7 then (some (.inr (I_8))) else (am_b1 (F_X2_sayAlone_25 I_8 a1 l3_7) (fun (I_17 : am_IT) => am_b1 (F_X2_decide_25_27 I_17) (fun (I_19 : am_IT) => am_b1 (F_X8_worthTo_23_26 I_19 a1) (fun (r_21 : Int32) => am_let (r_21 - r_4) (fun (l4_22 : Int32) => if l4_22 ≤ (I_19 25 2) then (am_let (l3_7 + (1 : Int32)) (fun (l3_24 : Int32) => some (.inl (l3_24, I_19)))) else (am_let (up2 I_19 25 2 l4_22) (fun (I_25 : am_IT) => am_let (up2 I_25 25 1 l3_7) (fun (I_26 : am_IT) => am_let (l3_7 + (1 : Int32)) (fun (l3_27 : Int32) => some (.inl (l3_27, I_26))))))))))))) ((0 : Int32), I_6)) (fun (I_9 : am_IT) => some I_9)))))
set_option maxRecDepth 100000 in
set_option maxHeartbeats 4000000 in
theorem s_X2_weighSayings_25 {l : Launch} {d N : Nat} {P : am_PT} (hPl : am_Pl 94 N P) (hd : 6 ≤ d) {I : am_IT} {a1 : Int32} {I2 : am_IT} (hF : F_X2_weighSayings_25 I a1 = some (I2)) : am_C l d 0 0 mX2_weighSayings [.ref 25, .int a1] N P I (am_qv N P I2) := by
  refine am_body (sc := am_sc0) (n := 3) (by decide +kernel) (by decide) rfl ?_
  change G am_sc0 l d 0 0 mX2_weighSayings (am_qv N P I2) 0 [.ref 25, .int a1, .null, .null, .null] [] N P I 0 0
  unfold F_X2_weighSayings_25 at hF
  refine g_aload_n (pc := 0) dX2_weighSayings_0 rfl rfl ?_
  refine g_aload_n (pc := 1) dX2_weighSayings_1 rfl rfl ?_
  refine g_getR (pc := 2) (k := 25) (r := 1) kf_X2_31.r rfl rfl (hPl.get (by decide) rfl) (hPl.lt (by decide)) dX2_weighSayings_2 ?_
  refine g_getR (pc := 5) (k := 1) (r := 8) kf_X2_53 rfl rfl (hPl.get (by decide) rfl) (hPl.lt (by decide)) dX2_weighSayings_5 ?_
  obtain ⟨I_2, h_1, hF⟩ := am_b1_el hF
  refine g_cVv (pc := 8) (k := 25) (As := [.ref 8]) (st := []) ky_X2_decide kl_X2_56 (s_X2_decide_25_8 (d := 5) (hPl) (Nat.le_refl _) h_1) rfl rfl rfl (hPl.lt (by decide)) (Nat.le_trans (by decide) hd) (Nat.le_of_ble_eq_true rfl) (Nat.le_refl _) (Nat.le_refl _) dX2_weighSayings_8 ?_
  refine g_aload_n (pc := 11) dX2_weighSayings_11 rfl rfl ?_
  refine g_getR (pc := 12) (k := 25) (r := 23) kf_X2_35.r rfl rfl (hPl.get (by decide) rfl) (hPl.lt (by decide)) dX2_weighSayings_12 ?_
  refine g_iload_n (pc := 15) dX2_weighSayings_15 rfl rfl ?_
  refine g_aload_n (pc := 16) dX2_weighSayings_16 rfl rfl ?_
  refine g_getR (pc := 17) (k := 25) (r := 26) kf_X2_9.r rfl rfl (hPl.get (by decide) rfl) (hPl.lt (by decide)) dX2_weighSayings_17 ?_
  obtain ⟨r_4, h_3, hF⟩ := am_b1_el hF
  refine g_cVi (pc := 20) (k := 23) (As := [.int a1, .ref 26]) (st := []) ky_X8_worthTo kl_X2_60 (s_X8_worthTo_23_26 (d := 4) (hPl) (Nat.le_refl _) h_3) rfl rfl rfl (hPl.lt (by decide)) (Nat.le_trans (by decide) hd) (Nat.le_of_ble_eq_true rfl) (Nat.le_refl _) (Nat.le_refl _) dX2_weighSayings_20 ?_
  refine n_istore_n (pc := 23) (ls2 := [.ref 25, .int a1, .int r_4, .null, .null]) rfl rfl dX2_weighSayings_23 rfl (Nat.le_of_ble_eq_true rfl) ?_
  refine g_aload_n (pc := 24) dX2_weighSayings_24 rfl rfl ?_
  refine g_iconst (pc := 25) (v := (-1 : Int32)) dX2_weighSayings_25 (by decide) ?_
  obtain ⟨I_5, e_I_5, hF⟩ := am_let_el hF
  refine n_putI (pc := 26) (k := 25) e_I_5 kf_X2_15 rfl rfl (hPl.lt (by decide)) dX2_weighSayings_26 ?_
  refine g_aload_n (pc := 29) dX2_weighSayings_29 rfl rfl ?_
  refine g_iconst (pc := 30) (v := (0 : Int32)) dX2_weighSayings_30 rfl ?_
  obtain ⟨I_6, e_I_6, hF⟩ := am_let_el hF
  refine n_putI (pc := 31) (k := 25) e_I_6 kf_X2_19 rfl rfl (hPl.lt (by decide)) dX2_weighSayings_31 ?_
  refine g_iconst (pc := 34) (v := (0 : Int32)) dX2_weighSayings_34 rfl ?_
  refine n_istore_n (pc := 35) (ls2 := [.ref 25, .int a1, .int r_4, .int (0 : Int32), .null]) rfl rfl dX2_weighSayings_35 rfl (Nat.le_of_ble_eq_true rfl) ?_
  obtain ⟨I_9, hL_13, hF⟩ := am_b1_el hF
  have hX_10 : G am_sc0 l d 0 0 mX2_weighSayings (am_qv N P I2) 103 [.ref 25, .int a1, .int r_4, .null, .null] [] N P I_9 0 0 := by
    cases hF
    exact g_vret (pc := 103) rfl (Nat.le_refl _) (Nat.le_refl _) dX2_weighSayings_103 ⟨rfl, rfl, rfl, rfl⟩
  clear hF
  have hC := am_loop (C := fun x => G am_sc0 l d 0 0 mX2_weighSayings (am_qv N P I2) 36 [.ref 25, .int a1, .int r_4, .int x.1, .null] [] N P x.2 0 0) (by
    rintro ⟨l3_7, I_8⟩ rr hF ih_11 hE_12
    replace hF := am_u2_ap hF
    change G am_sc0 l d 0 0 mX2_weighSayings (am_qv N P I2) 36 [.ref 25, .int a1, .int r_4, .int l3_7, .null] [] N P I_8 0 0
    refine g_iload_n (pc := 36) dX2_weighSayings_36 rfl rfl ?_
    refine g_aload_n (pc := 37) dX2_weighSayings_37 rfl rfl ?_
    refine g_getR (pc := 38) (k := 25) (r := 1) kf_X2_31.r rfl rfl (hPl.get (by decide) rfl) (hPl.lt (by decide)) dX2_weighSayings_38 ?_
    refine g_getI (pc := 41) (k := 1) kf_X2_64.r rfl rfl (hPl.lt (by decide)) dX2_weighSayings_41 ?_
    refine g_icmp_ge (pc := 44) (tgt := 103) dX2_weighSayings_44 rfl (fun c_15 => ?_) (fun c_15 => ?_)
    · replace hF := am_yes c_15 hF
      cases hF
      cases hE_12 _ rfl
      exact g_weak hX_10 ⟨Or.inr rfl, Or.inr rfl, Or.inr rfl, Or.inl rfl, Or.inl rfl, trivial⟩
    · replace hF := am_no c_15 hF
      refine g_aload_n (pc := 47) dX2_weighSayings_47 rfl rfl ?_
      refine g_iload_n (pc := 48) dX2_weighSayings_48 rfl rfl ?_
      refine g_iload_n (pc := 49) dX2_weighSayings_49 rfl rfl ?_
      obtain ⟨I_17, h_16, hF⟩ := am_b1_el hF
      refine g_cVv (pc := 50) (k := 25) (As := [.int a1, .int l3_7]) (st := []) ky_X2_sayAlone kl_X2_67 (s_X2_sayAlone_25 (d := 2) (hPl) (Nat.le_refl _) h_16) rfl rfl rfl (hPl.lt (by decide)) (Nat.le_trans (by decide) hd) (Nat.le_of_ble_eq_true rfl) (Nat.le_refl _) (Nat.le_refl _) dX2_weighSayings_50 ?_
      refine g_aload_n (pc := 53) dX2_weighSayings_53 rfl rfl ?_
      refine g_aload_n (pc := 54) dX2_weighSayings_54 rfl rfl ?_
      refine g_getR (pc := 55) (k := 25) (r := 27) kf_X2_22.r rfl rfl (hPl.get (by decide) rfl) (hPl.lt (by decide)) dX2_weighSayings_55 ?_
      obtain ⟨I_19, h_18, hF⟩ := am_b1_el hF
      refine g_cVv (pc := 58) (k := 25) (As := [.ref 27]) (st := []) ky_X2_decide kl_X2_56 (s_X2_decide_25_27 (d := 5) (hPl) (Nat.le_refl _) h_18) rfl rfl rfl (hPl.lt (by decide)) (Nat.le_trans (by decide) hd) (Nat.le_of_ble_eq_true rfl) (Nat.le_refl _) (Nat.le_refl _) dX2_weighSayings_58 ?_
      refine g_aload_n (pc := 61) dX2_weighSayings_61 rfl rfl ?_
      refine g_getR (pc := 62) (k := 25) (r := 23) kf_X2_35.r rfl rfl (hPl.get (by decide) rfl) (hPl.lt (by decide)) dX2_weighSayings_62 ?_
      refine g_iload_n (pc := 65) dX2_weighSayings_65 rfl rfl ?_
      refine g_aload_n (pc := 66) dX2_weighSayings_66 rfl rfl ?_
      refine g_getR (pc := 67) (k := 25) (r := 26) kf_X2_9.r rfl rfl (hPl.get (by decide) rfl) (hPl.lt (by decide)) dX2_weighSayings_67 ?_
      obtain ⟨r_21, h_20, hF⟩ := am_b1_el hF
      refine g_cVi (pc := 70) (k := 23) (As := [.int a1, .ref 26]) (st := []) ky_X8_worthTo kl_X2_60 (s_X8_worthTo_23_26 (d := 4) (hPl) (Nat.le_refl _) h_20) rfl rfl rfl (hPl.lt (by decide)) (Nat.le_trans (by decide) hd) (Nat.le_of_ble_eq_true rfl) (Nat.le_refl _) (Nat.le_refl _) dX2_weighSayings_70 ?_
      refine g_iload_n (pc := 73) dX2_weighSayings_73 rfl rfl ?_
      refine g_isub (pc := 74) dX2_weighSayings_74 ?_
      obtain ⟨l4_22, e_l4_22, hF⟩ := am_let_el hF
      refine n_istore (pc := 75) (ls2 := [.ref 25, .int a1, .int r_4, .int l3_7, .int l4_22]) e_l4_22 rfl dX2_weighSayings_75 (Nat.le_of_ble_eq_true rfl) ?_
      refine g_iload (pc := 77) dX2_weighSayings_77 rfl ?_
      refine g_aload_n (pc := 79) dX2_weighSayings_79 rfl rfl ?_
      refine g_getI (pc := 80) (k := 25) kf_X2_19.r rfl rfl (hPl.lt (by decide)) dX2_weighSayings_80 ?_
      refine g_icmp_le (pc := 83) (tgt := 97) dX2_weighSayings_83 rfl (fun c_23 => ?_) (fun c_23 => ?_)
      · replace hF := am_yes c_23 hF
        obtain ⟨l3_24, e_l3_24, hF⟩ := am_let_el hF
        refine n_iinc (pc := 97) (ls2 := [.ref 25, .int a1, .int r_4, .int l3_24, .int l4_22]) e_l3_24 rfl rfl rfl dX2_weighSayings_97 (Nat.le_of_ble_eq_true rfl) ?_
        refine g_goto (pc := 100) (tgt := 36) dX2_weighSayings_100 rfl ?_
        cases hF
        exact g_weak (ih_11 (l3_24, I_19) rfl) ⟨Or.inr rfl, Or.inr rfl, Or.inr rfl, Or.inr rfl, Or.inl rfl, trivial⟩
      · replace hF := am_no c_23 hF
        refine g_aload_n (pc := 86) dX2_weighSayings_86 rfl rfl ?_
        refine g_iload (pc := 87) dX2_weighSayings_87 rfl ?_
        obtain ⟨I_25, e_I_25, hF⟩ := am_let_el hF
        refine n_putI (pc := 89) (k := 25) e_I_25 kf_X2_19 rfl rfl (hPl.lt (by decide)) dX2_weighSayings_89 ?_
        refine g_aload_n (pc := 92) dX2_weighSayings_92 rfl rfl ?_
        refine g_iload_n (pc := 93) dX2_weighSayings_93 rfl rfl ?_
        obtain ⟨I_26, e_I_26, hF⟩ := am_let_el hF
        refine n_putI (pc := 94) (k := 25) e_I_26 kf_X2_15 rfl rfl (hPl.lt (by decide)) dX2_weighSayings_94 ?_
        obtain ⟨l3_27, e_l3_27, hF⟩ := am_let_el hF
        refine n_iinc (pc := 97) (ls2 := [.ref 25, .int a1, .int r_4, .int l3_27, .int l4_22]) e_l3_27 rfl rfl rfl dX2_weighSayings_97 (Nat.le_of_ble_eq_true rfl) ?_
        refine g_goto (pc := 100) (tgt := 36) dX2_weighSayings_100 rfl ?_
        cases hF
        exact g_weak (ih_11 (l3_27, I_26) rfl) ⟨Or.inr rfl, Or.inr rfl, Or.inr rfl, Or.inr rfl, Or.inl rfl, trivial⟩
    ) _ _ hL_13
  exact hC
def F_X11_gains_0 (I : am_IT) (a1 : Int32) (a2 : Int32) : Option (Int32 × am_IT) := am_b1 (F_X9_hasPerson_1 I a1) (fun (r_2 : Int32) => if r_2 = 0 then (some ((-100000 : Int32), I)) else (if a2 = 0 then (am_b1 (F_X2_weighSayings_25 I a1) (fun (I_7 : am_IT) => if a2 = 0 then (some (I_7 25 1, I_7)) else (some (I_7 25 2, I_7)))) else (if a2 = (1 : Int32) then (am_b1 (F_X2_weighSayings_25 I a1) (fun (I_11 : am_IT) => if a2 = 0 then (some (I_11 25 1, I_11)) else (some (I_11 25 2, I_11)))) else (some ((-100000 : Int32), I)))))
set_option maxRecDepth 100000 in
set_option maxHeartbeats 4000000 in
theorem s_X11_gains_0 {l : Launch} {d N : Nat} {P : am_PT} (hPl : am_Pl 94 N P) (hd : 7 ≤ d) {I : am_IT} {a1 : Int32} {a2 : Int32} {r : Int32} {I2 : am_IT} (hF : F_X11_gains_0 I a1 a2 = some (r, I2)) : am_C l d 0 0 mX11_gains [.ref 0, .int a1, .int a2] N P I (am_qi r N P I2) := by
  refine am_body (sc := am_sc0) (n := 0) (by decide +kernel) (by decide) rfl ?_
  change G am_sc0 l d 0 0 mX11_gains (am_qi r N P I2) 0 [.ref 0, .int a1, .int a2] [] N P I 0 0
  unfold F_X11_gains_0 at hF
  refine g_aload_n (pc := 0) dX11_gains_0 rfl rfl ?_
  refine g_getR (pc := 1) (k := 0) (r := 1) kf_X11_12.r rfl rfl (hPl.get (by decide) rfl) (hPl.lt (by decide)) dX11_gains_1 ?_
  refine g_iload_n (pc := 4) dX11_gains_4 rfl rfl ?_
  obtain ⟨r_2, h_1, hF⟩ := am_b1_el hF
  refine g_cVz (pc := 5) (k := 1) (As := [.int a1]) (st := []) ky_X9_hasPerson kl_X11_123 (s_X9_hasPerson_1 (d := 1) (hPl) (Nat.le_refl _) h_1) rfl rfl rfl (hPl.lt (by decide)) (Nat.le_trans (by decide) hd) (Nat.le_of_ble_eq_true rfl) (Nat.le_refl _) (Nat.le_refl _) dX11_gains_5 ?_
  intro z_3
  refine g_if_eq (pc := 8) (tgt := 20) dX11_gains_8 rfl (fun c_4 => ?_) (fun c_4 => ?_)
  · replace hF := am_yes c_4 hF
    refine g_ldc (pc := 20) dX11_gains_20 kc_X11_185 ?_
    cases hF
    exact g_iret (pc := 22) rfl (Nat.le_refl _) (Nat.le_refl _) dX11_gains_22 ⟨rfl, rfl, rfl, rfl⟩
  · replace hF := am_no c_4 hF
    refine g_iload_n (pc := 11) dX11_gains_11 rfl rfl ?_
    refine g_if_eq (pc := 12) (tgt := 23) dX11_gains_12 rfl (fun c_5 => ?_) (fun c_5 => ?_)
    · replace hF := am_yes c_5 hF
      refine g_aload_n (pc := 23) dX11_gains_23 rfl rfl ?_
      refine g_getR (pc := 24) (k := 0) (r := 25) kf_X11_30.r rfl rfl (hPl.get (by decide) rfl) (hPl.lt (by decide)) dX11_gains_24 ?_
      refine g_iload_n (pc := 27) dX11_gains_27 rfl rfl ?_
      obtain ⟨I_7, h_6, hF⟩ := am_b1_el hF
      refine g_cVv (pc := 28) (k := 25) (As := [.int a1]) (st := []) ky_X2_weighSayings kl_X11_198 (s_X2_weighSayings_25 (d := 6) (hPl) (Nat.le_refl _) h_6) rfl rfl rfl (hPl.lt (by decide)) (Nat.le_trans (by decide) hd) (Nat.le_of_ble_eq_true rfl) (Nat.le_refl _) (Nat.le_refl _) dX11_gains_28 ?_
      refine g_iload_n (pc := 31) dX11_gains_31 rfl rfl ?_
      refine g_if_ne (pc := 32) (tgt := 45) dX11_gains_32 rfl (fun c_8 => ?_) (fun c_8 => ?_)
      · replace hF := am_no c_8 hF
        refine g_aload_n (pc := 45) dX11_gains_45 rfl rfl ?_
        refine g_getR (pc := 46) (k := 0) (r := 25) kf_X11_30.r rfl rfl (hPl.get (by decide) rfl) (hPl.lt (by decide)) dX11_gains_46 ?_
        refine g_getI (pc := 49) (k := 25) kf_X11_204.r rfl rfl (hPl.lt (by decide)) dX11_gains_49 ?_
        cases hF
        exact g_iret (pc := 52) rfl (Nat.le_refl _) (Nat.le_refl _) dX11_gains_52 ⟨rfl, rfl, rfl, rfl⟩
      · replace hF := am_yes c_8 hF
        refine g_aload_n (pc := 35) dX11_gains_35 rfl rfl ?_
        refine g_getR (pc := 36) (k := 0) (r := 25) kf_X11_30.r rfl rfl (hPl.get (by decide) rfl) (hPl.lt (by decide)) dX11_gains_36 ?_
        refine g_getI (pc := 39) (k := 25) kf_X11_201.r rfl rfl (hPl.lt (by decide)) dX11_gains_39 ?_
        refine g_goto (pc := 42) (tgt := 52) dX11_gains_42 rfl ?_
        cases hF
        exact g_iret (pc := 52) rfl (Nat.le_refl _) (Nat.le_refl _) dX11_gains_52 ⟨rfl, rfl, rfl, rfl⟩
    · replace hF := am_no c_5 hF
      refine g_iload_n (pc := 15) dX11_gains_15 rfl rfl ?_
      refine g_iconst (pc := 16) (v := (1 : Int32)) dX11_gains_16 rfl ?_
      refine g_icmp_eq (pc := 17) (tgt := 23) dX11_gains_17 rfl (fun c_9 => ?_) (fun c_9 => ?_)
      · replace hF := am_yes c_9 hF
        refine g_aload_n (pc := 23) dX11_gains_23 rfl rfl ?_
        refine g_getR (pc := 24) (k := 0) (r := 25) kf_X11_30.r rfl rfl (hPl.get (by decide) rfl) (hPl.lt (by decide)) dX11_gains_24 ?_
        refine g_iload_n (pc := 27) dX11_gains_27 rfl rfl ?_
        obtain ⟨I_11, h_10, hF⟩ := am_b1_el hF
        refine g_cVv (pc := 28) (k := 25) (As := [.int a1]) (st := []) ky_X2_weighSayings kl_X11_198 (s_X2_weighSayings_25 (d := 6) (hPl) (Nat.le_refl _) h_10) rfl rfl rfl (hPl.lt (by decide)) (Nat.le_trans (by decide) hd) (Nat.le_of_ble_eq_true rfl) (Nat.le_refl _) (Nat.le_refl _) dX11_gains_28 ?_
        refine g_iload_n (pc := 31) dX11_gains_31 rfl rfl ?_
        refine g_if_ne (pc := 32) (tgt := 45) dX11_gains_32 rfl (fun c_12 => ?_) (fun c_12 => ?_)
        · replace hF := am_no c_12 hF
          refine g_aload_n (pc := 45) dX11_gains_45 rfl rfl ?_
          refine g_getR (pc := 46) (k := 0) (r := 25) kf_X11_30.r rfl rfl (hPl.get (by decide) rfl) (hPl.lt (by decide)) dX11_gains_46 ?_
          refine g_getI (pc := 49) (k := 25) kf_X11_204.r rfl rfl (hPl.lt (by decide)) dX11_gains_49 ?_
          cases hF
          exact g_iret (pc := 52) rfl (Nat.le_refl _) (Nat.le_refl _) dX11_gains_52 ⟨rfl, rfl, rfl, rfl⟩
        · replace hF := am_yes c_12 hF
          refine g_aload_n (pc := 35) dX11_gains_35 rfl rfl ?_
          refine g_getR (pc := 36) (k := 0) (r := 25) kf_X11_30.r rfl rfl (hPl.get (by decide) rfl) (hPl.lt (by decide)) dX11_gains_36 ?_
          refine g_getI (pc := 39) (k := 25) kf_X11_201.r rfl rfl (hPl.lt (by decide)) dX11_gains_39 ?_
          refine g_goto (pc := 42) (tgt := 52) dX11_gains_42 rfl ?_
          cases hF
          exact g_iret (pc := 52) rfl (Nat.le_refl _) (Nat.le_refl _) dX11_gains_52 ⟨rfl, rfl, rfl, rfl⟩
      · replace hF := am_no c_9 hF
        refine g_ldc (pc := 20) dX11_gains_20 kc_X11_185 ?_
        cases hF
        exact g_iret (pc := 22) rfl (Nat.le_refl _) (Nat.le_refl _) dX11_gains_22 ⟨rfl, rfl, rfl, rfl⟩
def F_X0_potsOfChosen_30 (I : am_IT) : Option (Int32) := am_b1 (am_it am_fu (am_u3 (fun (l1_1 : Int32) (l2_2 : Int32) (l3_3 : Int32) => if (I 1 3) ≤ l3_3 then (some (.inr (l1_1))) else (if am_ix l3_3 7 = true then (am_let (I 31 l3_3.toNatClampNeg) (fun (l4_12 : Int32) => am_b1 (if ((l2_2 >>> (l4_12 &&& 31)) &&& (1 : Int32)) = 0 then (if am_ix l4_12 4 = true then (some (I 2 l4_12.toNatClampNeg)) else none) else (some ((0 : Int32)))) (fun (v_14 : Int32) => am_let (l1_1 + v_14) (fun (l1_18 : Int32) => am_let (l2_2 ||| ((1 : Int32) <<< (l4_12 &&& 31))) (fun (l2_19 : Int32) => am_let (l3_3 + (1 : Int32)) (fun (l3_20 : Int32) => some (.inl (l1_18, l2_19, l3_20)))))))) else none))) ((0 : Int32), (0 : Int32), (0 : Int32))) (fun (l1_4 : Int32) => some l1_4)
set_option maxRecDepth 100000 in
set_option maxHeartbeats 4000000 in
theorem s_X0_potsOfChosen_30 {l : Launch} {d N : Nat} {P : am_PT} (hPl : am_Pl 94 N P) (hd : 1 ≤ d) {I : am_IT} {r : Int32} (hF : F_X0_potsOfChosen_30 I = some (r)) : am_C l d 0 0 mX0_potsOfChosen [.ref 30] N P I (am_qi r N P I) := by
  refine am_body (sc := am_sc0) (n := 4) (by decide +kernel) (by decide) rfl ?_
  change G am_sc0 l d 0 0 mX0_potsOfChosen (am_qi r N P I) 0 [.ref 30, .null, .null, .null, .null] [] N P I 0 0
  unfold F_X0_potsOfChosen_30 at hF
  refine g_iconst (pc := 0) (v := (0 : Int32)) dX0_potsOfChosen_0 rfl ?_
  refine n_istore_n (pc := 1) (ls2 := [.ref 30, .int (0 : Int32), .null, .null, .null]) rfl rfl dX0_potsOfChosen_1 rfl (Nat.le_of_ble_eq_true rfl) ?_
  refine g_iconst (pc := 2) (v := (0 : Int32)) dX0_potsOfChosen_2 rfl ?_
  refine n_istore_n (pc := 3) (ls2 := [.ref 30, .int (0 : Int32), .int (0 : Int32), .null, .null]) rfl rfl dX0_potsOfChosen_3 rfl (Nat.le_of_ble_eq_true rfl) ?_
  refine g_iconst (pc := 4) (v := (0 : Int32)) dX0_potsOfChosen_4 rfl ?_
  refine n_istore_n (pc := 5) (ls2 := [.ref 30, .int (0 : Int32), .int (0 : Int32), .int (0 : Int32), .null]) rfl rfl dX0_potsOfChosen_5 rfl (Nat.le_of_ble_eq_true rfl) ?_
  obtain ⟨l1_4, hL_8, hF⟩ := am_b1_el hF
  have hX_5 : G am_sc0 l d 0 0 mX0_potsOfChosen (am_qi r N P I) 64 [.ref 30, .int l1_4, .null, .null, .null] [] N P I 0 0 := by
    refine g_iload_n (pc := 64) dX0_potsOfChosen_64 rfl rfl ?_
    cases hF
    exact g_iret (pc := 65) rfl (Nat.le_refl _) (Nat.le_refl _) dX0_potsOfChosen_65 ⟨rfl, rfl, rfl, rfl⟩
  clear hF
  have hC := am_loop (C := fun x => G am_sc0 l d 0 0 mX0_potsOfChosen (am_qi r N P I) 6 [.ref 30, .int x.1, .int x.2.1, .int x.2.2, .null] [] N P I 0 0) (by
    rintro ⟨l1_1, l2_2, l3_3⟩ rr hF ih_6 hE_7
    replace hF := am_u3_ap hF
    change G am_sc0 l d 0 0 mX0_potsOfChosen (am_qi r N P I) 6 [.ref 30, .int l1_1, .int l2_2, .int l3_3, .null] [] N P I 0 0
    refine g_iload_n (pc := 6) dX0_potsOfChosen_6 rfl rfl ?_
    refine g_aload_n (pc := 7) dX0_potsOfChosen_7 rfl rfl ?_
    refine g_getR (pc := 8) (k := 30) (r := 1) kf_X0_31.r rfl rfl (hPl.get (by decide) rfl) (hPl.lt (by decide)) dX0_potsOfChosen_8 ?_
    refine g_getI (pc := 11) (k := 1) kf_X0_54.r rfl rfl (hPl.lt (by decide)) dX0_potsOfChosen_11 ?_
    refine g_icmp_ge (pc := 14) (tgt := 64) dX0_potsOfChosen_14 rfl (fun c_10 => ?_) (fun c_10 => ?_)
    · replace hF := am_yes c_10 hF
      cases hF
      cases hE_7 _ rfl
      exact g_weak hX_5 ⟨Or.inr rfl, Or.inr rfl, Or.inl rfl, Or.inl rfl, Or.inl rfl, trivial⟩
    · replace hF := am_no c_10 hF
      refine g_aload_n (pc := 17) dX0_potsOfChosen_17 rfl rfl ?_
      refine g_getR (pc := 18) (k := 30) (r := 31) kf_X0_9.r rfl rfl (hPl.get (by decide) rfl) (hPl.lt (by decide)) dX0_potsOfChosen_18 ?_
      refine g_iload_n (pc := 21) dX0_potsOfChosen_21 rfl rfl ?_
      obtain ⟨c_11, hF⟩ := am_gd hF
      refine g_iald (pc := 22) (k := 31) rfl (hPl.lt (by decide)) (am_ix_use c_11) dX0_potsOfChosen_22 ?_
      obtain ⟨l4_12, e_l4_12, hF⟩ := am_let_el hF
      refine n_istore (pc := 23) (ls2 := [.ref 30, .int l1_1, .int l2_2, .int l3_3, .int l4_12]) e_l4_12 rfl dX0_potsOfChosen_23 (Nat.le_of_ble_eq_true rfl) ?_
      refine g_iload_n (pc := 25) dX0_potsOfChosen_25 rfl rfl ?_
      refine g_iload_n (pc := 26) dX0_potsOfChosen_26 rfl rfl ?_
      refine g_iload (pc := 27) dX0_potsOfChosen_27 rfl ?_
      refine g_ishr (pc := 29) dX0_potsOfChosen_29 ?_
      refine g_iconst (pc := 30) (v := (1 : Int32)) dX0_potsOfChosen_30 rfl ?_
      refine g_iand (pc := 31) dX0_potsOfChosen_31 ?_
      obtain ⟨v_14, hR_15, hF⟩ := am_b1_el hF
      have hJ_16 : G am_sc0 l d 0 0 mX0_potsOfChosen (am_qi r N P I) 49 [.ref 30, .int l1_1, .int l2_2, .int l3_3, .int l4_12] [.int v_14, .int l1_1] N P I 0 0 := by
        refine g_iadd (pc := 49) dX0_potsOfChosen_49 ?_
        obtain ⟨l1_18, e_l1_18, hF⟩ := am_let_el hF
        refine n_istore_n (pc := 50) (ls2 := [.ref 30, .int l1_18, .int l2_2, .int l3_3, .int l4_12]) e_l1_18 rfl dX0_potsOfChosen_50 rfl (Nat.le_of_ble_eq_true rfl) ?_
        refine g_iload_n (pc := 51) dX0_potsOfChosen_51 rfl rfl ?_
        refine g_iconst (pc := 52) (v := (1 : Int32)) dX0_potsOfChosen_52 rfl ?_
        refine g_iload (pc := 53) dX0_potsOfChosen_53 rfl ?_
        refine g_ishl (pc := 55) dX0_potsOfChosen_55 ?_
        refine g_ior (pc := 56) dX0_potsOfChosen_56 ?_
        obtain ⟨l2_19, e_l2_19, hF⟩ := am_let_el hF
        refine n_istore_n (pc := 57) (ls2 := [.ref 30, .int l1_18, .int l2_19, .int l3_3, .int l4_12]) e_l2_19 rfl dX0_potsOfChosen_57 rfl (Nat.le_of_ble_eq_true rfl) ?_
        obtain ⟨l3_20, e_l3_20, hF⟩ := am_let_el hF
        refine n_iinc (pc := 58) (ls2 := [.ref 30, .int l1_18, .int l2_19, .int l3_20, .int l4_12]) e_l3_20 rfl rfl rfl dX0_potsOfChosen_58 (Nat.le_of_ble_eq_true rfl) ?_
        refine g_goto (pc := 61) (tgt := 6) dX0_potsOfChosen_61 rfl ?_
        cases hF
        exact g_weak (ih_6 (l1_18, l2_19, l3_20) rfl) ⟨Or.inr rfl, Or.inr rfl, Or.inr rfl, Or.inr rfl, Or.inl rfl, trivial⟩
      clear hF
      have hF := hR_15
      clear hR_15
      refine g_if_ne (pc := 32) (tgt := 48) dX0_potsOfChosen_32 rfl (fun c_13 => ?_) (fun c_13 => ?_)
      · replace hF := am_no c_13 hF
        refine g_iconst (pc := 48) (v := (0 : Int32)) dX0_potsOfChosen_48 rfl ?_
        cases hF
        exact hJ_16
      · replace hF := am_yes c_13 hF
        refine g_aload_n (pc := 35) dX0_potsOfChosen_35 rfl rfl ?_
        refine g_getR (pc := 36) (k := 30) (r := 1) kf_X0_31.r rfl rfl (hPl.get (by decide) rfl) (hPl.lt (by decide)) dX0_potsOfChosen_36 ?_
        refine g_getR (pc := 39) (k := 1) (r := 2) kf_X0_59 rfl rfl (hPl.get (by decide) rfl) (hPl.lt (by decide)) dX0_potsOfChosen_39 ?_
        refine g_iload (pc := 42) dX0_potsOfChosen_42 rfl ?_
        obtain ⟨c_17, hF⟩ := am_gd hF
        refine g_iald (pc := 44) (k := 2) rfl (hPl.lt (by decide)) (am_ix_use c_17) dX0_potsOfChosen_44 ?_
        refine g_goto (pc := 45) (tgt := 49) dX0_potsOfChosen_45 rfl ?_
        cases hF
        exact hJ_16
    ) _ _ hL_8
  exact hC
def F_X8_worthIn_23_31 (I : am_IT) (a1 : Int32) (a2 : Int32) : Option (Int32) := am_b1 (am_it am_fu (am_u2 (fun (l4_1 : Int32) (l5_2 : Int32) => if (I 1 3) ≤ l5_2 then (some (.inr (l4_1))) else (am_b1 (F_X8_yardsFrom_23 I a2 l5_2) (fun (r_11 : Int32) => if am_ix l5_2 7 = true then (if am_ix ((a1 * (4 : Int32)) + (I 31 l5_2.toNatClampNeg)) 28 = true then (am_let (l4_1 + (r_11 * (I 7 ((a1 * (4 : Int32)) + (I 31 l5_2.toNatClampNeg)).toNatClampNeg))) (fun (l4_14 : Int32) => am_b1 (am_it am_fu (am_u2 (fun (l4_15 : Int32) (l6_16 : Int32) => if l5_2 ≤ l6_16 then (some (.inr (l4_15))) else (if am_ix l5_2 7 = true then (if am_ix l6_16 7 = true then (if (I 31 l5_2.toNatClampNeg) = (I 31 l6_16.toNatClampNeg) then (am_b1 (F_X8_worthOfTwo_23 I a1 a2 l5_2 l6_16) (fun (r_29 : Int32) => am_let (l4_15 + r_29) (fun (l4_30 : Int32) => am_let (l6_16 + (1 : Int32)) (fun (l6_31 : Int32) => some (.inl (l4_30, l6_31)))))) else (am_let (l6_16 + (1 : Int32)) (fun (l6_27 : Int32) => some (.inl (l4_15, l6_27))))) else none) else none))) (l4_14, (0 : Int32))) (fun (l4_17 : Int32) => am_let (l5_2 + (1 : Int32)) (fun (l5_32 : Int32) => some (.inl (l4_17, l5_32)))))) else none) else none)))) ((0 : Int32), (0 : Int32))) (fun (l4_3 : Int32) => some l4_3)
set_option maxRecDepth 100000 in
set_option maxHeartbeats 4000000 in
theorem s_X8_worthIn_23_31 {l : Launch} {d N : Nat} {P : am_PT} (hPl : am_Pl 94 N P) (hd : 3 ≤ d) {I : am_IT} {a1 : Int32} {a2 : Int32} {r : Int32} (hF : F_X8_worthIn_23_31 I a1 a2 = some (r)) : am_C l d 0 0 mX8_worthIn [.ref 23, .int a1, .int a2, .ref 31] N P I (am_qi r N P I) := by
  refine am_body (sc := am_sc0) (n := 3) (by decide +kernel) (by decide) rfl ?_
  change G am_sc0 l d 0 0 mX8_worthIn (am_qi r N P I) 0 [.ref 23, .int a1, .int a2, .ref 31, .null, .null, .null] [] N P I 0 0
  unfold F_X8_worthIn_23_31 at hF
  refine g_iconst (pc := 0) (v := (0 : Int32)) dX8_worthIn_0 rfl ?_
  refine n_istore (pc := 1) (ls2 := [.ref 23, .int a1, .int a2, .ref 31, .int (0 : Int32), .null, .null]) rfl rfl dX8_worthIn_1 (Nat.le_of_ble_eq_true rfl) ?_
  refine g_iconst (pc := 3) (v := (0 : Int32)) dX8_worthIn_3 rfl ?_
  refine n_istore (pc := 4) (ls2 := [.ref 23, .int a1, .int a2, .ref 31, .int (0 : Int32), .int (0 : Int32), .null]) rfl rfl dX8_worthIn_4 (Nat.le_of_ble_eq_true rfl) ?_
  obtain ⟨l4_3, hL_7, hF⟩ := am_b1_el hF
  have hX_4 : G am_sc0 l d 0 0 mX8_worthIn (am_qi r N P I) 95 [.ref 23, .int a1, .int a2, .ref 31, .int l4_3, .null, .null] [] N P I 0 0 := by
    refine g_iload (pc := 95) dX8_worthIn_95 rfl ?_
    cases hF
    exact g_iret (pc := 97) rfl (Nat.le_refl _) (Nat.le_refl _) dX8_worthIn_97 ⟨rfl, rfl, rfl, rfl⟩
  clear hF
  have hC := am_loop (C := fun x => G am_sc0 l d 0 0 mX8_worthIn (am_qi r N P I) 6 [.ref 23, .int a1, .int a2, .ref 31, .int x.1, .int x.2, .null] [] N P I 0 0) (by
    rintro ⟨l4_1, l5_2⟩ rr hF ih_5 hE_6
    replace hF := am_u2_ap hF
    change G am_sc0 l d 0 0 mX8_worthIn (am_qi r N P I) 6 [.ref 23, .int a1, .int a2, .ref 31, .int l4_1, .int l5_2, .null] [] N P I 0 0
    refine g_iload (pc := 6) dX8_worthIn_6 rfl ?_
    refine g_aload_n (pc := 8) dX8_worthIn_8 rfl rfl ?_
    refine g_getR (pc := 9) (k := 23) (r := 1) kf_X8_15.r rfl rfl (hPl.get (by decide) rfl) (hPl.lt (by decide)) dX8_worthIn_9 ?_
    refine g_getI (pc := 12) (k := 1) kf_X8_61.r rfl rfl (hPl.lt (by decide)) dX8_worthIn_12 ?_
    refine g_icmp_ge (pc := 15) (tgt := 95) dX8_worthIn_15 rfl (fun c_9 => ?_) (fun c_9 => ?_)
    · replace hF := am_yes c_9 hF
      cases hF
      cases hE_6 _ rfl
      exact g_weak hX_4 ⟨Or.inr rfl, Or.inr rfl, Or.inr rfl, Or.inr rfl, Or.inr rfl, Or.inl rfl, Or.inl rfl, trivial⟩
    · replace hF := am_no c_9 hF
      refine g_iload (pc := 18) dX8_worthIn_18 rfl ?_
      refine g_aload_n (pc := 20) dX8_worthIn_20 rfl rfl ?_
      refine g_iload_n (pc := 21) dX8_worthIn_21 rfl rfl ?_
      refine g_iload (pc := 22) dX8_worthIn_22 rfl ?_
      obtain ⟨r_11, h_10, hF⟩ := am_b1_el hF
      refine g_cVi (pc := 24) (k := 23) (As := [.int a2, .int l5_2]) (st := [.int l4_1]) ky_X8_yardsFrom kl_X8_55 (s_X8_yardsFrom_23 (d := 1) (hPl) (Nat.le_refl _) h_10) rfl rfl rfl (hPl.lt (by decide)) (Nat.le_trans (by decide) hd) (Nat.le_of_ble_eq_true rfl) (Nat.le_refl _) (Nat.le_refl _) dX8_worthIn_24 ?_
      refine g_aload_n (pc := 27) dX8_worthIn_27 rfl rfl ?_
      refine g_getR (pc := 28) (k := 23) (r := 1) kf_X8_15.r rfl rfl (hPl.get (by decide) rfl) (hPl.lt (by decide)) dX8_worthIn_28 ?_
      refine g_getR (pc := 31) (k := 1) (r := 7) kf_X8_64 rfl rfl (hPl.get (by decide) rfl) (hPl.lt (by decide)) dX8_worthIn_31 ?_
      refine g_iload_n (pc := 34) dX8_worthIn_34 rfl rfl ?_
      refine g_iconst (pc := 35) (v := (4 : Int32)) dX8_worthIn_35 rfl ?_
      refine g_imul (pc := 36) dX8_worthIn_36 ?_
      refine g_aload_n (pc := 37) dX8_worthIn_37 rfl rfl ?_
      refine g_iload (pc := 38) dX8_worthIn_38 rfl ?_
      obtain ⟨c_12, hF⟩ := am_gd hF
      refine g_iald (pc := 40) (k := 31) rfl (hPl.lt (by decide)) (am_ix_use c_12) dX8_worthIn_40 ?_
      refine g_iadd (pc := 41) dX8_worthIn_41 ?_
      obtain ⟨c_13, hF⟩ := am_gd hF
      refine g_iald (pc := 42) (k := 7) rfl (hPl.lt (by decide)) (am_ix_use c_13) dX8_worthIn_42 ?_
      refine g_imul (pc := 43) dX8_worthIn_43 ?_
      refine g_iadd (pc := 44) dX8_worthIn_44 ?_
      obtain ⟨l4_14, e_l4_14, hF⟩ := am_let_el hF
      refine n_istore (pc := 45) (ls2 := [.ref 23, .int a1, .int a2, .ref 31, .int l4_14, .int l5_2, .null]) e_l4_14 rfl dX8_worthIn_45 (Nat.le_of_ble_eq_true rfl) ?_
      refine g_iconst (pc := 47) (v := (0 : Int32)) dX8_worthIn_47 rfl ?_
      refine n_istore (pc := 48) (ls2 := [.ref 23, .int a1, .int a2, .ref 31, .int l4_14, .int l5_2, .int (0 : Int32)]) rfl rfl dX8_worthIn_48 (Nat.le_of_ble_eq_true rfl) ?_
      obtain ⟨l4_17, hL_21, hF⟩ := am_b1_el hF
      have hX_18 : G am_sc0 l d 0 0 mX8_worthIn (am_qi r N P I) 89 [.ref 23, .int a1, .int a2, .ref 31, .int l4_17, .int l5_2, .null] [] N P I 0 0 := by
        obtain ⟨l5_32, e_l5_32, hF⟩ := am_let_el hF
        refine n_iinc (pc := 89) (ls2 := [.ref 23, .int a1, .int a2, .ref 31, .int l4_17, .int l5_32, .null]) e_l5_32 rfl rfl rfl dX8_worthIn_89 (Nat.le_of_ble_eq_true rfl) ?_
        refine g_goto (pc := 92) (tgt := 6) dX8_worthIn_92 rfl ?_
        cases hF
        exact ih_5 (l4_17, l5_32) rfl
      clear hF
      have hC := am_loop (C := fun x => G am_sc0 l d 0 0 mX8_worthIn (am_qi r N P I) 50 [.ref 23, .int a1, .int a2, .ref 31, .int x.1, .int l5_2, .int x.2] [] N P I 0 0) (by
        rintro ⟨l4_15, l6_16⟩ rr hF ih_19 hE_20
        replace hF := am_u2_ap hF
        change G am_sc0 l d 0 0 mX8_worthIn (am_qi r N P I) 50 [.ref 23, .int a1, .int a2, .ref 31, .int l4_15, .int l5_2, .int l6_16] [] N P I 0 0
        refine g_iload (pc := 50) dX8_worthIn_50 rfl ?_
        refine g_iload (pc := 52) dX8_worthIn_52 rfl ?_
        refine g_icmp_ge (pc := 54) (tgt := 89) dX8_worthIn_54 rfl (fun c_23 => ?_) (fun c_23 => ?_)
        · replace hF := am_yes c_23 hF
          cases hF
          cases hE_20 _ rfl
          exact g_weak hX_18 ⟨Or.inr rfl, Or.inr rfl, Or.inr rfl, Or.inr rfl, Or.inr rfl, Or.inr rfl, Or.inl rfl, trivial⟩
        · replace hF := am_no c_23 hF
          refine g_aload_n (pc := 57) dX8_worthIn_57 rfl rfl ?_
          refine g_iload (pc := 58) dX8_worthIn_58 rfl ?_
          obtain ⟨c_24, hF⟩ := am_gd hF
          refine g_iald (pc := 60) (k := 31) rfl (hPl.lt (by decide)) (am_ix_use c_24) dX8_worthIn_60 ?_
          refine g_aload_n (pc := 61) dX8_worthIn_61 rfl rfl ?_
          refine g_iload (pc := 62) dX8_worthIn_62 rfl ?_
          obtain ⟨c_25, hF⟩ := am_gd hF
          refine g_iald (pc := 64) (k := 31) rfl (hPl.lt (by decide)) (am_ix_use c_25) dX8_worthIn_64 ?_
          refine g_icmp_ne (pc := 65) (tgt := 83) dX8_worthIn_65 rfl (fun c_26 => ?_) (fun c_26 => ?_)
          · replace hF := am_no c_26 hF
            obtain ⟨l6_27, e_l6_27, hF⟩ := am_let_el hF
            refine n_iinc (pc := 83) (ls2 := [.ref 23, .int a1, .int a2, .ref 31, .int l4_15, .int l5_2, .int l6_27]) e_l6_27 rfl rfl rfl dX8_worthIn_83 (Nat.le_of_ble_eq_true rfl) ?_
            refine g_goto (pc := 86) (tgt := 50) dX8_worthIn_86 rfl ?_
            cases hF
            exact ih_19 (l4_15, l6_27) rfl
          · replace hF := am_yes c_26 hF
            refine g_iload (pc := 68) dX8_worthIn_68 rfl ?_
            refine g_aload_n (pc := 70) dX8_worthIn_70 rfl rfl ?_
            refine g_iload_n (pc := 71) dX8_worthIn_71 rfl rfl ?_
            refine g_iload_n (pc := 72) dX8_worthIn_72 rfl rfl ?_
            refine g_iload (pc := 73) dX8_worthIn_73 rfl ?_
            refine g_iload (pc := 75) dX8_worthIn_75 rfl ?_
            obtain ⟨r_29, h_28, hF⟩ := am_b1_el hF
            refine g_cVi (pc := 77) (k := 23) (As := [.int a1, .int a2, .int l5_2, .int l6_16]) (st := [.int l4_15]) ky_X8_worthOfTwo kl_X8_67 (s_X8_worthOfTwo_23 (d := 2) (hPl) (Nat.le_refl _) h_28) rfl rfl rfl (hPl.lt (by decide)) (Nat.le_trans (by decide) hd) (Nat.le_of_ble_eq_true rfl) (Nat.le_refl _) (Nat.le_refl _) dX8_worthIn_77 ?_
            refine g_iadd (pc := 80) dX8_worthIn_80 ?_
            obtain ⟨l4_30, e_l4_30, hF⟩ := am_let_el hF
            refine n_istore (pc := 81) (ls2 := [.ref 23, .int a1, .int a2, .ref 31, .int l4_30, .int l5_2, .int l6_16]) e_l4_30 rfl dX8_worthIn_81 (Nat.le_of_ble_eq_true rfl) ?_
            obtain ⟨l6_31, e_l6_31, hF⟩ := am_let_el hF
            refine n_iinc (pc := 83) (ls2 := [.ref 23, .int a1, .int a2, .ref 31, .int l4_30, .int l5_2, .int l6_31]) e_l6_31 rfl rfl rfl dX8_worthIn_83 (Nat.le_of_ble_eq_true rfl) ?_
            refine g_goto (pc := 86) (tgt := 50) dX8_worthIn_86 rfl ?_
            cases hF
            exact ih_19 (l4_30, l6_31) rfl
        ) _ _ hL_21
      exact hC
    ) _ _ hL_7
  exact hC
def F_X8_worthTo_23_31 (I : am_IT) (a1 : Int32) : Option (Int32) := if am_ix a1 7 = true then (am_b1 (F_X8_worthIn_23_31 I a1 (I 4 a1.toNatClampNeg)) (fun (r_3 : Int32) => some r_3)) else none
set_option maxRecDepth 100000 in
set_option maxHeartbeats 4000000 in
theorem s_X8_worthTo_23_31 {l : Launch} {d N : Nat} {P : am_PT} (hPl : am_Pl 94 N P) (hd : 4 ≤ d) {I : am_IT} {a1 : Int32} {r : Int32} (hF : F_X8_worthTo_23_31 I a1 = some (r)) : am_C l d 0 0 mX8_worthTo [.ref 23, .int a1, .ref 31] N P I (am_qi r N P I) := by
  refine am_body (sc := am_sc0) (n := 0) (by decide +kernel) (by decide) rfl ?_
  change G am_sc0 l d 0 0 mX8_worthTo (am_qi r N P I) 0 [.ref 23, .int a1, .ref 31] [] N P I 0 0
  unfold F_X8_worthTo_23_31 at hF
  refine g_aload_n (pc := 0) dX8_worthTo_0 rfl rfl ?_
  refine g_iload_n (pc := 1) dX8_worthTo_1 rfl rfl ?_
  refine g_aload_n (pc := 2) dX8_worthTo_2 rfl rfl ?_
  refine g_getR (pc := 3) (k := 23) (r := 1) kf_X8_15.r rfl rfl (hPl.get (by decide) rfl) (hPl.lt (by decide)) dX8_worthTo_3 ?_
  refine g_getR (pc := 6) (k := 1) (r := 4) kf_X8_46 rfl rfl (hPl.get (by decide) rfl) (hPl.lt (by decide)) dX8_worthTo_6 ?_
  refine g_iload_n (pc := 9) dX8_worthTo_9 rfl rfl ?_
  obtain ⟨c_1, hF⟩ := am_gd hF
  refine g_iald (pc := 10) (k := 4) rfl (hPl.lt (by decide)) (am_ix_use c_1) dX8_worthTo_10 ?_
  refine g_aload_n (pc := 11) dX8_worthTo_11 rfl rfl ?_
  obtain ⟨r_3, h_2, hF⟩ := am_b1_el hF
  refine g_cVi (pc := 12) (k := 23) (As := [.int a1, .int (I 4 a1.toNatClampNeg), .ref 31]) (st := []) ky_X8_worthIn kl_X8_71 (s_X8_worthIn_23_31 (d := 3) (hPl) (Nat.le_refl _) h_2) rfl rfl rfl (hPl.lt (by decide)) (Nat.le_trans (by decide) hd) (Nat.le_of_ble_eq_true rfl) (Nat.le_refl _) (Nat.le_refl _) dX8_worthTo_12 ?_
  cases hF
  exact g_iret (pc := 15) rfl (Nat.le_refl _) (Nat.le_refl _) dX8_worthTo_15 ⟨rfl, rfl, rfl, rfl⟩
def F_X0_worthsOfChosenWithout_30 (I : am_IT) (a1 : Int32) : Option (Int32) := am_b1 (am_it am_fu (am_u2 (fun (l2_1 : Int32) (l3_2 : Int32) => if (I 1 4) ≤ l3_2 then (some (.inr (l2_1))) else (if l3_2 = a1 then (am_let (l2_1 + (0 : Int32)) (fun (l2_15 : Int32) => am_let (l3_2 + (1 : Int32)) (fun (l3_16 : Int32) => some (.inl (l2_15, l3_16))))) else (am_b1 (F_X8_worthTo_23_31 I l3_2) (fun (r_12 : Int32) => am_let (l2_1 + r_12) (fun (l2_13 : Int32) => am_let (l3_2 + (1 : Int32)) (fun (l3_14 : Int32) => some (.inl (l2_13, l3_14))))))))) ((0 : Int32), (0 : Int32))) (fun (l2_3 : Int32) => some l2_3)
set_option maxRecDepth 100000 in
set_option maxHeartbeats 4000000 in
theorem s_X0_worthsOfChosenWithout_30 {l : Launch} {d N : Nat} {P : am_PT} (hPl : am_Pl 94 N P) (hd : 5 ≤ d) {I : am_IT} {a1 : Int32} {r : Int32} (hF : F_X0_worthsOfChosenWithout_30 I a1 = some (r)) : am_C l d 0 0 mX0_worthsOfChosenWithout [.ref 30, .int a1] N P I (am_qi r N P I) := by
  refine am_body (sc := am_sc0) (n := 2) (by decide +kernel) (by decide) rfl ?_
  change G am_sc0 l d 0 0 mX0_worthsOfChosenWithout (am_qi r N P I) 0 [.ref 30, .int a1, .null, .null] [] N P I 0 0
  unfold F_X0_worthsOfChosenWithout_30 at hF
  refine g_iconst (pc := 0) (v := (0 : Int32)) dX0_worthsOfChosenWithout_0 rfl ?_
  refine n_istore_n (pc := 1) (ls2 := [.ref 30, .int a1, .int (0 : Int32), .null]) rfl rfl dX0_worthsOfChosenWithout_1 rfl (Nat.le_of_ble_eq_true rfl) ?_
  refine g_iconst (pc := 2) (v := (0 : Int32)) dX0_worthsOfChosenWithout_2 rfl ?_
  refine n_istore_n (pc := 3) (ls2 := [.ref 30, .int a1, .int (0 : Int32), .int (0 : Int32)]) rfl rfl dX0_worthsOfChosenWithout_3 rfl (Nat.le_of_ble_eq_true rfl) ?_
  obtain ⟨l2_3, hL_7, hF⟩ := am_b1_el hF
  have hX_4 : G am_sc0 l d 0 0 mX0_worthsOfChosenWithout (am_qi r N P I) 45 [.ref 30, .int a1, .int l2_3, .null] [] N P I 0 0 := by
    refine g_iload_n (pc := 45) dX0_worthsOfChosenWithout_45 rfl rfl ?_
    cases hF
    exact g_iret (pc := 46) rfl (Nat.le_refl _) (Nat.le_refl _) dX0_worthsOfChosenWithout_46 ⟨rfl, rfl, rfl, rfl⟩
  clear hF
  have hC := am_loop (C := fun x => G am_sc0 l d 0 0 mX0_worthsOfChosenWithout (am_qi r N P I) 4 [.ref 30, .int a1, .int x.1, .int x.2] [] N P I 0 0) (by
    rintro ⟨l2_1, l3_2⟩ rr hF ih_5 hE_6
    replace hF := am_u2_ap hF
    change G am_sc0 l d 0 0 mX0_worthsOfChosenWithout (am_qi r N P I) 4 [.ref 30, .int a1, .int l2_1, .int l3_2] [] N P I 0 0
    refine g_iload_n (pc := 4) dX0_worthsOfChosenWithout_4 rfl rfl ?_
    refine g_aload_n (pc := 5) dX0_worthsOfChosenWithout_5 rfl rfl ?_
    refine g_getR (pc := 6) (k := 30) (r := 1) kf_X0_31.r rfl rfl (hPl.get (by decide) rfl) (hPl.lt (by decide)) dX0_worthsOfChosenWithout_6 ?_
    refine g_getI (pc := 9) (k := 1) kf_X0_69.r rfl rfl (hPl.lt (by decide)) dX0_worthsOfChosenWithout_9 ?_
    refine g_icmp_ge (pc := 12) (tgt := 45) dX0_worthsOfChosenWithout_12 rfl (fun c_9 => ?_) (fun c_9 => ?_)
    · replace hF := am_yes c_9 hF
      cases hF
      cases hE_6 _ rfl
      exact g_weak hX_4 ⟨Or.inr rfl, Or.inr rfl, Or.inr rfl, Or.inl rfl, trivial⟩
    · replace hF := am_no c_9 hF
      refine g_iload_n (pc := 15) dX0_worthsOfChosenWithout_15 rfl rfl ?_
      refine g_iload_n (pc := 16) dX0_worthsOfChosenWithout_16 rfl rfl ?_
      refine g_iload_n (pc := 17) dX0_worthsOfChosenWithout_17 rfl rfl ?_
      refine g_icmp_ne (pc := 18) (tgt := 25) dX0_worthsOfChosenWithout_18 rfl (fun c_10 => ?_) (fun c_10 => ?_)
      · replace hF := am_no c_10 hF
        refine g_aload_n (pc := 25) dX0_worthsOfChosenWithout_25 rfl rfl ?_
        refine g_getR (pc := 26) (k := 30) (r := 23) kf_X0_35.r rfl rfl (hPl.get (by decide) rfl) (hPl.lt (by decide)) dX0_worthsOfChosenWithout_26 ?_
        refine g_iload_n (pc := 29) dX0_worthsOfChosenWithout_29 rfl rfl ?_
        refine g_aload_n (pc := 30) dX0_worthsOfChosenWithout_30 rfl rfl ?_
        refine g_getR (pc := 31) (k := 30) (r := 31) kf_X0_9.r rfl rfl (hPl.get (by decide) rfl) (hPl.lt (by decide)) dX0_worthsOfChosenWithout_31 ?_
        obtain ⟨r_12, h_11, hF⟩ := am_b1_el hF
        refine g_cVi (pc := 34) (k := 23) (As := [.int l3_2, .ref 31]) (st := [.int l2_1]) ky_X8_worthTo kl_X0_75 (s_X8_worthTo_23_31 (d := 4) (hPl) (Nat.le_refl _) h_11) rfl rfl rfl (hPl.lt (by decide)) (Nat.le_trans (by decide) hd) (Nat.le_of_ble_eq_true rfl) (Nat.le_refl _) (Nat.le_refl _) dX0_worthsOfChosenWithout_34 ?_
        refine g_iadd (pc := 37) dX0_worthsOfChosenWithout_37 ?_
        obtain ⟨l2_13, e_l2_13, hF⟩ := am_let_el hF
        refine n_istore_n (pc := 38) (ls2 := [.ref 30, .int a1, .int l2_13, .int l3_2]) e_l2_13 rfl dX0_worthsOfChosenWithout_38 rfl (Nat.le_of_ble_eq_true rfl) ?_
        obtain ⟨l3_14, e_l3_14, hF⟩ := am_let_el hF
        refine n_iinc (pc := 39) (ls2 := [.ref 30, .int a1, .int l2_13, .int l3_14]) e_l3_14 rfl rfl rfl dX0_worthsOfChosenWithout_39 (Nat.le_of_ble_eq_true rfl) ?_
        refine g_goto (pc := 42) (tgt := 4) dX0_worthsOfChosenWithout_42 rfl ?_
        cases hF
        exact ih_5 (l2_13, l3_14) rfl
      · replace hF := am_yes c_10 hF
        refine g_iconst (pc := 21) (v := (0 : Int32)) dX0_worthsOfChosenWithout_21 rfl ?_
        refine g_goto (pc := 22) (tgt := 37) dX0_worthsOfChosenWithout_22 rfl ?_
        refine g_iadd (pc := 37) dX0_worthsOfChosenWithout_37 ?_
        obtain ⟨l2_15, e_l2_15, hF⟩ := am_let_el hF
        refine n_istore_n (pc := 38) (ls2 := [.ref 30, .int a1, .int l2_15, .int l3_2]) e_l2_15 rfl dX0_worthsOfChosenWithout_38 rfl (Nat.le_of_ble_eq_true rfl) ?_
        obtain ⟨l3_16, e_l3_16, hF⟩ := am_let_el hF
        refine n_iinc (pc := 39) (ls2 := [.ref 30, .int a1, .int l2_15, .int l3_16]) e_l3_16 rfl rfl rfl dX0_worthsOfChosenWithout_39 (Nat.le_of_ble_eq_true rfl) ?_
        refine g_goto (pc := 42) (tgt := 4) dX0_worthsOfChosenWithout_42 rfl ?_
        cases hF
        exact ih_5 (l2_15, l3_16) rfl
    ) _ _ hL_7
  exact hC
def F_X0_dueOf_30 (I : am_IT) (a1 : Int32) : Option (Int32 × am_IT) := am_b2 (F_X0_greatestWithout_30 I a1) (fun (r_2 : Int32) (I_3 : am_IT) => am_b1 (F_X0_worthsOfChosenWithout_30 I_3 a1) (fun (r_5 : Int32) => am_b1 (F_X0_potsOfChosen_30 I_3) (fun (r_7 : Int32) => some (r_2 - (r_5 - r_7), I_3))))
set_option maxRecDepth 100000 in
set_option maxHeartbeats 4000000 in
theorem s_X0_dueOf_30 {l : Launch} {d N : Nat} {P : am_PT} (hPl : am_Pl 94 N P) (hd : 68 ≤ d) {I : am_IT} {a1 : Int32} {r : Int32} {I2 : am_IT} (hF : F_X0_dueOf_30 I a1 = some (r, I2)) : am_C l d 0 0 mX0_dueOf [.ref 30, .int a1] N P I (am_qi r N P I2) := by
  refine am_body (sc := am_sc0) (n := 0) (by decide +kernel) (by decide) rfl ?_
  change G am_sc0 l d 0 0 mX0_dueOf (am_qi r N P I2) 0 [.ref 30, .int a1] [] N P I 0 0
  unfold F_X0_dueOf_30 at hF
  refine g_aload_n (pc := 0) dX0_dueOf_0 rfl rfl ?_
  refine g_iload_n (pc := 1) dX0_dueOf_1 rfl rfl ?_
  obtain ⟨r_2, I_3, h_1, hF⟩ := am_b2_el hF
  refine g_cVi (pc := 2) (k := 30) (As := [.int a1]) (st := []) ky_X0_greatestWithout kl_X0_44 (s_X0_greatestWithout_30 (d := 67) (hPl) (Nat.le_refl _) h_1) rfl rfl rfl (hPl.lt (by decide)) (Nat.le_trans (by decide) hd) (Nat.le_of_ble_eq_true rfl) (Nat.le_refl _) (Nat.le_refl _) dX0_dueOf_2 ?_
  refine g_aload_n (pc := 5) dX0_dueOf_5 rfl rfl ?_
  refine g_iload_n (pc := 6) dX0_dueOf_6 rfl rfl ?_
  obtain ⟨r_5, h_4, hF⟩ := am_b1_el hF
  refine g_cVi (pc := 7) (k := 30) (As := [.int a1]) (st := [.int r_2]) ky_X0_worthsOfChosenWithout kl_X0_62 (s_X0_worthsOfChosenWithout_30 (d := 5) (hPl) (Nat.le_refl _) h_4) rfl rfl rfl (hPl.lt (by decide)) (Nat.le_trans (by decide) hd) (Nat.le_of_ble_eq_true rfl) (Nat.le_refl _) (Nat.le_refl _) dX0_dueOf_7 ?_
  refine g_aload_n (pc := 10) dX0_dueOf_10 rfl rfl ?_
  obtain ⟨r_7, h_6, hF⟩ := am_b1_el hF
  refine g_cVi (pc := 11) (k := 30) (As := []) (st := [.int r_5, .int r_2]) ky_X0_potsOfChosen kl_X0_65 (s_X0_potsOfChosen_30 (d := 1) (hPl) (Nat.le_refl _) h_6) rfl rfl rfl (hPl.lt (by decide)) (Nat.le_trans (by decide) hd) (Nat.le_of_ble_eq_true rfl) (Nat.le_refl _) (Nat.le_refl _) dX0_dueOf_11 ?_
  refine g_isub (pc := 14) dX0_dueOf_14 ?_
  refine g_isub (pc := 15) dX0_dueOf_15 ?_
  cases hF
  exact g_iret (pc := 16) rfl (Nat.le_refl _) (Nat.le_refl _) dX0_dueOf_16 ⟨rfl, rfl, rfl, rfl⟩
def F_X0_lackOfChosen_30 (I : am_IT) : Option (Int32 × am_IT) := am_b1 (F_X0_potsOfChosen_30 I) (fun (r_2 : Int32) => am_b2 (am_it am_fu (am_u3 (fun (l1_3 : Int32) (l2_4 : Int32) (I_5 : am_IT) => if (I_5 1 4) ≤ l2_4 then (some (.inr (l1_3, I_5))) else (am_b2 (F_X0_dueOf_30 I_5 l2_4) (fun (r_15 : Int32) (I_16 : am_IT) => am_let (l1_3 - r_15) (fun (l1_17 : Int32) => am_let (l2_4 + (1 : Int32)) (fun (l2_18 : Int32) => some (.inl (l1_17, l2_18, I_16)))))))) (r_2, (0 : Int32), I)) (fun (l1_6 : Int32) (I_7 : am_IT) => some (l1_6, I_7)))
set_option maxRecDepth 100000 in
set_option maxHeartbeats 4000000 in
theorem s_X0_lackOfChosen_30 {l : Launch} {d N : Nat} {P : am_PT} (hPl : am_Pl 94 N P) (hd : 69 ≤ d) {I : am_IT} {r : Int32} {I2 : am_IT} (hF : F_X0_lackOfChosen_30 I = some (r, I2)) : am_C l d 0 0 mX0_lackOfChosen [.ref 30] N P I (am_qi r N P I2) := by
  refine am_body (sc := am_sc0) (n := 2) (by decide +kernel) (by decide) rfl ?_
  change G am_sc0 l d 0 0 mX0_lackOfChosen (am_qi r N P I2) 0 [.ref 30, .null, .null] [] N P I 0 0
  unfold F_X0_lackOfChosen_30 at hF
  refine g_aload_n (pc := 0) dX0_lackOfChosen_0 rfl rfl ?_
  obtain ⟨r_2, h_1, hF⟩ := am_b1_el hF
  refine g_cVi (pc := 1) (k := 30) (As := []) (st := []) ky_X0_potsOfChosen kl_X0_65 (s_X0_potsOfChosen_30 (d := 1) (hPl) (Nat.le_refl _) h_1) rfl rfl rfl (hPl.lt (by decide)) (Nat.le_trans (by decide) hd) (Nat.le_of_ble_eq_true rfl) (Nat.le_refl _) (Nat.le_refl _) dX0_lackOfChosen_1 ?_
  refine n_istore_n (pc := 4) (ls2 := [.ref 30, .int r_2, .null]) rfl rfl dX0_lackOfChosen_4 rfl (Nat.le_of_ble_eq_true rfl) ?_
  refine g_iconst (pc := 5) (v := (0 : Int32)) dX0_lackOfChosen_5 rfl ?_
  refine n_istore_n (pc := 6) (ls2 := [.ref 30, .int r_2, .int (0 : Int32)]) rfl rfl dX0_lackOfChosen_6 rfl (Nat.le_of_ble_eq_true rfl) ?_
  obtain ⟨l1_6, I_7, hL_11, hF⟩ := am_b2_el hF
  have hX_8 : G am_sc0 l d 0 0 mX0_lackOfChosen (am_qi r N P I2) 32 [.ref 30, .int l1_6, .null] [] N P I_7 0 0 := by
    refine g_iload_n (pc := 32) dX0_lackOfChosen_32 rfl rfl ?_
    cases hF
    exact g_iret (pc := 33) rfl (Nat.le_refl _) (Nat.le_refl _) dX0_lackOfChosen_33 ⟨rfl, rfl, rfl, rfl⟩
  clear hF
  have hC := am_loop (C := fun x => G am_sc0 l d 0 0 mX0_lackOfChosen (am_qi r N P I2) 7 [.ref 30, .int x.1, .int x.2.1] [] N P x.2.2 0 0) (by
    rintro ⟨l1_3, l2_4, I_5⟩ rr hF ih_9 hE_10
    replace hF := am_u3_ap hF
    change G am_sc0 l d 0 0 mX0_lackOfChosen (am_qi r N P I2) 7 [.ref 30, .int l1_3, .int l2_4] [] N P I_5 0 0
    refine g_iload_n (pc := 7) dX0_lackOfChosen_7 rfl rfl ?_
    refine g_aload_n (pc := 8) dX0_lackOfChosen_8 rfl rfl ?_
    refine g_getR (pc := 9) (k := 30) (r := 1) kf_X0_31.r rfl rfl (hPl.get (by decide) rfl) (hPl.lt (by decide)) dX0_lackOfChosen_9 ?_
    refine g_getI (pc := 12) (k := 1) kf_X0_69.r rfl rfl (hPl.lt (by decide)) dX0_lackOfChosen_12 ?_
    refine g_icmp_ge (pc := 15) (tgt := 32) dX0_lackOfChosen_15 rfl (fun c_13 => ?_) (fun c_13 => ?_)
    · replace hF := am_yes c_13 hF
      cases hF
      cases hE_10 _ rfl
      exact g_weak hX_8 ⟨Or.inr rfl, Or.inr rfl, Or.inl rfl, trivial⟩
    · replace hF := am_no c_13 hF
      refine g_iload_n (pc := 18) dX0_lackOfChosen_18 rfl rfl ?_
      refine g_aload_n (pc := 19) dX0_lackOfChosen_19 rfl rfl ?_
      refine g_iload_n (pc := 20) dX0_lackOfChosen_20 rfl rfl ?_
      obtain ⟨r_15, I_16, h_14, hF⟩ := am_b2_el hF
      refine g_cVi (pc := 21) (k := 30) (As := [.int l2_4]) (st := [.int l1_3]) ky_X0_dueOf kl_X0_72 (s_X0_dueOf_30 (d := 68) (hPl) (Nat.le_refl _) h_14) rfl rfl rfl (hPl.lt (by decide)) (Nat.le_trans (by decide) hd) (Nat.le_of_ble_eq_true rfl) (Nat.le_refl _) (Nat.le_refl _) dX0_lackOfChosen_21 ?_
      refine g_isub (pc := 24) dX0_lackOfChosen_24 ?_
      obtain ⟨l1_17, e_l1_17, hF⟩ := am_let_el hF
      refine n_istore_n (pc := 25) (ls2 := [.ref 30, .int l1_17, .int l2_4]) e_l1_17 rfl dX0_lackOfChosen_25 rfl (Nat.le_of_ble_eq_true rfl) ?_
      obtain ⟨l2_18, e_l2_18, hF⟩ := am_let_el hF
      refine n_iinc (pc := 26) (ls2 := [.ref 30, .int l1_17, .int l2_18]) e_l2_18 rfl rfl rfl dX0_lackOfChosen_26 (Nat.le_of_ble_eq_true rfl) ?_
      refine g_goto (pc := 29) (tgt := 7) dX0_lackOfChosen_29 rfl ?_
      cases hF
      exact ih_9 (l1_17, l2_18, I_16) rfl
    ) _ _ hL_11
  exact hC
def F_X11_best_0 (I : am_IT) (a1 : Int32) : Option (Int32 × am_IT) := am_b1 (F_X9_hasPerson_1 I (a1 - (10 : Int32))) (fun (r_2 : Int32) => if r_2 = 0 then (am_b1 (F_X11_isWithin I a1 (0 : Int32) (2 : Int32)) (fun (r_20 : Int32) => if r_20 = 0 then (some ((-100000 : Int32), I)) else (am_b2 (F_X0_choose_30 I) (fun (r_24 : Int32) (I_25 : am_IT) => if a1 = 0 then (some (r_24, I_25)) else (if a1 = (1 : Int32) then (am_b1 (F_X0_potsOfChosen_30 I_25) (fun (r_36 : Int32) => some (r_36, I_25))) else (if r_2 = 0 then (am_b2 (F_X0_lackOfChosen_30 I_25) (fun (r_30 : Int32) (I_31 : am_IT) => some (r_30, I_31))) else (am_b2 (F_X0_dueOf_30 I_25 (a1 - (10 : Int32))) (fun (r_33 : Int32) (I_34 : am_IT) => some (r_33, I_34))))))))) else (am_b2 (F_X0_choose_30 I) (fun (r_6 : Int32) (I_7 : am_IT) => if a1 = 0 then (some (r_6, I_7)) else (if a1 = (1 : Int32) then (am_b1 (F_X0_potsOfChosen_30 I_7) (fun (r_18 : Int32) => some (r_18, I_7))) else (if r_2 = 0 then (am_b2 (F_X0_lackOfChosen_30 I_7) (fun (r_12 : Int32) (I_13 : am_IT) => some (r_12, I_13))) else (am_b2 (F_X0_dueOf_30 I_7 (a1 - (10 : Int32))) (fun (r_15 : Int32) (I_16 : am_IT) => some (r_15, I_16))))))))
set_option maxRecDepth 100000 in
set_option maxHeartbeats 4000000 in
theorem s_X11_best_0 {l : Launch} {d N : Nat} {P : am_PT} (hPl : am_Pl 94 N P) (hd : 70 ≤ d) {I : am_IT} {a1 : Int32} {r : Int32} {I2 : am_IT} (hF : F_X11_best_0 I a1 = some (r, I2)) : am_C l d 0 0 mX11_best [.ref 0, .int a1] N P I (am_qi r N P I2) := by
  refine am_body (sc := am_sc0) (n := 2) (by decide +kernel) (by decide) rfl ?_
  change G am_sc0 l d 0 0 mX11_best (am_qi r N P I2) 0 [.ref 0, .int a1, .null, .null] [] N P I 0 0
  unfold F_X11_best_0 at hF
  refine g_aload_n (pc := 0) dX11_best_0 rfl rfl ?_
  refine g_getR (pc := 1) (k := 0) (r := 1) kf_X11_12.r rfl rfl (hPl.get (by decide) rfl) (hPl.lt (by decide)) dX11_best_1 ?_
  refine g_iload_n (pc := 4) dX11_best_4 rfl rfl ?_
  refine g_bipush (pc := 5) (v := (10 : Int32)) dX11_best_5 rfl ?_
  refine g_isub (pc := 7) dX11_best_7 ?_
  obtain ⟨r_2, h_1, hF⟩ := am_b1_el hF
  refine g_cVz (pc := 8) (k := 1) (As := [.int (a1 - (10 : Int32))]) (st := []) ky_X9_hasPerson kl_X11_123 (s_X9_hasPerson_1 (d := 1) (hPl) (Nat.le_refl _) h_1) rfl rfl rfl (hPl.lt (by decide)) (Nat.le_trans (by decide) hd) (Nat.le_of_ble_eq_true rfl) (Nat.le_refl _) (Nat.le_refl _) dX11_best_8 ?_
  intro z_3
  refine n_istore_n (pc := 11) (ls2 := [.ref 0, .int a1, .int r_2, .null]) rfl rfl dX11_best_11 rfl (Nat.le_of_ble_eq_true rfl) ?_
  refine g_iload_n (pc := 12) dX11_best_12 rfl rfl ?_
  refine g_if_ne (pc := 13) (tgt := 28) dX11_best_13 rfl (fun c_4 => ?_) (fun c_4 => ?_)
  · replace hF := am_no c_4 hF
    refine g_aload_n (pc := 28) dX11_best_28 rfl rfl ?_
    refine g_getR (pc := 29) (k := 0) (r := 30) kf_X11_37.r rfl rfl (hPl.get (by decide) rfl) (hPl.lt (by decide)) dX11_best_29 ?_
    obtain ⟨r_6, I_7, h_5, hF⟩ := am_b2_el hF
    refine g_cVi (pc := 32) (k := 30) (As := []) (st := []) ky_X0_choose kl_X11_207 (s_X0_choose_30 (d := 68) (hPl) (Nat.le_refl _) h_5) rfl rfl rfl (hPl.lt (by decide)) (Nat.le_trans (by decide) hd) (Nat.le_of_ble_eq_true rfl) (Nat.le_refl _) (Nat.le_refl _) dX11_best_32 ?_
    refine n_istore_n (pc := 35) (ls2 := [.ref 0, .int a1, .int r_2, .int r_6]) rfl rfl dX11_best_35 rfl (Nat.le_of_ble_eq_true rfl) ?_
    refine g_iload_n (pc := 36) dX11_best_36 rfl rfl ?_
    refine g_if_ne (pc := 37) (tgt := 42) dX11_best_37 rfl (fun c_8 => ?_) (fun c_8 => ?_)
    · replace hF := am_no c_8 hF
      refine g_iload_n (pc := 42) dX11_best_42 rfl rfl ?_
      refine g_iconst (pc := 43) (v := (1 : Int32)) dX11_best_43 rfl ?_
      refine g_icmp_ne (pc := 44) (tgt := 55) dX11_best_44 rfl (fun c_9 => ?_) (fun c_9 => ?_)
      · replace hF := am_no c_9 hF
        refine g_iload_n (pc := 55) dX11_best_55 rfl rfl ?_
        refine g_if_eq (pc := 56) (tgt := 73) dX11_best_56 rfl (fun c_10 => ?_) (fun c_10 => ?_)
        · replace hF := am_yes c_10 hF
          refine g_aload_n (pc := 73) dX11_best_73 rfl rfl ?_
          refine g_getR (pc := 74) (k := 0) (r := 30) kf_X11_37.r rfl rfl (hPl.get (by decide) rfl) (hPl.lt (by decide)) dX11_best_74 ?_
          obtain ⟨r_12, I_13, h_11, hF⟩ := am_b2_el hF
          refine g_cVi (pc := 77) (k := 30) (As := []) (st := []) ky_X0_lackOfChosen kl_X11_217 (s_X0_lackOfChosen_30 (d := 69) (hPl) (Nat.le_refl _) h_11) rfl rfl rfl (hPl.lt (by decide)) (Nat.le_trans (by decide) hd) (Nat.le_of_ble_eq_true rfl) (Nat.le_refl _) (Nat.le_refl _) dX11_best_77 ?_
          cases hF
          exact g_iret (pc := 80) rfl (Nat.le_refl _) (Nat.le_refl _) dX11_best_80 ⟨rfl, rfl, rfl, rfl⟩
        · replace hF := am_no c_10 hF
          refine g_aload_n (pc := 59) dX11_best_59 rfl rfl ?_
          refine g_getR (pc := 60) (k := 0) (r := 30) kf_X11_37.r rfl rfl (hPl.get (by decide) rfl) (hPl.lt (by decide)) dX11_best_60 ?_
          refine g_iload_n (pc := 63) dX11_best_63 rfl rfl ?_
          refine g_bipush (pc := 64) (v := (10 : Int32)) dX11_best_64 rfl ?_
          refine g_isub (pc := 66) dX11_best_66 ?_
          obtain ⟨r_15, I_16, h_14, hF⟩ := am_b2_el hF
          refine g_cVi (pc := 67) (k := 30) (As := [.int (a1 - (10 : Int32))]) (st := []) ky_X0_dueOf kl_X11_214 (s_X0_dueOf_30 (d := 68) (hPl) (Nat.le_refl _) h_14) rfl rfl rfl (hPl.lt (by decide)) (Nat.le_trans (by decide) hd) (Nat.le_of_ble_eq_true rfl) (Nat.le_refl _) (Nat.le_refl _) dX11_best_67 ?_
          refine g_goto (pc := 70) (tgt := 80) dX11_best_70 rfl ?_
          cases hF
          exact g_iret (pc := 80) rfl (Nat.le_refl _) (Nat.le_refl _) dX11_best_80 ⟨rfl, rfl, rfl, rfl⟩
      · replace hF := am_yes c_9 hF
        refine g_aload_n (pc := 47) dX11_best_47 rfl rfl ?_
        refine g_getR (pc := 48) (k := 0) (r := 30) kf_X11_37.r rfl rfl (hPl.get (by decide) rfl) (hPl.lt (by decide)) dX11_best_48 ?_
        obtain ⟨r_18, h_17, hF⟩ := am_b1_el hF
        refine g_cVi (pc := 51) (k := 30) (As := []) (st := []) ky_X0_potsOfChosen kl_X11_211 (s_X0_potsOfChosen_30 (d := 1) (hPl) (Nat.le_refl _) h_17) rfl rfl rfl (hPl.lt (by decide)) (Nat.le_trans (by decide) hd) (Nat.le_of_ble_eq_true rfl) (Nat.le_refl _) (Nat.le_refl _) dX11_best_51 ?_
        cases hF
        exact g_iret (pc := 54) rfl (Nat.le_refl _) (Nat.le_refl _) dX11_best_54 ⟨rfl, rfl, rfl, rfl⟩
    · replace hF := am_yes c_8 hF
      refine g_iload_n (pc := 40) dX11_best_40 rfl rfl ?_
      cases hF
      exact g_iret (pc := 41) rfl (Nat.le_refl _) (Nat.le_refl _) dX11_best_41 ⟨rfl, rfl, rfl, rfl⟩
  · replace hF := am_yes c_4 hF
    refine g_iload_n (pc := 16) dX11_best_16 rfl rfl ?_
    refine g_iconst (pc := 17) (v := (0 : Int32)) dX11_best_17 rfl ?_
    refine g_iconst (pc := 18) (v := (2 : Int32)) dX11_best_18 rfl ?_
    obtain ⟨r_20, h_19, hF⟩ := am_b1_el hF
    refine g_cSz (pc := 19) (As := [.int a1, .int (0 : Int32), .int (2 : Int32)]) (st := []) ky_X11_isWithin kl_X11_97 (s_X11_isWithin (d := 1) (hPl) (Nat.le_refl _) h_19) rfl rfl (Nat.le_trans (by decide) hd) (Nat.le_of_ble_eq_true rfl) (Nat.le_refl _) (Nat.le_refl _) dX11_best_19 ?_
    intro z_21
    refine g_if_ne (pc := 22) (tgt := 28) dX11_best_22 rfl (fun c_22 => ?_) (fun c_22 => ?_)
    · replace hF := am_no c_22 hF
      refine g_aload_n (pc := 28) dX11_best_28 rfl rfl ?_
      refine g_getR (pc := 29) (k := 0) (r := 30) kf_X11_37.r rfl rfl (hPl.get (by decide) rfl) (hPl.lt (by decide)) dX11_best_29 ?_
      obtain ⟨r_24, I_25, h_23, hF⟩ := am_b2_el hF
      refine g_cVi (pc := 32) (k := 30) (As := []) (st := []) ky_X0_choose kl_X11_207 (s_X0_choose_30 (d := 68) (hPl) (Nat.le_refl _) h_23) rfl rfl rfl (hPl.lt (by decide)) (Nat.le_trans (by decide) hd) (Nat.le_of_ble_eq_true rfl) (Nat.le_refl _) (Nat.le_refl _) dX11_best_32 ?_
      refine n_istore_n (pc := 35) (ls2 := [.ref 0, .int a1, .int r_2, .int r_24]) rfl rfl dX11_best_35 rfl (Nat.le_of_ble_eq_true rfl) ?_
      refine g_iload_n (pc := 36) dX11_best_36 rfl rfl ?_
      refine g_if_ne (pc := 37) (tgt := 42) dX11_best_37 rfl (fun c_26 => ?_) (fun c_26 => ?_)
      · replace hF := am_no c_26 hF
        refine g_iload_n (pc := 42) dX11_best_42 rfl rfl ?_
        refine g_iconst (pc := 43) (v := (1 : Int32)) dX11_best_43 rfl ?_
        refine g_icmp_ne (pc := 44) (tgt := 55) dX11_best_44 rfl (fun c_27 => ?_) (fun c_27 => ?_)
        · replace hF := am_no c_27 hF
          refine g_iload_n (pc := 55) dX11_best_55 rfl rfl ?_
          refine g_if_eq (pc := 56) (tgt := 73) dX11_best_56 rfl (fun c_28 => ?_) (fun c_28 => ?_)
          · replace hF := am_yes c_28 hF
            refine g_aload_n (pc := 73) dX11_best_73 rfl rfl ?_
            refine g_getR (pc := 74) (k := 0) (r := 30) kf_X11_37.r rfl rfl (hPl.get (by decide) rfl) (hPl.lt (by decide)) dX11_best_74 ?_
            obtain ⟨r_30, I_31, h_29, hF⟩ := am_b2_el hF
            refine g_cVi (pc := 77) (k := 30) (As := []) (st := []) ky_X0_lackOfChosen kl_X11_217 (s_X0_lackOfChosen_30 (d := 69) (hPl) (Nat.le_refl _) h_29) rfl rfl rfl (hPl.lt (by decide)) (Nat.le_trans (by decide) hd) (Nat.le_of_ble_eq_true rfl) (Nat.le_refl _) (Nat.le_refl _) dX11_best_77 ?_
            cases hF
            exact g_iret (pc := 80) rfl (Nat.le_refl _) (Nat.le_refl _) dX11_best_80 ⟨rfl, rfl, rfl, rfl⟩
          · replace hF := am_no c_28 hF
            refine g_aload_n (pc := 59) dX11_best_59 rfl rfl ?_
            refine g_getR (pc := 60) (k := 0) (r := 30) kf_X11_37.r rfl rfl (hPl.get (by decide) rfl) (hPl.lt (by decide)) dX11_best_60 ?_
            refine g_iload_n (pc := 63) dX11_best_63 rfl rfl ?_
            refine g_bipush (pc := 64) (v := (10 : Int32)) dX11_best_64 rfl ?_
            refine g_isub (pc := 66) dX11_best_66 ?_
            obtain ⟨r_33, I_34, h_32, hF⟩ := am_b2_el hF
            refine g_cVi (pc := 67) (k := 30) (As := [.int (a1 - (10 : Int32))]) (st := []) ky_X0_dueOf kl_X11_214 (s_X0_dueOf_30 (d := 68) (hPl) (Nat.le_refl _) h_32) rfl rfl rfl (hPl.lt (by decide)) (Nat.le_trans (by decide) hd) (Nat.le_of_ble_eq_true rfl) (Nat.le_refl _) (Nat.le_refl _) dX11_best_67 ?_
            refine g_goto (pc := 70) (tgt := 80) dX11_best_70 rfl ?_
            cases hF
            exact g_iret (pc := 80) rfl (Nat.le_refl _) (Nat.le_refl _) dX11_best_80 ⟨rfl, rfl, rfl, rfl⟩
        · replace hF := am_yes c_27 hF
          refine g_aload_n (pc := 47) dX11_best_47 rfl rfl ?_
          refine g_getR (pc := 48) (k := 0) (r := 30) kf_X11_37.r rfl rfl (hPl.get (by decide) rfl) (hPl.lt (by decide)) dX11_best_48 ?_
          obtain ⟨r_36, h_35, hF⟩ := am_b1_el hF
          refine g_cVi (pc := 51) (k := 30) (As := []) (st := []) ky_X0_potsOfChosen kl_X11_211 (s_X0_potsOfChosen_30 (d := 1) (hPl) (Nat.le_refl _) h_35) rfl rfl rfl (hPl.lt (by decide)) (Nat.le_trans (by decide) hd) (Nat.le_of_ble_eq_true rfl) (Nat.le_refl _) (Nat.le_refl _) dX11_best_51 ?_
          cases hF
          exact g_iret (pc := 54) rfl (Nat.le_refl _) (Nat.le_refl _) dX11_best_54 ⟨rfl, rfl, rfl, rfl⟩
      · replace hF := am_yes c_26 hF
        refine g_iload_n (pc := 40) dX11_best_40 rfl rfl ?_
        cases hF
        exact g_iret (pc := 41) rfl (Nat.le_refl _) (Nat.le_refl _) dX11_best_41 ⟨rfl, rfl, rfl, rfl⟩
    · replace hF := am_yes c_22 hF
      refine g_ldc (pc := 25) dX11_best_25 kc_X11_185 ?_
      cases hF
      exact g_iret (pc := 27) rfl (Nat.le_refl _) (Nat.le_refl _) dX11_best_27 ⟨rfl, rfl, rfl, rfl⟩
def F_X10_weighParts_36_3_38 (I : am_IT) (a1 : Int32) : Option (am_IT) := am_b1 (am_it am_fu (am_u2 (fun (l4_1 : Int32) (I_2 : am_IT) => if (I_2 1 3) ≤ l4_1 then (some (.inr (I_2))) else (am_b1 (am_it am_fu (am_u2 (fun (l5_10 : Int32) (I_11 : am_IT) => if (I_11 1 0) ≤ l5_10 then (some (.inr (I_11))) else (am_b1 (F_X8_yardsOf_23 I_11 a1 l4_1) (fun (r_20 : Int32) => if am_ix ((a1 * (4 : Int32)) + l5_10) 28 = true then (if am_ix ((l4_1 * (4 : Int32)) + l5_10) 28 = true then (am_let (up2 I_11 38 ((l4_1 * (4 : Int32)) + l5_10).toNatClampNeg (r_20 * (I_11 7 ((a1 * (4 : Int32)) + l5_10).toNatClampNeg))) (fun (I_23 : am_IT) => am_let (l5_10 + (1 : Int32)) (fun (l5_24 : Int32) => some (.inl (l5_24, I_23))))) else none) else none)))) ((0 : Int32), I_2)) (fun (I_12 : am_IT) => am_b1 (am_it am_fu (am_u2 (fun (l5_25 : Int32) (I_26 : am_IT) => if (I_26 1 3) ≤ l5_25 then (some (.inr (I_26))) else (if l5_25 = l4_1 then (am_let (l5_25 + (1 : Int32)) (fun (l5_35 : Int32) => some (.inl (l5_35, I_26)))) else (if am_ix l5_25 7 = true then (if am_ix ((l4_1 * (4 : Int32)) + (I_26 3 l5_25.toNatClampNeg)) 28 = true then (if am_ix a1 7 = true then (am_b1 (F_X8_worthOfTwo_23 I_26 a1 (I_26 4 a1.toNatClampNeg) l4_1 l5_25) (fun (r_40 : Int32) => if am_ix ((l4_1 * (4 : Int32)) + (I_26 3 l5_25.toNatClampNeg)) 28 = true then (am_let (up2 I_26 38 ((l4_1 * (4 : Int32)) + (I_26 3 l5_25.toNatClampNeg)).toNatClampNeg ((I_26 38 ((l4_1 * (4 : Int32)) + (I_26 3 l5_25.toNatClampNeg)).toNatClampNeg) + r_40)) (fun (I_42 : am_IT) => am_let (l5_25 + (1 : Int32)) (fun (l5_43 : Int32) => some (.inl (l5_43, I_42))))) else none)) else none) else none) else none)))) ((0 : Int32), I_12)) (fun (I_27 : am_IT) => am_let (l4_1 + (1 : Int32)) (fun (l4_44 : Int32) => some (.inl (l4_44, I_27)))))))) ((0 : Int32), I)) (fun (I_3 : am_IT) => some I_3)
set_option maxRecDepth 100000 in
set_option maxHeartbeats 4000000 in
theorem s_X10_weighParts_36_3_38 {l : Launch} {d N : Nat} {P : am_PT} (hPl : am_Pl 94 N P) (hd : 3 ≤ d) {I : am_IT} {a1 : Int32} {I2 : am_IT} (hF : F_X10_weighParts_36_3_38 I a1 = some (I2)) : am_C l d 0 0 mX10_weighParts [.ref 36, .int a1, .ref 3, .ref 38] N P I (am_qv N P I2) := by
  refine am_body (sc := am_sc0) (n := 2) (by decide +kernel) (by decide) rfl ?_
  change G am_sc0 l d 0 0 mX10_weighParts (am_qv N P I2) 0 [.ref 36, .int a1, .ref 3, .ref 38, .null, .null] [] N P I 0 0
  unfold F_X10_weighParts_36_3_38 at hF
  refine g_iconst (pc := 0) (v := (0 : Int32)) dX10_weighParts_0 rfl ?_
  refine n_istore (pc := 1) (ls2 := [.ref 36, .int a1, .ref 3, .ref 38, .int (0 : Int32), .null]) rfl rfl dX10_weighParts_1 (Nat.le_of_ble_eq_true rfl) ?_
  obtain ⟨I_3, hL_7, hF⟩ := am_b1_el hF
  have hX_4 : G am_sc0 l d 0 0 mX10_weighParts (am_qv N P I2) 139 [.ref 36, .int a1, .ref 3, .ref 38, .null, .null] [] N P I_3 0 0 := by
    cases hF
    exact g_vret (pc := 139) rfl (Nat.le_refl _) (Nat.le_refl _) dX10_weighParts_139 ⟨rfl, rfl, rfl, rfl⟩
  clear hF
  have hC := am_loop (C := fun x => G am_sc0 l d 0 0 mX10_weighParts (am_qv N P I2) 3 [.ref 36, .int a1, .ref 3, .ref 38, .int x.1, .null] [] N P x.2 0 0) (by
    rintro ⟨l4_1, I_2⟩ rr hF ih_5 hE_6
    replace hF := am_u2_ap hF
    change G am_sc0 l d 0 0 mX10_weighParts (am_qv N P I2) 3 [.ref 36, .int a1, .ref 3, .ref 38, .int l4_1, .null] [] N P I_2 0 0
    refine g_iload (pc := 3) dX10_weighParts_3 rfl ?_
    refine g_aload_n (pc := 5) dX10_weighParts_5 rfl rfl ?_
    refine g_getR (pc := 6) (k := 36) (r := 1) kf_X10_21.r rfl rfl (hPl.get (by decide) rfl) (hPl.lt (by decide)) dX10_weighParts_6 ?_
    refine g_getI (pc := 9) (k := 1) kf_X10_61.r rfl rfl (hPl.lt (by decide)) dX10_weighParts_9 ?_
    refine g_icmp_ge (pc := 12) (tgt := 139) dX10_weighParts_12 rfl (fun c_9 => ?_) (fun c_9 => ?_)
    · replace hF := am_yes c_9 hF
      cases hF
      cases hE_6 _ rfl
      exact g_weak hX_4 ⟨Or.inr rfl, Or.inr rfl, Or.inr rfl, Or.inr rfl, Or.inl rfl, Or.inl rfl, trivial⟩
    · replace hF := am_no c_9 hF
      refine g_iconst (pc := 15) (v := (0 : Int32)) dX10_weighParts_15 rfl ?_
      refine n_istore (pc := 16) (ls2 := [.ref 36, .int a1, .ref 3, .ref 38, .int l4_1, .int (0 : Int32)]) rfl rfl dX10_weighParts_16 (Nat.le_of_ble_eq_true rfl) ?_
      obtain ⟨I_12, hL_16, hF⟩ := am_b1_el hF
      have hX_13 : G am_sc0 l d 0 0 mX10_weighParts (am_qv N P I2) 70 [.ref 36, .int a1, .ref 3, .ref 38, .int l4_1, .null] [] N P I_12 0 0 := by
        refine g_iconst (pc := 70) (v := (0 : Int32)) dX10_weighParts_70 rfl ?_
        refine n_istore (pc := 71) (ls2 := [.ref 36, .int a1, .ref 3, .ref 38, .int l4_1, .int (0 : Int32)]) rfl rfl dX10_weighParts_71 (Nat.le_of_ble_eq_true rfl) ?_
        obtain ⟨I_27, hL_31, hF⟩ := am_b1_el hF
        have hX_28 : G am_sc0 l d 0 0 mX10_weighParts (am_qv N P I2) 133 [.ref 36, .int a1, .ref 3, .ref 38, .int l4_1, .null] [] N P I_27 0 0 := by
          obtain ⟨l4_44, e_l4_44, hF⟩ := am_let_el hF
          refine n_iinc (pc := 133) (ls2 := [.ref 36, .int a1, .ref 3, .ref 38, .int l4_44, .null]) e_l4_44 rfl rfl rfl dX10_weighParts_133 (Nat.le_of_ble_eq_true rfl) ?_
          refine g_goto (pc := 136) (tgt := 3) dX10_weighParts_136 rfl ?_
          cases hF
          exact ih_5 (l4_44, I_27) rfl
        clear hF
        have hC := am_loop (C := fun x => G am_sc0 l d 0 0 mX10_weighParts (am_qv N P I2) 73 [.ref 36, .int a1, .ref 3, .ref 38, .int l4_1, .int x.1] [] N P x.2 0 0) (by
          rintro ⟨l5_25, I_26⟩ rr hF ih_29 hE_30
          replace hF := am_u2_ap hF
          change G am_sc0 l d 0 0 mX10_weighParts (am_qv N P I2) 73 [.ref 36, .int a1, .ref 3, .ref 38, .int l4_1, .int l5_25] [] N P I_26 0 0
          refine g_iload (pc := 73) dX10_weighParts_73 rfl ?_
          refine g_aload_n (pc := 75) dX10_weighParts_75 rfl rfl ?_
          refine g_getR (pc := 76) (k := 36) (r := 1) kf_X10_21.r rfl rfl (hPl.get (by decide) rfl) (hPl.lt (by decide)) dX10_weighParts_76 ?_
          refine g_getI (pc := 79) (k := 1) kf_X10_61.r rfl rfl (hPl.lt (by decide)) dX10_weighParts_79 ?_
          refine g_icmp_ge (pc := 82) (tgt := 133) dX10_weighParts_82 rfl (fun c_33 => ?_) (fun c_33 => ?_)
          · replace hF := am_yes c_33 hF
            cases hF
            cases hE_30 _ rfl
            exact g_weak hX_28 ⟨Or.inr rfl, Or.inr rfl, Or.inr rfl, Or.inr rfl, Or.inr rfl, Or.inl rfl, trivial⟩
          · replace hF := am_no c_33 hF
            refine g_iload (pc := 85) dX10_weighParts_85 rfl ?_
            refine g_iload (pc := 87) dX10_weighParts_87 rfl ?_
            refine g_icmp_eq (pc := 89) (tgt := 127) dX10_weighParts_89 rfl (fun c_34 => ?_) (fun c_34 => ?_)
            · replace hF := am_yes c_34 hF
              obtain ⟨l5_35, e_l5_35, hF⟩ := am_let_el hF
              refine n_iinc (pc := 127) (ls2 := [.ref 36, .int a1, .ref 3, .ref 38, .int l4_1, .int l5_35]) e_l5_35 rfl rfl rfl dX10_weighParts_127 (Nat.le_of_ble_eq_true rfl) ?_
              refine g_goto (pc := 130) (tgt := 73) dX10_weighParts_130 rfl ?_
              cases hF
              exact ih_29 (l5_35, I_26) rfl
            · replace hF := am_no c_34 hF
              refine g_aload_n (pc := 92) dX10_weighParts_92 rfl rfl ?_
              refine g_iload (pc := 93) dX10_weighParts_93 rfl ?_
              refine g_iconst (pc := 95) (v := (4 : Int32)) dX10_weighParts_95 rfl ?_
              refine g_imul (pc := 96) dX10_weighParts_96 ?_
              refine g_aload_n (pc := 97) dX10_weighParts_97 rfl rfl ?_
              refine g_iload (pc := 98) dX10_weighParts_98 rfl ?_
              obtain ⟨c_36, hF⟩ := am_gd hF
              refine g_iald (pc := 100) (k := 3) rfl (hPl.lt (by decide)) (am_ix_use c_36) dX10_weighParts_100 ?_
              refine g_iadd (pc := 101) dX10_weighParts_101 ?_
              refine g_dup2 (pc := 102) dX10_weighParts_102 ?_
              obtain ⟨c_37, hF⟩ := am_gd hF
              refine g_iald (pc := 103) (k := 38) rfl (hPl.lt (by decide)) (am_ix_use c_37) dX10_weighParts_103 ?_
              refine g_aload_n (pc := 104) dX10_weighParts_104 rfl rfl ?_
              refine g_getR (pc := 105) (k := 36) (r := 23) kf_X10_25.r rfl rfl (hPl.get (by decide) rfl) (hPl.lt (by decide)) dX10_weighParts_105 ?_
              refine g_iload_n (pc := 108) dX10_weighParts_108 rfl rfl ?_
              refine g_aload_n (pc := 109) dX10_weighParts_109 rfl rfl ?_
              refine g_getR (pc := 110) (k := 36) (r := 1) kf_X10_21.r rfl rfl (hPl.get (by decide) rfl) (hPl.lt (by decide)) dX10_weighParts_110 ?_
              refine g_getR (pc := 113) (k := 1) (r := 4) kf_X10_78 rfl rfl (hPl.get (by decide) rfl) (hPl.lt (by decide)) dX10_weighParts_113 ?_
              refine g_iload_n (pc := 116) dX10_weighParts_116 rfl rfl ?_
              obtain ⟨c_38, hF⟩ := am_gd hF
              refine g_iald (pc := 117) (k := 4) rfl (hPl.lt (by decide)) (am_ix_use c_38) dX10_weighParts_117 ?_
              refine g_iload (pc := 118) dX10_weighParts_118 rfl ?_
              refine g_iload (pc := 120) dX10_weighParts_120 rfl ?_
              obtain ⟨r_40, h_39, hF⟩ := am_b1_el hF
              refine g_cVi (pc := 122) (k := 23) (As := [.int a1, .int (I_26 4 a1.toNatClampNeg), .int l4_1, .int l5_25]) (st := [.int (I_26 38 ((l4_1 * (4 : Int32)) + (I_26 3 l5_25.toNatClampNeg)).toNatClampNeg), .int ((l4_1 * (4 : Int32)) + (I_26 3 l5_25.toNatClampNeg)), .ref 38]) ky_X8_worthOfTwo kl_X10_81 (s_X8_worthOfTwo_23 (d := 2) (hPl) (Nat.le_refl _) h_39) rfl rfl rfl (hPl.lt (by decide)) (Nat.le_trans (by decide) hd) (Nat.le_of_ble_eq_true rfl) (Nat.le_refl _) (Nat.le_refl _) dX10_weighParts_122 ?_
              refine g_iadd (pc := 125) dX10_weighParts_125 ?_
              obtain ⟨c_41, hF⟩ := am_gd hF
              obtain ⟨I_42, e_I_42, hF⟩ := am_let_el hF
              refine n_iast (pc := 126) (k := 38) e_I_42 rfl (hPl.lt (by decide)) (am_ix_use c_41) dX10_weighParts_126 ?_
              obtain ⟨l5_43, e_l5_43, hF⟩ := am_let_el hF
              refine n_iinc (pc := 127) (ls2 := [.ref 36, .int a1, .ref 3, .ref 38, .int l4_1, .int l5_43]) e_l5_43 rfl rfl rfl dX10_weighParts_127 (Nat.le_of_ble_eq_true rfl) ?_
              refine g_goto (pc := 130) (tgt := 73) dX10_weighParts_130 rfl ?_
              cases hF
              exact ih_29 (l5_43, I_42) rfl
          ) _ _ hL_31
        exact hC
      clear hF
      have hC := am_loop (C := fun x => G am_sc0 l d 0 0 mX10_weighParts (am_qv N P I2) 18 [.ref 36, .int a1, .ref 3, .ref 38, .int l4_1, .int x.1] [] N P x.2 0 0) (by
        rintro ⟨l5_10, I_11⟩ rr hF ih_14 hE_15
        replace hF := am_u2_ap hF
        change G am_sc0 l d 0 0 mX10_weighParts (am_qv N P I2) 18 [.ref 36, .int a1, .ref 3, .ref 38, .int l4_1, .int l5_10] [] N P I_11 0 0
        refine g_iload (pc := 18) dX10_weighParts_18 rfl ?_
        refine g_aload_n (pc := 20) dX10_weighParts_20 rfl rfl ?_
        refine g_getR (pc := 21) (k := 36) (r := 1) kf_X10_21.r rfl rfl (hPl.get (by decide) rfl) (hPl.lt (by decide)) dX10_weighParts_21 ?_
        refine g_getI (pc := 24) (k := 1) kf_X10_68.r rfl rfl (hPl.lt (by decide)) dX10_weighParts_24 ?_
        refine g_icmp_ge (pc := 27) (tgt := 70) dX10_weighParts_27 rfl (fun c_18 => ?_) (fun c_18 => ?_)
        · replace hF := am_yes c_18 hF
          cases hF
          cases hE_15 _ rfl
          exact g_weak hX_13 ⟨Or.inr rfl, Or.inr rfl, Or.inr rfl, Or.inr rfl, Or.inr rfl, Or.inl rfl, trivial⟩
        · replace hF := am_no c_18 hF
          refine g_aload_n (pc := 30) dX10_weighParts_30 rfl rfl ?_
          refine g_iload (pc := 31) dX10_weighParts_31 rfl ?_
          refine g_iconst (pc := 33) (v := (4 : Int32)) dX10_weighParts_33 rfl ?_
          refine g_imul (pc := 34) dX10_weighParts_34 ?_
          refine g_iload (pc := 35) dX10_weighParts_35 rfl ?_
          refine g_iadd (pc := 37) dX10_weighParts_37 ?_
          refine g_aload_n (pc := 38) dX10_weighParts_38 rfl rfl ?_
          refine g_getR (pc := 39) (k := 36) (r := 23) kf_X10_25.r rfl rfl (hPl.get (by decide) rfl) (hPl.lt (by decide)) dX10_weighParts_39 ?_
          refine g_iload_n (pc := 42) dX10_weighParts_42 rfl rfl ?_
          refine g_iload (pc := 43) dX10_weighParts_43 rfl ?_
          obtain ⟨r_20, h_19, hF⟩ := am_b1_el hF
          refine g_cVi (pc := 45) (k := 23) (As := [.int a1, .int l4_1]) (st := [.int ((l4_1 * (4 : Int32)) + l5_10), .ref 38]) ky_X8_yardsOf kl_X10_71 (s_X8_yardsOf_23 (d := 1) (hPl) (Nat.le_refl _) h_19) rfl rfl rfl (hPl.lt (by decide)) (Nat.le_trans (by decide) hd) (Nat.le_of_ble_eq_true rfl) (Nat.le_refl _) (Nat.le_refl _) dX10_weighParts_45 ?_
          refine g_aload_n (pc := 48) dX10_weighParts_48 rfl rfl ?_
          refine g_getR (pc := 49) (k := 36) (r := 1) kf_X10_21.r rfl rfl (hPl.get (by decide) rfl) (hPl.lt (by decide)) dX10_weighParts_49 ?_
          refine g_getR (pc := 52) (k := 1) (r := 7) kf_X10_75 rfl rfl (hPl.get (by decide) rfl) (hPl.lt (by decide)) dX10_weighParts_52 ?_
          refine g_iload_n (pc := 55) dX10_weighParts_55 rfl rfl ?_
          refine g_iconst (pc := 56) (v := (4 : Int32)) dX10_weighParts_56 rfl ?_
          refine g_imul (pc := 57) dX10_weighParts_57 ?_
          refine g_iload (pc := 58) dX10_weighParts_58 rfl ?_
          refine g_iadd (pc := 60) dX10_weighParts_60 ?_
          obtain ⟨c_21, hF⟩ := am_gd hF
          refine g_iald (pc := 61) (k := 7) rfl (hPl.lt (by decide)) (am_ix_use c_21) dX10_weighParts_61 ?_
          refine g_imul (pc := 62) dX10_weighParts_62 ?_
          obtain ⟨c_22, hF⟩ := am_gd hF
          obtain ⟨I_23, e_I_23, hF⟩ := am_let_el hF
          refine n_iast (pc := 63) (k := 38) e_I_23 rfl (hPl.lt (by decide)) (am_ix_use c_22) dX10_weighParts_63 ?_
          obtain ⟨l5_24, e_l5_24, hF⟩ := am_let_el hF
          refine n_iinc (pc := 64) (ls2 := [.ref 36, .int a1, .ref 3, .ref 38, .int l4_1, .int l5_24]) e_l5_24 rfl rfl rfl dX10_weighParts_64 (Nat.le_of_ble_eq_true rfl) ?_
          refine g_goto (pc := 67) (tgt := 18) dX10_weighParts_67 rfl ?_
          cases hF
          exact ih_14 (l5_24, I_23) rfl
        ) _ _ hL_16
      exact hC
    ) _ _ hL_7
  exact hC
def F_X10_weighParts_36_3_39 (I : am_IT) (a1 : Int32) : Option (am_IT) := am_b1 (am_it am_fu (am_u2 (fun (l4_1 : Int32) (I_2 : am_IT) => if (I_2 1 3) ≤ l4_1 then (some (.inr (I_2))) else (am_b1 (am_it am_fu (am_u2 (fun (l5_10 : Int32) (I_11 : am_IT) => if (I_11 1 0) ≤ l5_10 then (some (.inr (I_11))) else (am_b1 (F_X8_yardsOf_23 I_11 a1 l4_1) (fun (r_20 : Int32) => if am_ix ((a1 * (4 : Int32)) + l5_10) 28 = true then (if am_ix ((l4_1 * (4 : Int32)) + l5_10) 28 = true then (am_let (up2 I_11 39 ((l4_1 * (4 : Int32)) + l5_10).toNatClampNeg (r_20 * (I_11 7 ((a1 * (4 : Int32)) + l5_10).toNatClampNeg))) (fun (I_23 : am_IT) => am_let (l5_10 + (1 : Int32)) (fun (l5_24 : Int32) => some (.inl (l5_24, I_23))))) else none) else none)))) ((0 : Int32), I_2)) (fun (I_12 : am_IT) => am_b1 (am_it am_fu (am_u2 (fun (l5_25 : Int32) (I_26 : am_IT) => if (I_26 1 3) ≤ l5_25 then (some (.inr (I_26))) else (if l5_25 = l4_1 then (am_let (l5_25 + (1 : Int32)) (fun (l5_35 : Int32) => some (.inl (l5_35, I_26)))) else (if am_ix l5_25 7 = true then (if am_ix ((l4_1 * (4 : Int32)) + (I_26 3 l5_25.toNatClampNeg)) 28 = true then (if am_ix a1 7 = true then (am_b1 (F_X8_worthOfTwo_23 I_26 a1 (I_26 4 a1.toNatClampNeg) l4_1 l5_25) (fun (r_40 : Int32) => if am_ix ((l4_1 * (4 : Int32)) + (I_26 3 l5_25.toNatClampNeg)) 28 = true then (am_let (up2 I_26 39 ((l4_1 * (4 : Int32)) + (I_26 3 l5_25.toNatClampNeg)).toNatClampNeg ((I_26 39 ((l4_1 * (4 : Int32)) + (I_26 3 l5_25.toNatClampNeg)).toNatClampNeg) + r_40)) (fun (I_42 : am_IT) => am_let (l5_25 + (1 : Int32)) (fun (l5_43 : Int32) => some (.inl (l5_43, I_42))))) else none)) else none) else none) else none)))) ((0 : Int32), I_12)) (fun (I_27 : am_IT) => am_let (l4_1 + (1 : Int32)) (fun (l4_44 : Int32) => some (.inl (l4_44, I_27)))))))) ((0 : Int32), I)) (fun (I_3 : am_IT) => some I_3)
set_option maxRecDepth 100000 in
set_option maxHeartbeats 4000000 in
theorem s_X10_weighParts_36_3_39 {l : Launch} {d N : Nat} {P : am_PT} (hPl : am_Pl 94 N P) (hd : 3 ≤ d) {I : am_IT} {a1 : Int32} {I2 : am_IT} (hF : F_X10_weighParts_36_3_39 I a1 = some (I2)) : am_C l d 0 0 mX10_weighParts [.ref 36, .int a1, .ref 3, .ref 39] N P I (am_qv N P I2) := by
  refine am_body (sc := am_sc0) (n := 2) (by decide +kernel) (by decide) rfl ?_
  change G am_sc0 l d 0 0 mX10_weighParts (am_qv N P I2) 0 [.ref 36, .int a1, .ref 3, .ref 39, .null, .null] [] N P I 0 0
  unfold F_X10_weighParts_36_3_39 at hF
  refine g_iconst (pc := 0) (v := (0 : Int32)) dX10_weighParts_0 rfl ?_
  refine n_istore (pc := 1) (ls2 := [.ref 36, .int a1, .ref 3, .ref 39, .int (0 : Int32), .null]) rfl rfl dX10_weighParts_1 (Nat.le_of_ble_eq_true rfl) ?_
  obtain ⟨I_3, hL_7, hF⟩ := am_b1_el hF
  have hX_4 : G am_sc0 l d 0 0 mX10_weighParts (am_qv N P I2) 139 [.ref 36, .int a1, .ref 3, .ref 39, .null, .null] [] N P I_3 0 0 := by
    cases hF
    exact g_vret (pc := 139) rfl (Nat.le_refl _) (Nat.le_refl _) dX10_weighParts_139 ⟨rfl, rfl, rfl, rfl⟩
  clear hF
  have hC := am_loop (C := fun x => G am_sc0 l d 0 0 mX10_weighParts (am_qv N P I2) 3 [.ref 36, .int a1, .ref 3, .ref 39, .int x.1, .null] [] N P x.2 0 0) (by
    rintro ⟨l4_1, I_2⟩ rr hF ih_5 hE_6
    replace hF := am_u2_ap hF
    change G am_sc0 l d 0 0 mX10_weighParts (am_qv N P I2) 3 [.ref 36, .int a1, .ref 3, .ref 39, .int l4_1, .null] [] N P I_2 0 0
    refine g_iload (pc := 3) dX10_weighParts_3 rfl ?_
    refine g_aload_n (pc := 5) dX10_weighParts_5 rfl rfl ?_
    refine g_getR (pc := 6) (k := 36) (r := 1) kf_X10_21.r rfl rfl (hPl.get (by decide) rfl) (hPl.lt (by decide)) dX10_weighParts_6 ?_
    refine g_getI (pc := 9) (k := 1) kf_X10_61.r rfl rfl (hPl.lt (by decide)) dX10_weighParts_9 ?_
    refine g_icmp_ge (pc := 12) (tgt := 139) dX10_weighParts_12 rfl (fun c_9 => ?_) (fun c_9 => ?_)
    · replace hF := am_yes c_9 hF
      cases hF
      cases hE_6 _ rfl
      exact g_weak hX_4 ⟨Or.inr rfl, Or.inr rfl, Or.inr rfl, Or.inr rfl, Or.inl rfl, Or.inl rfl, trivial⟩
    · replace hF := am_no c_9 hF
      refine g_iconst (pc := 15) (v := (0 : Int32)) dX10_weighParts_15 rfl ?_
      refine n_istore (pc := 16) (ls2 := [.ref 36, .int a1, .ref 3, .ref 39, .int l4_1, .int (0 : Int32)]) rfl rfl dX10_weighParts_16 (Nat.le_of_ble_eq_true rfl) ?_
      obtain ⟨I_12, hL_16, hF⟩ := am_b1_el hF
      have hX_13 : G am_sc0 l d 0 0 mX10_weighParts (am_qv N P I2) 70 [.ref 36, .int a1, .ref 3, .ref 39, .int l4_1, .null] [] N P I_12 0 0 := by
        refine g_iconst (pc := 70) (v := (0 : Int32)) dX10_weighParts_70 rfl ?_
        refine n_istore (pc := 71) (ls2 := [.ref 36, .int a1, .ref 3, .ref 39, .int l4_1, .int (0 : Int32)]) rfl rfl dX10_weighParts_71 (Nat.le_of_ble_eq_true rfl) ?_
        obtain ⟨I_27, hL_31, hF⟩ := am_b1_el hF
        have hX_28 : G am_sc0 l d 0 0 mX10_weighParts (am_qv N P I2) 133 [.ref 36, .int a1, .ref 3, .ref 39, .int l4_1, .null] [] N P I_27 0 0 := by
          obtain ⟨l4_44, e_l4_44, hF⟩ := am_let_el hF
          refine n_iinc (pc := 133) (ls2 := [.ref 36, .int a1, .ref 3, .ref 39, .int l4_44, .null]) e_l4_44 rfl rfl rfl dX10_weighParts_133 (Nat.le_of_ble_eq_true rfl) ?_
          refine g_goto (pc := 136) (tgt := 3) dX10_weighParts_136 rfl ?_
          cases hF
          exact ih_5 (l4_44, I_27) rfl
        clear hF
        have hC := am_loop (C := fun x => G am_sc0 l d 0 0 mX10_weighParts (am_qv N P I2) 73 [.ref 36, .int a1, .ref 3, .ref 39, .int l4_1, .int x.1] [] N P x.2 0 0) (by
          rintro ⟨l5_25, I_26⟩ rr hF ih_29 hE_30
          replace hF := am_u2_ap hF
          change G am_sc0 l d 0 0 mX10_weighParts (am_qv N P I2) 73 [.ref 36, .int a1, .ref 3, .ref 39, .int l4_1, .int l5_25] [] N P I_26 0 0
          refine g_iload (pc := 73) dX10_weighParts_73 rfl ?_
          refine g_aload_n (pc := 75) dX10_weighParts_75 rfl rfl ?_
          refine g_getR (pc := 76) (k := 36) (r := 1) kf_X10_21.r rfl rfl (hPl.get (by decide) rfl) (hPl.lt (by decide)) dX10_weighParts_76 ?_
          refine g_getI (pc := 79) (k := 1) kf_X10_61.r rfl rfl (hPl.lt (by decide)) dX10_weighParts_79 ?_
          refine g_icmp_ge (pc := 82) (tgt := 133) dX10_weighParts_82 rfl (fun c_33 => ?_) (fun c_33 => ?_)
          · replace hF := am_yes c_33 hF
            cases hF
            cases hE_30 _ rfl
            exact g_weak hX_28 ⟨Or.inr rfl, Or.inr rfl, Or.inr rfl, Or.inr rfl, Or.inr rfl, Or.inl rfl, trivial⟩
          · replace hF := am_no c_33 hF
            refine g_iload (pc := 85) dX10_weighParts_85 rfl ?_
            refine g_iload (pc := 87) dX10_weighParts_87 rfl ?_
            refine g_icmp_eq (pc := 89) (tgt := 127) dX10_weighParts_89 rfl (fun c_34 => ?_) (fun c_34 => ?_)
            · replace hF := am_yes c_34 hF
              obtain ⟨l5_35, e_l5_35, hF⟩ := am_let_el hF
              refine n_iinc (pc := 127) (ls2 := [.ref 36, .int a1, .ref 3, .ref 39, .int l4_1, .int l5_35]) e_l5_35 rfl rfl rfl dX10_weighParts_127 (Nat.le_of_ble_eq_true rfl) ?_
              refine g_goto (pc := 130) (tgt := 73) dX10_weighParts_130 rfl ?_
              cases hF
              exact ih_29 (l5_35, I_26) rfl
            · replace hF := am_no c_34 hF
              refine g_aload_n (pc := 92) dX10_weighParts_92 rfl rfl ?_
              refine g_iload (pc := 93) dX10_weighParts_93 rfl ?_
              refine g_iconst (pc := 95) (v := (4 : Int32)) dX10_weighParts_95 rfl ?_
              refine g_imul (pc := 96) dX10_weighParts_96 ?_
              refine g_aload_n (pc := 97) dX10_weighParts_97 rfl rfl ?_
              refine g_iload (pc := 98) dX10_weighParts_98 rfl ?_
              obtain ⟨c_36, hF⟩ := am_gd hF
              refine g_iald (pc := 100) (k := 3) rfl (hPl.lt (by decide)) (am_ix_use c_36) dX10_weighParts_100 ?_
              refine g_iadd (pc := 101) dX10_weighParts_101 ?_
              refine g_dup2 (pc := 102) dX10_weighParts_102 ?_
              obtain ⟨c_37, hF⟩ := am_gd hF
              refine g_iald (pc := 103) (k := 39) rfl (hPl.lt (by decide)) (am_ix_use c_37) dX10_weighParts_103 ?_
              refine g_aload_n (pc := 104) dX10_weighParts_104 rfl rfl ?_
              refine g_getR (pc := 105) (k := 36) (r := 23) kf_X10_25.r rfl rfl (hPl.get (by decide) rfl) (hPl.lt (by decide)) dX10_weighParts_105 ?_
              refine g_iload_n (pc := 108) dX10_weighParts_108 rfl rfl ?_
              refine g_aload_n (pc := 109) dX10_weighParts_109 rfl rfl ?_
              refine g_getR (pc := 110) (k := 36) (r := 1) kf_X10_21.r rfl rfl (hPl.get (by decide) rfl) (hPl.lt (by decide)) dX10_weighParts_110 ?_
              refine g_getR (pc := 113) (k := 1) (r := 4) kf_X10_78 rfl rfl (hPl.get (by decide) rfl) (hPl.lt (by decide)) dX10_weighParts_113 ?_
              refine g_iload_n (pc := 116) dX10_weighParts_116 rfl rfl ?_
              obtain ⟨c_38, hF⟩ := am_gd hF
              refine g_iald (pc := 117) (k := 4) rfl (hPl.lt (by decide)) (am_ix_use c_38) dX10_weighParts_117 ?_
              refine g_iload (pc := 118) dX10_weighParts_118 rfl ?_
              refine g_iload (pc := 120) dX10_weighParts_120 rfl ?_
              obtain ⟨r_40, h_39, hF⟩ := am_b1_el hF
              refine g_cVi (pc := 122) (k := 23) (As := [.int a1, .int (I_26 4 a1.toNatClampNeg), .int l4_1, .int l5_25]) (st := [.int (I_26 39 ((l4_1 * (4 : Int32)) + (I_26 3 l5_25.toNatClampNeg)).toNatClampNeg), .int ((l4_1 * (4 : Int32)) + (I_26 3 l5_25.toNatClampNeg)), .ref 39]) ky_X8_worthOfTwo kl_X10_81 (s_X8_worthOfTwo_23 (d := 2) (hPl) (Nat.le_refl _) h_39) rfl rfl rfl (hPl.lt (by decide)) (Nat.le_trans (by decide) hd) (Nat.le_of_ble_eq_true rfl) (Nat.le_refl _) (Nat.le_refl _) dX10_weighParts_122 ?_
              refine g_iadd (pc := 125) dX10_weighParts_125 ?_
              obtain ⟨c_41, hF⟩ := am_gd hF
              obtain ⟨I_42, e_I_42, hF⟩ := am_let_el hF
              refine n_iast (pc := 126) (k := 39) e_I_42 rfl (hPl.lt (by decide)) (am_ix_use c_41) dX10_weighParts_126 ?_
              obtain ⟨l5_43, e_l5_43, hF⟩ := am_let_el hF
              refine n_iinc (pc := 127) (ls2 := [.ref 36, .int a1, .ref 3, .ref 39, .int l4_1, .int l5_43]) e_l5_43 rfl rfl rfl dX10_weighParts_127 (Nat.le_of_ble_eq_true rfl) ?_
              refine g_goto (pc := 130) (tgt := 73) dX10_weighParts_130 rfl ?_
              cases hF
              exact ih_29 (l5_43, I_42) rfl
          ) _ _ hL_31
        exact hC
      clear hF
      have hC := am_loop (C := fun x => G am_sc0 l d 0 0 mX10_weighParts (am_qv N P I2) 18 [.ref 36, .int a1, .ref 3, .ref 39, .int l4_1, .int x.1] [] N P x.2 0 0) (by
        rintro ⟨l5_10, I_11⟩ rr hF ih_14 hE_15
        replace hF := am_u2_ap hF
        change G am_sc0 l d 0 0 mX10_weighParts (am_qv N P I2) 18 [.ref 36, .int a1, .ref 3, .ref 39, .int l4_1, .int l5_10] [] N P I_11 0 0
        refine g_iload (pc := 18) dX10_weighParts_18 rfl ?_
        refine g_aload_n (pc := 20) dX10_weighParts_20 rfl rfl ?_
        refine g_getR (pc := 21) (k := 36) (r := 1) kf_X10_21.r rfl rfl (hPl.get (by decide) rfl) (hPl.lt (by decide)) dX10_weighParts_21 ?_
        refine g_getI (pc := 24) (k := 1) kf_X10_68.r rfl rfl (hPl.lt (by decide)) dX10_weighParts_24 ?_
        refine g_icmp_ge (pc := 27) (tgt := 70) dX10_weighParts_27 rfl (fun c_18 => ?_) (fun c_18 => ?_)
        · replace hF := am_yes c_18 hF
          cases hF
          cases hE_15 _ rfl
          exact g_weak hX_13 ⟨Or.inr rfl, Or.inr rfl, Or.inr rfl, Or.inr rfl, Or.inr rfl, Or.inl rfl, trivial⟩
        · replace hF := am_no c_18 hF
          refine g_aload_n (pc := 30) dX10_weighParts_30 rfl rfl ?_
          refine g_iload (pc := 31) dX10_weighParts_31 rfl ?_
          refine g_iconst (pc := 33) (v := (4 : Int32)) dX10_weighParts_33 rfl ?_
          refine g_imul (pc := 34) dX10_weighParts_34 ?_
          refine g_iload (pc := 35) dX10_weighParts_35 rfl ?_
          refine g_iadd (pc := 37) dX10_weighParts_37 ?_
          refine g_aload_n (pc := 38) dX10_weighParts_38 rfl rfl ?_
          refine g_getR (pc := 39) (k := 36) (r := 23) kf_X10_25.r rfl rfl (hPl.get (by decide) rfl) (hPl.lt (by decide)) dX10_weighParts_39 ?_
          refine g_iload_n (pc := 42) dX10_weighParts_42 rfl rfl ?_
          refine g_iload (pc := 43) dX10_weighParts_43 rfl ?_
          obtain ⟨r_20, h_19, hF⟩ := am_b1_el hF
          refine g_cVi (pc := 45) (k := 23) (As := [.int a1, .int l4_1]) (st := [.int ((l4_1 * (4 : Int32)) + l5_10), .ref 39]) ky_X8_yardsOf kl_X10_71 (s_X8_yardsOf_23 (d := 1) (hPl) (Nat.le_refl _) h_19) rfl rfl rfl (hPl.lt (by decide)) (Nat.le_trans (by decide) hd) (Nat.le_of_ble_eq_true rfl) (Nat.le_refl _) (Nat.le_refl _) dX10_weighParts_45 ?_
          refine g_aload_n (pc := 48) dX10_weighParts_48 rfl rfl ?_
          refine g_getR (pc := 49) (k := 36) (r := 1) kf_X10_21.r rfl rfl (hPl.get (by decide) rfl) (hPl.lt (by decide)) dX10_weighParts_49 ?_
          refine g_getR (pc := 52) (k := 1) (r := 7) kf_X10_75 rfl rfl (hPl.get (by decide) rfl) (hPl.lt (by decide)) dX10_weighParts_52 ?_
          refine g_iload_n (pc := 55) dX10_weighParts_55 rfl rfl ?_
          refine g_iconst (pc := 56) (v := (4 : Int32)) dX10_weighParts_56 rfl ?_
          refine g_imul (pc := 57) dX10_weighParts_57 ?_
          refine g_iload (pc := 58) dX10_weighParts_58 rfl ?_
          refine g_iadd (pc := 60) dX10_weighParts_60 ?_
          obtain ⟨c_21, hF⟩ := am_gd hF
          refine g_iald (pc := 61) (k := 7) rfl (hPl.lt (by decide)) (am_ix_use c_21) dX10_weighParts_61 ?_
          refine g_imul (pc := 62) dX10_weighParts_62 ?_
          obtain ⟨c_22, hF⟩ := am_gd hF
          obtain ⟨I_23, e_I_23, hF⟩ := am_let_el hF
          refine n_iast (pc := 63) (k := 39) e_I_23 rfl (hPl.lt (by decide)) (am_ix_use c_22) dX10_weighParts_63 ?_
          obtain ⟨l5_24, e_l5_24, hF⟩ := am_let_el hF
          refine n_iinc (pc := 64) (ls2 := [.ref 36, .int a1, .ref 3, .ref 39, .int l4_1, .int l5_24]) e_l5_24 rfl rfl rfl dX10_weighParts_64 (Nat.le_of_ble_eq_true rfl) ?_
          refine g_goto (pc := 67) (tgt := 18) dX10_weighParts_67 rfl ?_
          cases hF
          exact ih_14 (l5_24, I_23) rfl
        ) _ _ hL_16
      exact hC
    ) _ _ hL_7
  exact hC
def F_X10_pairsGained (I : am_IT) (a1 : Int32) (a2 : Int32) (a3 : Int32) (a4 : Int32) : Option (Int32) := am_b1 (if a3 = a4 then (some ((1 : Int32))) else (some ((0 : Int32)))) (fun (v_2 : Int32) => am_b1 (if a3 = a2 then (some ((1 : Int32))) else (some ((0 : Int32)))) (fun (v_6 : Int32) => am_let (v_2 - v_6) (fun (l4_9 : Int32) => am_b1 (if a1 = a4 then (some ((1 : Int32))) else (some ((0 : Int32)))) (fun (v_11 : Int32) => am_let (l4_9 - v_11) (fun (l4_14 : Int32) => if a1 = a2 then (am_let (l4_14 + (1 : Int32)) (fun (l4_17 : Int32) => some l4_17)) else (am_let (l4_14 + (0 : Int32)) (fun (l4_16 : Int32) => some l4_16)))))))
set_option maxRecDepth 100000 in
set_option maxHeartbeats 4000000 in
theorem s_X10_pairsGained {l : Launch} {d N : Nat} {P : am_PT} (hPl : am_Pl 94 N P) (hd : 1 ≤ d) {I : am_IT} {a1 : Int32} {a2 : Int32} {a3 : Int32} {a4 : Int32} {r : Int32} (hF : F_X10_pairsGained I a1 a2 a3 a4 = some (r)) : am_C l d 0 0 mX10_pairsGained [.int a1, .int a2, .int a3, .int a4] N P I (am_qi r N P I) := by
  refine am_body (sc := am_sc0) (n := 1) (by decide +kernel) (by decide) rfl ?_
  change G am_sc0 l d 0 0 mX10_pairsGained (am_qi r N P I) 0 [.int a1, .int a2, .int a3, .int a4, .null] [] N P I 0 0
  unfold F_X10_pairsGained at hF
  refine g_iload_n (pc := 0) dX10_pairsGained_0 rfl rfl ?_
  refine g_iload_n (pc := 1) dX10_pairsGained_1 rfl rfl ?_
  obtain ⟨v_2, hR_3, hF⟩ := am_b1_el hF
  have hJ_4 : G am_sc0 l d 0 0 mX10_pairsGained (am_qi r N P I) 10 [.int a1, .int a2, .int a3, .int a4, .null] [.int v_2] N P I 0 0 := by
    refine n_istore (pc := 10) (ls2 := [.int a1, .int a2, .int a3, .int a4, .int v_2]) rfl rfl dX10_pairsGained_10 (Nat.le_of_ble_eq_true rfl) ?_
    refine g_iload (pc := 12) dX10_pairsGained_12 rfl ?_
    refine g_iload_n (pc := 14) dX10_pairsGained_14 rfl rfl ?_
    refine g_iload_n (pc := 15) dX10_pairsGained_15 rfl rfl ?_
    obtain ⟨v_6, hR_7, hF⟩ := am_b1_el hF
    have hJ_8 : G am_sc0 l d 0 0 mX10_pairsGained (am_qi r N P I) 24 [.int a1, .int a2, .int a3, .int a4, .int v_2] [.int v_6, .int v_2] N P I 0 0 := by
      refine g_isub (pc := 24) dX10_pairsGained_24 ?_
      obtain ⟨l4_9, e_l4_9, hF⟩ := am_let_el hF
      refine n_istore (pc := 25) (ls2 := [.int a1, .int a2, .int a3, .int a4, .int l4_9]) e_l4_9 rfl dX10_pairsGained_25 (Nat.le_of_ble_eq_true rfl) ?_
      refine g_iload (pc := 27) dX10_pairsGained_27 rfl ?_
      refine g_iload_n (pc := 29) dX10_pairsGained_29 rfl rfl ?_
      refine g_iload_n (pc := 30) dX10_pairsGained_30 rfl rfl ?_
      obtain ⟨v_11, hR_12, hF⟩ := am_b1_el hF
      have hJ_13 : G am_sc0 l d 0 0 mX10_pairsGained (am_qi r N P I) 39 [.int a1, .int a2, .int a3, .int a4, .int l4_9] [.int v_11, .int l4_9] N P I 0 0 := by
        refine g_isub (pc := 39) dX10_pairsGained_39 ?_
        obtain ⟨l4_14, e_l4_14, hF⟩ := am_let_el hF
        refine n_istore (pc := 40) (ls2 := [.int a1, .int a2, .int a3, .int a4, .int l4_14]) e_l4_14 rfl dX10_pairsGained_40 (Nat.le_of_ble_eq_true rfl) ?_
        refine g_iload (pc := 42) dX10_pairsGained_42 rfl ?_
        refine g_iload_n (pc := 44) dX10_pairsGained_44 rfl rfl ?_
        refine g_iload_n (pc := 45) dX10_pairsGained_45 rfl rfl ?_
        refine g_icmp_ne (pc := 46) (tgt := 53) dX10_pairsGained_46 rfl (fun c_15 => ?_) (fun c_15 => ?_)
        · replace hF := am_no c_15 hF
          refine g_iconst (pc := 53) (v := (0 : Int32)) dX10_pairsGained_53 rfl ?_
          refine g_iadd (pc := 54) dX10_pairsGained_54 ?_
          obtain ⟨l4_16, e_l4_16, hF⟩ := am_let_el hF
          refine n_istore (pc := 55) (ls2 := [.int a1, .int a2, .int a3, .int a4, .int l4_16]) e_l4_16 rfl dX10_pairsGained_55 (Nat.le_of_ble_eq_true rfl) ?_
          refine g_iload (pc := 57) dX10_pairsGained_57 rfl ?_
          cases hF
          exact g_iret (pc := 59) rfl (Nat.le_refl _) (Nat.le_refl _) dX10_pairsGained_59 ⟨rfl, rfl, rfl, rfl⟩
        · replace hF := am_yes c_15 hF
          refine g_iconst (pc := 49) (v := (1 : Int32)) dX10_pairsGained_49 rfl ?_
          refine g_goto (pc := 50) (tgt := 54) dX10_pairsGained_50 rfl ?_
          refine g_iadd (pc := 54) dX10_pairsGained_54 ?_
          obtain ⟨l4_17, e_l4_17, hF⟩ := am_let_el hF
          refine n_istore (pc := 55) (ls2 := [.int a1, .int a2, .int a3, .int a4, .int l4_17]) e_l4_17 rfl dX10_pairsGained_55 (Nat.le_of_ble_eq_true rfl) ?_
          refine g_iload (pc := 57) dX10_pairsGained_57 rfl ?_
          cases hF
          exact g_iret (pc := 59) rfl (Nat.le_refl _) (Nat.le_refl _) dX10_pairsGained_59 ⟨rfl, rfl, rfl, rfl⟩
      clear hF
      have hF := hR_12
      clear hR_12
      refine g_icmp_ne (pc := 31) (tgt := 38) dX10_pairsGained_31 rfl (fun c_10 => ?_) (fun c_10 => ?_)
      · replace hF := am_no c_10 hF
        refine g_iconst (pc := 38) (v := (0 : Int32)) dX10_pairsGained_38 rfl ?_
        cases hF
        exact hJ_13
      · replace hF := am_yes c_10 hF
        refine g_iconst (pc := 34) (v := (1 : Int32)) dX10_pairsGained_34 rfl ?_
        refine g_goto (pc := 35) (tgt := 39) dX10_pairsGained_35 rfl ?_
        cases hF
        exact hJ_13
    clear hF
    have hF := hR_7
    clear hR_7
    refine g_icmp_ne (pc := 16) (tgt := 23) dX10_pairsGained_16 rfl (fun c_5 => ?_) (fun c_5 => ?_)
    · replace hF := am_no c_5 hF
      refine g_iconst (pc := 23) (v := (0 : Int32)) dX10_pairsGained_23 rfl ?_
      cases hF
      exact hJ_8
    · replace hF := am_yes c_5 hF
      refine g_iconst (pc := 19) (v := (1 : Int32)) dX10_pairsGained_19 rfl ?_
      refine g_goto (pc := 20) (tgt := 24) dX10_pairsGained_20 rfl ?_
      cases hF
      exact hJ_8
  clear hF
  have hF := hR_3
  clear hR_3
  refine g_icmp_ne (pc := 2) (tgt := 9) dX10_pairsGained_2 rfl (fun c_1 => ?_) (fun c_1 => ?_)
  · replace hF := am_no c_1 hF
    refine g_iconst (pc := 9) (v := (0 : Int32)) dX10_pairsGained_9 rfl ?_
    cases hF
    exact hJ_4
  · replace hF := am_yes c_1 hF
    refine g_iconst (pc := 5) (v := (1 : Int32)) dX10_pairsGained_5 rfl ?_
    refine g_goto (pc := 6) (tgt := 10) dX10_pairsGained_6 rfl ?_
    cases hF
    exact hJ_4
def F_X10_change_38_3 (I : am_IT) (a2 : Int32) (a3 : Int32) (a4 : Int32) (a5 : Int32) : Option (Int32) := if am_ix ((a2 * (4 : Int32)) + a4) 28 = true then (if am_ix a2 7 = true then (if am_ix ((a2 * (4 : Int32)) + (I 3 a2.toNatClampNeg)) 28 = true then (am_let ((I 38 ((a2 * (4 : Int32)) + a4).toNatClampNeg) - (I 38 ((a2 * (4 : Int32)) + (I 3 a2.toNatClampNeg)).toNatClampNeg)) (fun (l6_4 : Int32) => if am_ix ((a3 * (4 : Int32)) + a5) 28 = true then (if am_ix a3 7 = true then (if am_ix ((a3 * (4 : Int32)) + (I 3 a3.toNatClampNeg)) 28 = true then (am_let ((I 38 ((a3 * (4 : Int32)) + a5).toNatClampNeg) - (I 38 ((a3 * (4 : Int32)) + (I 3 a3.toNatClampNeg)).toNatClampNeg)) (fun (l7_8 : Int32) => some (l6_4 + l7_8))) else none) else none) else none)) else none) else none) else none
set_option maxRecDepth 100000 in
set_option maxHeartbeats 4000000 in
theorem s_X10_change_38_3 {l : Launch} {d N : Nat} {P : am_PT} (hPl : am_Pl 94 N P) (hd : 1 ≤ d) {I : am_IT} {a2 : Int32} {a3 : Int32} {a4 : Int32} {a5 : Int32} {r : Int32} (hF : F_X10_change_38_3 I a2 a3 a4 a5 = some (r)) : am_C l d 0 0 mX10_change [.ref 38, .int a2, .int a3, .int a4, .int a5, .ref 3] N P I (am_qi r N P I) := by
  refine am_body (sc := am_sc0) (n := 2) (by decide +kernel) (by decide) rfl ?_
  change G am_sc0 l d 0 0 mX10_change (am_qi r N P I) 0 [.ref 38, .int a2, .int a3, .int a4, .int a5, .ref 3, .null, .null] [] N P I 0 0
  unfold F_X10_change_38_3 at hF
  refine g_aload_n (pc := 0) dX10_change_0 rfl rfl ?_
  refine g_iload_n (pc := 1) dX10_change_1 rfl rfl ?_
  refine g_iconst (pc := 2) (v := (4 : Int32)) dX10_change_2 rfl ?_
  refine g_imul (pc := 3) dX10_change_3 ?_
  refine g_iload_n (pc := 4) dX10_change_4 rfl rfl ?_
  refine g_iadd (pc := 5) dX10_change_5 ?_
  obtain ⟨c_1, hF⟩ := am_gd hF
  refine g_iald (pc := 6) (k := 38) rfl (hPl.lt (by decide)) (am_ix_use c_1) dX10_change_6 ?_
  refine g_aload_n (pc := 7) dX10_change_7 rfl rfl ?_
  refine g_iload_n (pc := 8) dX10_change_8 rfl rfl ?_
  refine g_iconst (pc := 9) (v := (4 : Int32)) dX10_change_9 rfl ?_
  refine g_imul (pc := 10) dX10_change_10 ?_
  refine g_aload (pc := 11) dX10_change_11 rfl ?_
  refine g_iload_n (pc := 13) dX10_change_13 rfl rfl ?_
  obtain ⟨c_2, hF⟩ := am_gd hF
  refine g_iald (pc := 14) (k := 3) rfl (hPl.lt (by decide)) (am_ix_use c_2) dX10_change_14 ?_
  refine g_iadd (pc := 15) dX10_change_15 ?_
  obtain ⟨c_3, hF⟩ := am_gd hF
  refine g_iald (pc := 16) (k := 38) rfl (hPl.lt (by decide)) (am_ix_use c_3) dX10_change_16 ?_
  refine g_isub (pc := 17) dX10_change_17 ?_
  obtain ⟨l6_4, e_l6_4, hF⟩ := am_let_el hF
  refine n_istore (pc := 18) (ls2 := [.ref 38, .int a2, .int a3, .int a4, .int a5, .ref 3, .int l6_4, .null]) e_l6_4 rfl dX10_change_18 (Nat.le_of_ble_eq_true rfl) ?_
  refine g_aload_n (pc := 20) dX10_change_20 rfl rfl ?_
  refine g_iload_n (pc := 21) dX10_change_21 rfl rfl ?_
  refine g_iconst (pc := 22) (v := (4 : Int32)) dX10_change_22 rfl ?_
  refine g_imul (pc := 23) dX10_change_23 ?_
  refine g_iload (pc := 24) dX10_change_24 rfl ?_
  refine g_iadd (pc := 26) dX10_change_26 ?_
  obtain ⟨c_5, hF⟩ := am_gd hF
  refine g_iald (pc := 27) (k := 38) rfl (hPl.lt (by decide)) (am_ix_use c_5) dX10_change_27 ?_
  refine g_aload_n (pc := 28) dX10_change_28 rfl rfl ?_
  refine g_iload_n (pc := 29) dX10_change_29 rfl rfl ?_
  refine g_iconst (pc := 30) (v := (4 : Int32)) dX10_change_30 rfl ?_
  refine g_imul (pc := 31) dX10_change_31 ?_
  refine g_aload (pc := 32) dX10_change_32 rfl ?_
  refine g_iload_n (pc := 34) dX10_change_34 rfl rfl ?_
  obtain ⟨c_6, hF⟩ := am_gd hF
  refine g_iald (pc := 35) (k := 3) rfl (hPl.lt (by decide)) (am_ix_use c_6) dX10_change_35 ?_
  refine g_iadd (pc := 36) dX10_change_36 ?_
  obtain ⟨c_7, hF⟩ := am_gd hF
  refine g_iald (pc := 37) (k := 38) rfl (hPl.lt (by decide)) (am_ix_use c_7) dX10_change_37 ?_
  refine g_isub (pc := 38) dX10_change_38 ?_
  obtain ⟨l7_8, e_l7_8, hF⟩ := am_let_el hF
  refine n_istore (pc := 39) (ls2 := [.ref 38, .int a2, .int a3, .int a4, .int a5, .ref 3, .int l6_4, .int l7_8]) e_l7_8 rfl dX10_change_39 (Nat.le_of_ble_eq_true rfl) ?_
  refine g_iload (pc := 41) dX10_change_41 rfl ?_
  refine g_iload (pc := 43) dX10_change_43 rfl ?_
  refine g_iadd (pc := 45) dX10_change_45 ?_
  cases hF
  exact g_iret (pc := 46) rfl (Nat.le_refl _) (Nat.le_refl _) dX10_change_46 ⟨rfl, rfl, rfl, rfl⟩
def F_X10_change_39_3 (I : am_IT) (a2 : Int32) (a3 : Int32) (a4 : Int32) (a5 : Int32) : Option (Int32) := if am_ix ((a2 * (4 : Int32)) + a4) 28 = true then (if am_ix a2 7 = true then (if am_ix ((a2 * (4 : Int32)) + (I 3 a2.toNatClampNeg)) 28 = true then (am_let ((I 39 ((a2 * (4 : Int32)) + a4).toNatClampNeg) - (I 39 ((a2 * (4 : Int32)) + (I 3 a2.toNatClampNeg)).toNatClampNeg)) (fun (l6_4 : Int32) => if am_ix ((a3 * (4 : Int32)) + a5) 28 = true then (if am_ix a3 7 = true then (if am_ix ((a3 * (4 : Int32)) + (I 3 a3.toNatClampNeg)) 28 = true then (am_let ((I 39 ((a3 * (4 : Int32)) + a5).toNatClampNeg) - (I 39 ((a3 * (4 : Int32)) + (I 3 a3.toNatClampNeg)).toNatClampNeg)) (fun (l7_8 : Int32) => some (l6_4 + l7_8))) else none) else none) else none)) else none) else none) else none
set_option maxRecDepth 100000 in
set_option maxHeartbeats 4000000 in
theorem s_X10_change_39_3 {l : Launch} {d N : Nat} {P : am_PT} (hPl : am_Pl 94 N P) (hd : 1 ≤ d) {I : am_IT} {a2 : Int32} {a3 : Int32} {a4 : Int32} {a5 : Int32} {r : Int32} (hF : F_X10_change_39_3 I a2 a3 a4 a5 = some (r)) : am_C l d 0 0 mX10_change [.ref 39, .int a2, .int a3, .int a4, .int a5, .ref 3] N P I (am_qi r N P I) := by
  refine am_body (sc := am_sc0) (n := 2) (by decide +kernel) (by decide) rfl ?_
  change G am_sc0 l d 0 0 mX10_change (am_qi r N P I) 0 [.ref 39, .int a2, .int a3, .int a4, .int a5, .ref 3, .null, .null] [] N P I 0 0
  unfold F_X10_change_39_3 at hF
  refine g_aload_n (pc := 0) dX10_change_0 rfl rfl ?_
  refine g_iload_n (pc := 1) dX10_change_1 rfl rfl ?_
  refine g_iconst (pc := 2) (v := (4 : Int32)) dX10_change_2 rfl ?_
  refine g_imul (pc := 3) dX10_change_3 ?_
  refine g_iload_n (pc := 4) dX10_change_4 rfl rfl ?_
  refine g_iadd (pc := 5) dX10_change_5 ?_
  obtain ⟨c_1, hF⟩ := am_gd hF
  refine g_iald (pc := 6) (k := 39) rfl (hPl.lt (by decide)) (am_ix_use c_1) dX10_change_6 ?_
  refine g_aload_n (pc := 7) dX10_change_7 rfl rfl ?_
  refine g_iload_n (pc := 8) dX10_change_8 rfl rfl ?_
  refine g_iconst (pc := 9) (v := (4 : Int32)) dX10_change_9 rfl ?_
  refine g_imul (pc := 10) dX10_change_10 ?_
  refine g_aload (pc := 11) dX10_change_11 rfl ?_
  refine g_iload_n (pc := 13) dX10_change_13 rfl rfl ?_
  obtain ⟨c_2, hF⟩ := am_gd hF
  refine g_iald (pc := 14) (k := 3) rfl (hPl.lt (by decide)) (am_ix_use c_2) dX10_change_14 ?_
  refine g_iadd (pc := 15) dX10_change_15 ?_
  obtain ⟨c_3, hF⟩ := am_gd hF
  refine g_iald (pc := 16) (k := 39) rfl (hPl.lt (by decide)) (am_ix_use c_3) dX10_change_16 ?_
  refine g_isub (pc := 17) dX10_change_17 ?_
  obtain ⟨l6_4, e_l6_4, hF⟩ := am_let_el hF
  refine n_istore (pc := 18) (ls2 := [.ref 39, .int a2, .int a3, .int a4, .int a5, .ref 3, .int l6_4, .null]) e_l6_4 rfl dX10_change_18 (Nat.le_of_ble_eq_true rfl) ?_
  refine g_aload_n (pc := 20) dX10_change_20 rfl rfl ?_
  refine g_iload_n (pc := 21) dX10_change_21 rfl rfl ?_
  refine g_iconst (pc := 22) (v := (4 : Int32)) dX10_change_22 rfl ?_
  refine g_imul (pc := 23) dX10_change_23 ?_
  refine g_iload (pc := 24) dX10_change_24 rfl ?_
  refine g_iadd (pc := 26) dX10_change_26 ?_
  obtain ⟨c_5, hF⟩ := am_gd hF
  refine g_iald (pc := 27) (k := 39) rfl (hPl.lt (by decide)) (am_ix_use c_5) dX10_change_27 ?_
  refine g_aload_n (pc := 28) dX10_change_28 rfl rfl ?_
  refine g_iload_n (pc := 29) dX10_change_29 rfl rfl ?_
  refine g_iconst (pc := 30) (v := (4 : Int32)) dX10_change_30 rfl ?_
  refine g_imul (pc := 31) dX10_change_31 ?_
  refine g_aload (pc := 32) dX10_change_32 rfl ?_
  refine g_iload_n (pc := 34) dX10_change_34 rfl rfl ?_
  obtain ⟨c_6, hF⟩ := am_gd hF
  refine g_iald (pc := 35) (k := 3) rfl (hPl.lt (by decide)) (am_ix_use c_6) dX10_change_35 ?_
  refine g_iadd (pc := 36) dX10_change_36 ?_
  obtain ⟨c_7, hF⟩ := am_gd hF
  refine g_iald (pc := 37) (k := 39) rfl (hPl.lt (by decide)) (am_ix_use c_7) dX10_change_37 ?_
  refine g_isub (pc := 38) dX10_change_38 ?_
  obtain ⟨l7_8, e_l7_8, hF⟩ := am_let_el hF
  refine n_istore (pc := 39) (ls2 := [.ref 39, .int a2, .int a3, .int a4, .int a5, .ref 3, .int l6_4, .int l7_8]) e_l7_8 rfl dX10_change_39 (Nat.le_of_ble_eq_true rfl) ?_
  refine g_iload (pc := 41) dX10_change_41 rfl ?_
  refine g_iload (pc := 43) dX10_change_43 rfl ?_
  refine g_iadd (pc := 45) dX10_change_45 ?_
  cases hF
  exact g_iret (pc := 46) rfl (Nat.le_refl _) (Nat.le_refl _) dX10_change_46 ⟨rfl, rfl, rfl, rfl⟩
def F_X10_hasRepainted_36_3 (I : am_IT) (a1 : Int32) (a2 : Int32) (a3 : Int32) (a4 : Int32) : Option (Int32 × am_IT) := if am_ix a1 7 = true then (am_b1 (F_X8_worthOfTwo_23 I a1 (I 4 a1.toNatClampNeg) a3 a4) (fun (r_3 : Int32) => if am_ix a2 7 = true then (am_b1 (F_X8_worthOfTwo_23 I a2 (I 4 a2.toNatClampNeg) a3 a4) (fun (r_6 : Int32) => am_lr (am_it am_fu (am_u2 (fun (l8_7 : Int32) (I_8 : am_IT) => if (I_8 1 0) ≤ l8_7 then (some (.inr (.inl (I_8)))) else (am_lr (am_it am_fu (am_u2 (fun (l9_16 : Int32) (I_17 : am_IT) => if (I_17 1 0) ≤ l9_16 then (some (.inr (.inl (I_17)))) else (if am_ix a3 7 = true then (if am_ix a4 7 = true then (am_b1 (F_X10_pairsGained I_17 (I_17 3 a3.toNatClampNeg) (I_17 3 a4.toNatClampNeg) l8_7 l9_16) (fun (r_28 : Int32) => am_b1 (F_X10_change_38_3 I_17 a3 a4 l8_7 l9_16) (fun (r_30 : Int32) => if (r_30 + (r_28 * r_3)) ≤ 0 then (am_let (l9_16 + (1 : Int32)) (fun (l9_32 : Int32) => some (.inl (l9_32, I_17)))) else (am_b1 (F_X10_change_39_3 I_17 a3 a4 l8_7 l9_16) (fun (r_34 : Int32) => if (r_34 + (r_28 * r_6)) ≤ 0 then (am_let (l9_16 + (1 : Int32)) (fun (l9_36 : Int32) => some (.inl (l9_36, I_17)))) else (if am_ix a3 7 = true then (am_let (up2 I_17 3 a3.toNatClampNeg l8_7) (fun (I_38 : am_IT) => if am_ix a4 7 = true then (am_let (up2 I_38 3 a4.toNatClampNeg l9_16) (fun (I_40 : am_IT) => some (.inr (.inr (.inr (.inr ((1 : Int32), I_40))))))) else none)) else none)))))) else none) else none))) ((0 : Int32), I_8)) (fun (I_18 : am_IT) => am_let (l8_7 + (1 : Int32)) (fun (l8_43 : Int32) => some (.inl (l8_43, I_18))))))) ((0 : Int32), I)) (fun (I_9 : am_IT) => some ((0 : Int32), I_9)))) else none)) else none
set_option maxRecDepth 100000 in
set_option maxHeartbeats 4000000 in
theorem s_X10_hasRepainted_36_3 {l : Launch} {d N : Nat} {P : am_PT} (hPl : am_Pl 94 N P) (hd : 3 ≤ d) {I : am_IT} {a1 : Int32} {a2 : Int32} {a3 : Int32} {a4 : Int32} {r : Int32} {I2 : am_IT} (hF : F_X10_hasRepainted_36_3 I a1 a2 a3 a4 = some (r, I2)) : am_C l d 0 0 mX10_hasRepainted [.ref 36, .int a1, .int a2, .int a3, .int a4, .ref 3] N P I (am_qz r N P I2) := by
  refine am_body (sc := am_sc0) (n := 5) (by decide +kernel) (by decide) rfl ?_
  change G am_sc0 l d 0 0 mX10_hasRepainted (am_qz r N P I2) 0 [.ref 36, .int a1, .int a2, .int a3, .int a4, .ref 3, .null, .null, .null, .null, .null] [] N P I 0 0
  unfold F_X10_hasRepainted_36_3 at hF
  refine g_aload_n (pc := 0) dX10_hasRepainted_0 rfl rfl ?_
  refine g_getR (pc := 1) (k := 36) (r := 23) kf_X10_25.r rfl rfl (hPl.get (by decide) rfl) (hPl.lt (by decide)) dX10_hasRepainted_1 ?_
  refine g_iload_n (pc := 4) dX10_hasRepainted_4 rfl rfl ?_
  refine g_aload_n (pc := 5) dX10_hasRepainted_5 rfl rfl ?_
  refine g_getR (pc := 6) (k := 36) (r := 1) kf_X10_21.r rfl rfl (hPl.get (by decide) rfl) (hPl.lt (by decide)) dX10_hasRepainted_6 ?_
  refine g_getR (pc := 9) (k := 1) (r := 4) kf_X10_78 rfl rfl (hPl.get (by decide) rfl) (hPl.lt (by decide)) dX10_hasRepainted_9 ?_
  refine g_iload_n (pc := 12) dX10_hasRepainted_12 rfl rfl ?_
  obtain ⟨c_1, hF⟩ := am_gd hF
  refine g_iald (pc := 13) (k := 4) rfl (hPl.lt (by decide)) (am_ix_use c_1) dX10_hasRepainted_13 ?_
  refine g_iload_n (pc := 14) dX10_hasRepainted_14 rfl rfl ?_
  refine g_iload (pc := 15) dX10_hasRepainted_15 rfl ?_
  obtain ⟨r_3, h_2, hF⟩ := am_b1_el hF
  refine g_cVi (pc := 17) (k := 23) (As := [.int a1, .int (I 4 a1.toNatClampNeg), .int a3, .int a4]) (st := []) ky_X8_worthOfTwo kl_X10_81 (s_X8_worthOfTwo_23 (d := 2) (hPl) (Nat.le_refl _) h_2) rfl rfl rfl (hPl.lt (by decide)) (Nat.le_trans (by decide) hd) (Nat.le_of_ble_eq_true rfl) (Nat.le_refl _) (Nat.le_refl _) dX10_hasRepainted_17 ?_
  refine n_istore (pc := 20) (ls2 := [.ref 36, .int a1, .int a2, .int a3, .int a4, .ref 3, .int r_3, .null, .null, .null, .null]) rfl rfl dX10_hasRepainted_20 (Nat.le_of_ble_eq_true rfl) ?_
  refine g_aload_n (pc := 22) dX10_hasRepainted_22 rfl rfl ?_
  refine g_getR (pc := 23) (k := 36) (r := 23) kf_X10_25.r rfl rfl (hPl.get (by decide) rfl) (hPl.lt (by decide)) dX10_hasRepainted_23 ?_
  refine g_iload_n (pc := 26) dX10_hasRepainted_26 rfl rfl ?_
  refine g_aload_n (pc := 27) dX10_hasRepainted_27 rfl rfl ?_
  refine g_getR (pc := 28) (k := 36) (r := 1) kf_X10_21.r rfl rfl (hPl.get (by decide) rfl) (hPl.lt (by decide)) dX10_hasRepainted_28 ?_
  refine g_getR (pc := 31) (k := 1) (r := 4) kf_X10_78 rfl rfl (hPl.get (by decide) rfl) (hPl.lt (by decide)) dX10_hasRepainted_31 ?_
  refine g_iload_n (pc := 34) dX10_hasRepainted_34 rfl rfl ?_
  obtain ⟨c_4, hF⟩ := am_gd hF
  refine g_iald (pc := 35) (k := 4) rfl (hPl.lt (by decide)) (am_ix_use c_4) dX10_hasRepainted_35 ?_
  refine g_iload_n (pc := 36) dX10_hasRepainted_36 rfl rfl ?_
  refine g_iload (pc := 37) dX10_hasRepainted_37 rfl ?_
  obtain ⟨r_6, h_5, hF⟩ := am_b1_el hF
  refine g_cVi (pc := 39) (k := 23) (As := [.int a2, .int (I 4 a2.toNatClampNeg), .int a3, .int a4]) (st := []) ky_X8_worthOfTwo kl_X10_81 (s_X8_worthOfTwo_23 (d := 2) (hPl) (Nat.le_refl _) h_5) rfl rfl rfl (hPl.lt (by decide)) (Nat.le_trans (by decide) hd) (Nat.le_of_ble_eq_true rfl) (Nat.le_refl _) (Nat.le_refl _) dX10_hasRepainted_39 ?_
  refine n_istore (pc := 42) (ls2 := [.ref 36, .int a1, .int a2, .int a3, .int a4, .ref 3, .int r_3, .int r_6, .null, .null, .null]) rfl rfl dX10_hasRepainted_42 (Nat.le_of_ble_eq_true rfl) ?_
  refine g_iconst (pc := 44) (v := (0 : Int32)) dX10_hasRepainted_44 rfl ?_
  refine n_istore (pc := 45) (ls2 := [.ref 36, .int a1, .int a2, .int a3, .int a4, .ref 3, .int r_3, .int r_6, .int (0 : Int32), .null, .null]) rfl rfl dX10_hasRepainted_45 (Nat.le_of_ble_eq_true rfl) ?_
  obtain ⟨x_45, hL_13, hF⟩ := am_lr_el hF
  have hX_10 : ∀ (I_9 : am_IT), x_45 = .inl I_9 → G am_sc0 l d 0 0 mX10_hasRepainted (am_qz r N P I2) 169 [.ref 36, .int a1, .int a2, .int a3, .int a4, .ref 3, .int r_3, .int r_6, .null, .null, .null] [] N P I_9 0 0 := by
    intro I_9 q
    subst q
    refine g_iconst (pc := 169) (v := (0 : Int32)) dX10_hasRepainted_169 rfl ?_
    cases hF
    exact g_zret (pc := 170) rfl (Or.inl rfl) (Nat.le_refl _) (Nat.le_refl _) dX10_hasRepainted_170 ⟨(Or.inl rfl), rfl, rfl, rfl, rfl⟩
  have hZ_14 : ∀ y, x_45 = .inr y → y = _ := fun y q => by subst q; exact hF
  clear hF
  have hC := am_loop (C := fun x => G am_sc0 l d 0 0 mX10_hasRepainted (am_qz r N P I2) 47 [.ref 36, .int a1, .int a2, .int a3, .int a4, .ref 3, .int r_3, .int r_6, .int x.1, .null, .null] [] N P x.2 0 0) (by
    rintro ⟨l8_7, I_8⟩ rr hF ih_11 hE_12
    replace hF := am_u2_ap hF
    change G am_sc0 l d 0 0 mX10_hasRepainted (am_qz r N P I2) 47 [.ref 36, .int a1, .int a2, .int a3, .int a4, .ref 3, .int r_3, .int r_6, .int l8_7, .null, .null] [] N P I_8 0 0
    refine g_iload (pc := 47) dX10_hasRepainted_47 rfl ?_
    refine g_aload_n (pc := 49) dX10_hasRepainted_49 rfl rfl ?_
    refine g_getR (pc := 50) (k := 36) (r := 1) kf_X10_21.r rfl rfl (hPl.get (by decide) rfl) (hPl.lt (by decide)) dX10_hasRepainted_50 ?_
    refine g_getI (pc := 53) (k := 1) kf_X10_68.r rfl rfl (hPl.lt (by decide)) dX10_hasRepainted_53 ?_
    refine g_icmp_ge (pc := 56) (tgt := 169) dX10_hasRepainted_56 rfl (fun c_15 => ?_) (fun c_15 => ?_)
    · replace hF := am_yes c_15 hF
      cases hF
      exact g_weak (hX_10 _ (hE_12 _ rfl).symm) ⟨Or.inr rfl, Or.inr rfl, Or.inr rfl, Or.inr rfl, Or.inr rfl, Or.inr rfl, Or.inr rfl, Or.inr rfl, Or.inl rfl, Or.inl rfl, Or.inl rfl, trivial⟩
    · replace hF := am_no c_15 hF
      refine g_iconst (pc := 59) (v := (0 : Int32)) dX10_hasRepainted_59 rfl ?_
      refine n_istore (pc := 60) (ls2 := [.ref 36, .int a1, .int a2, .int a3, .int a4, .ref 3, .int r_3, .int r_6, .int l8_7, .int (0 : Int32), .null]) rfl rfl dX10_hasRepainted_60 (Nat.le_of_ble_eq_true rfl) ?_
      obtain ⟨x_44, hL_22, hF⟩ := am_lr_el hF
      have hX_19 : ∀ (I_18 : am_IT), x_44 = .inl I_18 → G am_sc0 l d 0 0 mX10_hasRepainted (am_qz r N P I2) 163 [.ref 36, .int a1, .int a2, .int a3, .int a4, .ref 3, .int r_3, .int r_6, .int l8_7, .null, .null] [] N P I_18 0 0 := by
        intro I_18 q
        subst q
        obtain ⟨l8_43, e_l8_43, hF⟩ := am_let_el hF
        refine n_iinc (pc := 163) (ls2 := [.ref 36, .int a1, .int a2, .int a3, .int a4, .ref 3, .int r_3, .int r_6, .int l8_43, .null, .null]) e_l8_43 rfl rfl rfl dX10_hasRepainted_163 (Nat.le_of_ble_eq_true rfl) ?_
        refine g_goto (pc := 166) (tgt := 47) dX10_hasRepainted_166 rfl ?_
        cases hF
        exact ih_11 (l8_43, I_18) rfl
      have hZ_23 : ∀ y, x_44 = .inr y → y = _ := fun y q => by subst q; exact hF
      clear hF
      have hC := am_loop (C := fun x => G am_sc0 l d 0 0 mX10_hasRepainted (am_qz r N P I2) 62 [.ref 36, .int a1, .int a2, .int a3, .int a4, .ref 3, .int r_3, .int r_6, .int l8_7, .int x.1, .null] [] N P x.2 0 0) (by
        rintro ⟨l9_16, I_17⟩ rr hF ih_20 hE_21
        replace hF := am_u2_ap hF
        change G am_sc0 l d 0 0 mX10_hasRepainted (am_qz r N P I2) 62 [.ref 36, .int a1, .int a2, .int a3, .int a4, .ref 3, .int r_3, .int r_6, .int l8_7, .int l9_16, .null] [] N P I_17 0 0
        refine g_iload (pc := 62) dX10_hasRepainted_62 rfl ?_
        refine g_aload_n (pc := 64) dX10_hasRepainted_64 rfl rfl ?_
        refine g_getR (pc := 65) (k := 36) (r := 1) kf_X10_21.r rfl rfl (hPl.get (by decide) rfl) (hPl.lt (by decide)) dX10_hasRepainted_65 ?_
        refine g_getI (pc := 68) (k := 1) kf_X10_68.r rfl rfl (hPl.lt (by decide)) dX10_hasRepainted_68 ?_
        refine g_icmp_ge (pc := 71) (tgt := 163) dX10_hasRepainted_71 rfl (fun c_24 => ?_) (fun c_24 => ?_)
        · replace hF := am_yes c_24 hF
          cases hF
          exact g_weak (hX_19 _ (hE_21 _ rfl).symm) ⟨Or.inr rfl, Or.inr rfl, Or.inr rfl, Or.inr rfl, Or.inr rfl, Or.inr rfl, Or.inr rfl, Or.inr rfl, Or.inr rfl, Or.inl rfl, Or.inl rfl, trivial⟩
        · replace hF := am_no c_24 hF
          refine g_aload (pc := 74) dX10_hasRepainted_74 rfl ?_
          refine g_iload_n (pc := 76) dX10_hasRepainted_76 rfl rfl ?_
          obtain ⟨c_25, hF⟩ := am_gd hF
          refine g_iald (pc := 77) (k := 3) rfl (hPl.lt (by decide)) (am_ix_use c_25) dX10_hasRepainted_77 ?_
          refine g_aload (pc := 78) dX10_hasRepainted_78 rfl ?_
          refine g_iload (pc := 80) dX10_hasRepainted_80 rfl ?_
          obtain ⟨c_26, hF⟩ := am_gd hF
          refine g_iald (pc := 82) (k := 3) rfl (hPl.lt (by decide)) (am_ix_use c_26) dX10_hasRepainted_82 ?_
          refine g_iload (pc := 83) dX10_hasRepainted_83 rfl ?_
          refine g_iload (pc := 85) dX10_hasRepainted_85 rfl ?_
          obtain ⟨r_28, h_27, hF⟩ := am_b1_el hF
          refine g_cSi (pc := 87) (As := [.int (I_17 3 a3.toNatClampNeg), .int (I_17 3 a4.toNatClampNeg), .int l8_7, .int l9_16]) (st := []) ky_X10_pairsGained kl_X10_85 (s_X10_pairsGained (d := 1) (hPl) (Nat.le_refl _) h_27) rfl rfl (Nat.le_trans (by decide) hd) (Nat.le_of_ble_eq_true rfl) (Nat.le_refl _) (Nat.le_refl _) dX10_hasRepainted_87 ?_
          refine n_istore (pc := 90) (ls2 := [.ref 36, .int a1, .int a2, .int a3, .int a4, .ref 3, .int r_3, .int r_6, .int l8_7, .int l9_16, .int r_28]) rfl rfl dX10_hasRepainted_90 (Nat.le_of_ble_eq_true rfl) ?_
          refine g_aload_n (pc := 92) dX10_hasRepainted_92 rfl rfl ?_
          refine g_getR (pc := 93) (k := 36) (r := 38) kf_X10_15.r rfl rfl (hPl.get (by decide) rfl) (hPl.lt (by decide)) dX10_hasRepainted_93 ?_
          refine g_iload_n (pc := 96) dX10_hasRepainted_96 rfl rfl ?_
          refine g_iload (pc := 97) dX10_hasRepainted_97 rfl ?_
          refine g_iload (pc := 99) dX10_hasRepainted_99 rfl ?_
          refine g_iload (pc := 101) dX10_hasRepainted_101 rfl ?_
          refine g_aload (pc := 103) dX10_hasRepainted_103 rfl ?_
          obtain ⟨r_30, h_29, hF⟩ := am_b1_el hF
          refine g_cSi (pc := 105) (As := [.ref 38, .int a3, .int a4, .int l8_7, .int l9_16, .ref 3]) (st := []) ky_X10_change kl_X10_88 (s_X10_change_38_3 (d := 1) (hPl) (Nat.le_refl _) h_29) rfl rfl (Nat.le_trans (by decide) hd) (Nat.le_of_ble_eq_true rfl) (Nat.le_refl _) (Nat.le_refl _) dX10_hasRepainted_105 ?_
          refine g_iload (pc := 108) dX10_hasRepainted_108 rfl ?_
          refine g_iload (pc := 110) dX10_hasRepainted_110 rfl ?_
          refine g_imul (pc := 112) dX10_hasRepainted_112 ?_
          refine g_iadd (pc := 113) dX10_hasRepainted_113 ?_
          refine g_if_le (pc := 114) (tgt := 157) dX10_hasRepainted_114 rfl (fun c_31 => ?_) (fun c_31 => ?_)
          · replace hF := am_yes c_31 hF
            obtain ⟨l9_32, e_l9_32, hF⟩ := am_let_el hF
            refine n_iinc (pc := 157) (ls2 := [.ref 36, .int a1, .int a2, .int a3, .int a4, .ref 3, .int r_3, .int r_6, .int l8_7, .int l9_32, .int r_28]) e_l9_32 rfl rfl rfl dX10_hasRepainted_157 (Nat.le_of_ble_eq_true rfl) ?_
            refine g_goto (pc := 160) (tgt := 62) dX10_hasRepainted_160 rfl ?_
            cases hF
            exact g_weak (ih_20 (l9_32, I_17) rfl) ⟨Or.inr rfl, Or.inr rfl, Or.inr rfl, Or.inr rfl, Or.inr rfl, Or.inr rfl, Or.inr rfl, Or.inr rfl, Or.inr rfl, Or.inr rfl, Or.inl rfl, trivial⟩
          · replace hF := am_no c_31 hF
            refine g_aload_n (pc := 117) dX10_hasRepainted_117 rfl rfl ?_
            refine g_getR (pc := 118) (k := 36) (r := 39) kf_X10_18.r rfl rfl (hPl.get (by decide) rfl) (hPl.lt (by decide)) dX10_hasRepainted_118 ?_
            refine g_iload_n (pc := 121) dX10_hasRepainted_121 rfl rfl ?_
            refine g_iload (pc := 122) dX10_hasRepainted_122 rfl ?_
            refine g_iload (pc := 124) dX10_hasRepainted_124 rfl ?_
            refine g_iload (pc := 126) dX10_hasRepainted_126 rfl ?_
            refine g_aload (pc := 128) dX10_hasRepainted_128 rfl ?_
            obtain ⟨r_34, h_33, hF⟩ := am_b1_el hF
            refine g_cSi (pc := 130) (As := [.ref 39, .int a3, .int a4, .int l8_7, .int l9_16, .ref 3]) (st := []) ky_X10_change kl_X10_88 (s_X10_change_39_3 (d := 1) (hPl) (Nat.le_refl _) h_33) rfl rfl (Nat.le_trans (by decide) hd) (Nat.le_of_ble_eq_true rfl) (Nat.le_refl _) (Nat.le_refl _) dX10_hasRepainted_130 ?_
            refine g_iload (pc := 133) dX10_hasRepainted_133 rfl ?_
            refine g_iload (pc := 135) dX10_hasRepainted_135 rfl ?_
            refine g_imul (pc := 137) dX10_hasRepainted_137 ?_
            refine g_iadd (pc := 138) dX10_hasRepainted_138 ?_
            refine g_if_le (pc := 139) (tgt := 157) dX10_hasRepainted_139 rfl (fun c_35 => ?_) (fun c_35 => ?_)
            · replace hF := am_yes c_35 hF
              obtain ⟨l9_36, e_l9_36, hF⟩ := am_let_el hF
              refine n_iinc (pc := 157) (ls2 := [.ref 36, .int a1, .int a2, .int a3, .int a4, .ref 3, .int r_3, .int r_6, .int l8_7, .int l9_36, .int r_28]) e_l9_36 rfl rfl rfl dX10_hasRepainted_157 (Nat.le_of_ble_eq_true rfl) ?_
              refine g_goto (pc := 160) (tgt := 62) dX10_hasRepainted_160 rfl ?_
              cases hF
              exact g_weak (ih_20 (l9_36, I_17) rfl) ⟨Or.inr rfl, Or.inr rfl, Or.inr rfl, Or.inr rfl, Or.inr rfl, Or.inr rfl, Or.inr rfl, Or.inr rfl, Or.inr rfl, Or.inr rfl, Or.inl rfl, trivial⟩
            · replace hF := am_no c_35 hF
              refine g_aload (pc := 142) dX10_hasRepainted_142 rfl ?_
              refine g_iload_n (pc := 144) dX10_hasRepainted_144 rfl rfl ?_
              refine g_iload (pc := 145) dX10_hasRepainted_145 rfl ?_
              obtain ⟨c_37, hF⟩ := am_gd hF
              obtain ⟨I_38, e_I_38, hF⟩ := am_let_el hF
              refine n_iast (pc := 147) (k := 3) e_I_38 rfl (hPl.lt (by decide)) (am_ix_use c_37) dX10_hasRepainted_147 ?_
              refine g_aload (pc := 148) dX10_hasRepainted_148 rfl ?_
              refine g_iload (pc := 150) dX10_hasRepainted_150 rfl ?_
              refine g_iload (pc := 152) dX10_hasRepainted_152 rfl ?_
              obtain ⟨c_39, hF⟩ := am_gd hF
              obtain ⟨I_40, e_I_40, hF⟩ := am_let_el hF
              refine n_iast (pc := 154) (k := 3) e_I_40 rfl (hPl.lt (by decide)) (am_ix_use c_39) dX10_hasRepainted_154 ?_
              refine g_iconst (pc := 155) (v := (1 : Int32)) dX10_hasRepainted_155 rfl ?_
              cases hF
              have q_41 := hZ_23 _ (hE_21 _ rfl).symm
              cases q_41
              have q_42 := hZ_14 _ (hE_12 _ rfl).symm
              cases q_42
              exact g_zret (pc := 156) rfl (Or.inr rfl) (Nat.le_refl _) (Nat.le_refl _) dX10_hasRepainted_156 ⟨(Or.inr rfl), rfl, rfl, rfl, rfl⟩
        ) _ _ hL_22
      exact hC
    ) _ _ hL_13
  exact hC
def F_X10_hasTraded_36_3 (I : am_IT) (a1 : Int32) (a2 : Int32) : Option (Int32 × am_IT) := am_b1 (F_X10_weighParts_36_3_38 I a1) (fun (I_2 : am_IT) => am_b1 (F_X10_weighParts_36_3_39 I_2 a2) (fun (I_4 : am_IT) => am_lr (am_it am_fu (am_u2 (fun (l4_5 : Int32) (I_6 : am_IT) => if (I_6 1 3) ≤ l4_5 then (some (.inr (.inl (I_6)))) else (am_let (l4_5 + (1 : Int32)) (fun (l5_14 : Int32) => am_lr (am_it am_fu (am_u2 (fun (l5_15 : Int32) (I_16 : am_IT) => if (I_16 1 3) ≤ l5_15 then (some (.inr (.inl (I_16)))) else (am_b2 (F_X10_hasRepainted_36_3 I_16 a1 a2 l4_5 l5_15) (fun (r_25 : Int32) (I_26 : am_IT) => if r_25 = 0 then (am_let (l5_15 + (1 : Int32)) (fun (l5_29 : Int32) => some (.inl (l5_29, I_26)))) else (some (.inr (.inr (.inr (.inr ((1 : Int32), I_26)))))))))) (l5_14, I_6)) (fun (I_17 : am_IT) => am_let (l4_5 + (1 : Int32)) (fun (l4_32 : Int32) => some (.inl (l4_32, I_17)))))))) ((0 : Int32), I_4)) (fun (I_7 : am_IT) => some ((0 : Int32), I_7))))
set_option maxRecDepth 100000 in
set_option maxHeartbeats 4000000 in
theorem s_X10_hasTraded_36_3 {l : Launch} {d N : Nat} {P : am_PT} (hPl : am_Pl 94 N P) (hd : 4 ≤ d) {I : am_IT} {a1 : Int32} {a2 : Int32} {r : Int32} {I2 : am_IT} (hF : F_X10_hasTraded_36_3 I a1 a2 = some (r, I2)) : am_C l d 0 0 mX10_hasTraded [.ref 36, .int a1, .int a2, .ref 3] N P I (am_qz r N P I2) := by
  refine am_body (sc := am_sc0) (n := 2) (by decide +kernel) (by decide) rfl ?_
  change G am_sc0 l d 0 0 mX10_hasTraded (am_qz r N P I2) 0 [.ref 36, .int a1, .int a2, .ref 3, .null, .null] [] N P I 0 0
  unfold F_X10_hasTraded_36_3 at hF
  refine g_aload_n (pc := 0) dX10_hasTraded_0 rfl rfl ?_
  refine g_iload_n (pc := 1) dX10_hasTraded_1 rfl rfl ?_
  refine g_aload_n (pc := 2) dX10_hasTraded_2 rfl rfl ?_
  refine g_aload_n (pc := 3) dX10_hasTraded_3 rfl rfl ?_
  refine g_getR (pc := 4) (k := 36) (r := 38) kf_X10_15.r rfl rfl (hPl.get (by decide) rfl) (hPl.lt (by decide)) dX10_hasTraded_4 ?_
  obtain ⟨I_2, h_1, hF⟩ := am_b1_el hF
  refine g_cVv (pc := 7) (k := 36) (As := [.int a1, .ref 3, .ref 38]) (st := []) ky_X10_weighParts kl_X10_57 (s_X10_weighParts_36_3_38 (d := 3) (hPl) (Nat.le_refl _) h_1) rfl rfl rfl (hPl.lt (by decide)) (Nat.le_trans (by decide) hd) (Nat.le_of_ble_eq_true rfl) (Nat.le_refl _) (Nat.le_refl _) dX10_hasTraded_7 ?_
  refine g_aload_n (pc := 10) dX10_hasTraded_10 rfl rfl ?_
  refine g_iload_n (pc := 11) dX10_hasTraded_11 rfl rfl ?_
  refine g_aload_n (pc := 12) dX10_hasTraded_12 rfl rfl ?_
  refine g_aload_n (pc := 13) dX10_hasTraded_13 rfl rfl ?_
  refine g_getR (pc := 14) (k := 36) (r := 39) kf_X10_18.r rfl rfl (hPl.get (by decide) rfl) (hPl.lt (by decide)) dX10_hasTraded_14 ?_
  obtain ⟨I_4, h_3, hF⟩ := am_b1_el hF
  refine g_cVv (pc := 17) (k := 36) (As := [.int a2, .ref 3, .ref 39]) (st := []) ky_X10_weighParts kl_X10_57 (s_X10_weighParts_36_3_39 (d := 3) (hPl) (Nat.le_refl _) h_3) rfl rfl rfl (hPl.lt (by decide)) (Nat.le_trans (by decide) hd) (Nat.le_of_ble_eq_true rfl) (Nat.le_refl _) (Nat.le_refl _) dX10_hasTraded_17 ?_
  refine g_iconst (pc := 20) (v := (0 : Int32)) dX10_hasTraded_20 rfl ?_
  refine n_istore (pc := 21) (ls2 := [.ref 36, .int a1, .int a2, .ref 3, .int (0 : Int32), .null]) rfl rfl dX10_hasTraded_21 (Nat.le_of_ble_eq_true rfl) ?_
  obtain ⟨x_34, hL_11, hF⟩ := am_lr_el hF
  have hX_8 : ∀ (I_7 : am_IT), x_34 = .inl I_7 → G am_sc0 l d 0 0 mX10_hasTraded (am_qz r N P I2) 81 [.ref 36, .int a1, .int a2, .ref 3, .null, .null] [] N P I_7 0 0 := by
    intro I_7 q
    subst q
    refine g_iconst (pc := 81) (v := (0 : Int32)) dX10_hasTraded_81 rfl ?_
    cases hF
    exact g_zret (pc := 82) rfl (Or.inl rfl) (Nat.le_refl _) (Nat.le_refl _) dX10_hasTraded_82 ⟨(Or.inl rfl), rfl, rfl, rfl, rfl⟩
  have hZ_12 : ∀ y, x_34 = .inr y → y = _ := fun y q => by subst q; exact hF
  clear hF
  have hC := am_loop (C := fun x => G am_sc0 l d 0 0 mX10_hasTraded (am_qz r N P I2) 23 [.ref 36, .int a1, .int a2, .ref 3, .int x.1, .null] [] N P x.2 0 0) (by
    rintro ⟨l4_5, I_6⟩ rr hF ih_9 hE_10
    replace hF := am_u2_ap hF
    change G am_sc0 l d 0 0 mX10_hasTraded (am_qz r N P I2) 23 [.ref 36, .int a1, .int a2, .ref 3, .int l4_5, .null] [] N P I_6 0 0
    refine g_iload (pc := 23) dX10_hasTraded_23 rfl ?_
    refine g_aload_n (pc := 25) dX10_hasTraded_25 rfl rfl ?_
    refine g_getR (pc := 26) (k := 36) (r := 1) kf_X10_21.r rfl rfl (hPl.get (by decide) rfl) (hPl.lt (by decide)) dX10_hasTraded_26 ?_
    refine g_getI (pc := 29) (k := 1) kf_X10_61.r rfl rfl (hPl.lt (by decide)) dX10_hasTraded_29 ?_
    refine g_icmp_ge (pc := 32) (tgt := 81) dX10_hasTraded_32 rfl (fun c_13 => ?_) (fun c_13 => ?_)
    · replace hF := am_yes c_13 hF
      cases hF
      exact g_weak (hX_8 _ (hE_10 _ rfl).symm) ⟨Or.inr rfl, Or.inr rfl, Or.inr rfl, Or.inr rfl, Or.inl rfl, Or.inl rfl, trivial⟩
    · replace hF := am_no c_13 hF
      refine g_iload (pc := 35) dX10_hasTraded_35 rfl ?_
      refine g_iconst (pc := 37) (v := (1 : Int32)) dX10_hasTraded_37 rfl ?_
      refine g_iadd (pc := 38) dX10_hasTraded_38 ?_
      obtain ⟨l5_14, e_l5_14, hF⟩ := am_let_el hF
      refine n_istore (pc := 39) (ls2 := [.ref 36, .int a1, .int a2, .ref 3, .int l4_5, .int l5_14]) e_l5_14 rfl dX10_hasTraded_39 (Nat.le_of_ble_eq_true rfl) ?_
      obtain ⟨x_33, hL_21, hF⟩ := am_lr_el hF
      have hX_18 : ∀ (I_17 : am_IT), x_33 = .inl I_17 → G am_sc0 l d 0 0 mX10_hasTraded (am_qz r N P I2) 75 [.ref 36, .int a1, .int a2, .ref 3, .int l4_5, .null] [] N P I_17 0 0 := by
        intro I_17 q
        subst q
        obtain ⟨l4_32, e_l4_32, hF⟩ := am_let_el hF
        refine n_iinc (pc := 75) (ls2 := [.ref 36, .int a1, .int a2, .ref 3, .int l4_32, .null]) e_l4_32 rfl rfl rfl dX10_hasTraded_75 (Nat.le_of_ble_eq_true rfl) ?_
        refine g_goto (pc := 78) (tgt := 23) dX10_hasTraded_78 rfl ?_
        cases hF
        exact ih_9 (l4_32, I_17) rfl
      have hZ_22 : ∀ y, x_33 = .inr y → y = _ := fun y q => by subst q; exact hF
      clear hF
      have hC := am_loop (C := fun x => G am_sc0 l d 0 0 mX10_hasTraded (am_qz r N P I2) 41 [.ref 36, .int a1, .int a2, .ref 3, .int l4_5, .int x.1] [] N P x.2 0 0) (by
        rintro ⟨l5_15, I_16⟩ rr hF ih_19 hE_20
        replace hF := am_u2_ap hF
        change G am_sc0 l d 0 0 mX10_hasTraded (am_qz r N P I2) 41 [.ref 36, .int a1, .int a2, .ref 3, .int l4_5, .int l5_15] [] N P I_16 0 0
        refine g_iload (pc := 41) dX10_hasTraded_41 rfl ?_
        refine g_aload_n (pc := 43) dX10_hasTraded_43 rfl rfl ?_
        refine g_getR (pc := 44) (k := 36) (r := 1) kf_X10_21.r rfl rfl (hPl.get (by decide) rfl) (hPl.lt (by decide)) dX10_hasTraded_44 ?_
        refine g_getI (pc := 47) (k := 1) kf_X10_61.r rfl rfl (hPl.lt (by decide)) dX10_hasTraded_47 ?_
        refine g_icmp_ge (pc := 50) (tgt := 75) dX10_hasTraded_50 rfl (fun c_23 => ?_) (fun c_23 => ?_)
        · replace hF := am_yes c_23 hF
          cases hF
          exact g_weak (hX_18 _ (hE_20 _ rfl).symm) ⟨Or.inr rfl, Or.inr rfl, Or.inr rfl, Or.inr rfl, Or.inr rfl, Or.inl rfl, trivial⟩
        · replace hF := am_no c_23 hF
          refine g_aload_n (pc := 53) dX10_hasTraded_53 rfl rfl ?_
          refine g_iload_n (pc := 54) dX10_hasTraded_54 rfl rfl ?_
          refine g_iload_n (pc := 55) dX10_hasTraded_55 rfl rfl ?_
          refine g_iload (pc := 56) dX10_hasTraded_56 rfl ?_
          refine g_iload (pc := 58) dX10_hasTraded_58 rfl ?_
          refine g_aload_n (pc := 60) dX10_hasTraded_60 rfl rfl ?_
          obtain ⟨r_25, I_26, h_24, hF⟩ := am_b2_el hF
          refine g_cVz (pc := 61) (k := 36) (As := [.int a1, .int a2, .int l4_5, .int l5_15, .ref 3]) (st := []) ky_X10_hasRepainted kl_X10_64 (s_X10_hasRepainted_36_3 (d := 3) (hPl) (Nat.le_refl _) h_24) rfl rfl rfl (hPl.lt (by decide)) (Nat.le_trans (by decide) hd) (Nat.le_of_ble_eq_true rfl) (Nat.le_refl _) (Nat.le_refl _) dX10_hasTraded_61 ?_
          intro z_27
          refine g_if_eq (pc := 64) (tgt := 69) dX10_hasTraded_64 rfl (fun c_28 => ?_) (fun c_28 => ?_)
          · replace hF := am_yes c_28 hF
            obtain ⟨l5_29, e_l5_29, hF⟩ := am_let_el hF
            refine n_iinc (pc := 69) (ls2 := [.ref 36, .int a1, .int a2, .ref 3, .int l4_5, .int l5_29]) e_l5_29 rfl rfl rfl dX10_hasTraded_69 (Nat.le_of_ble_eq_true rfl) ?_
            refine g_goto (pc := 72) (tgt := 41) dX10_hasTraded_72 rfl ?_
            cases hF
            exact ih_19 (l5_29, I_26) rfl
          · replace hF := am_no c_28 hF
            refine g_iconst (pc := 67) (v := (1 : Int32)) dX10_hasTraded_67 rfl ?_
            cases hF
            have q_30 := hZ_22 _ (hE_20 _ rfl).symm
            cases q_30
            have q_31 := hZ_12 _ (hE_10 _ rfl).symm
            cases q_31
            exact g_zret (pc := 68) rfl (Or.inr rfl) (Nat.le_refl _) (Nat.le_refl _) dX10_hasTraded_68 ⟨(Or.inr rfl), rfl, rfl, rfl, rfl⟩
        ) _ _ hL_21
      exact hC
    ) _ _ hL_11
  exact hC
def F_X10_round_36_3 (I : am_IT) : Option (Int32 × am_IT) := am_b2 (am_it am_fu (am_u3 (fun (l2_1 : Int32) (l3_2 : Int32) (I_3 : am_IT) => if (I_3 1 4) ≤ l3_2 then (some (.inr (l2_1, I_3))) else (am_let (l3_2 + (1 : Int32)) (fun (l4_12 : Int32) => am_b2 (am_it am_fu (am_u3 (fun (l2_13 : Int32) (l4_14 : Int32) (I_15 : am_IT) => if (I_15 1 4) ≤ l4_14 then (some (.inr (l2_13, I_15))) else (am_b2 (F_X10_hasTraded_36_3 I_15 l3_2 l4_14) (fun (r_25 : Int32) (I_26 : am_IT) => if r_25 = 0 then (am_let (l4_14 + (1 : Int32)) (fun (l4_29 : Int32) => some (.inl (l2_13, l4_29, I_26)))) else (am_let (l2_13 + (1 : Int32)) (fun (l2_30 : Int32) => am_let (l4_14 + (1 : Int32)) (fun (l4_31 : Int32) => some (.inl (l2_30, l4_31, I_26))))))))) (l2_1, l4_12, I_3)) (fun (l2_16 : Int32) (I_17 : am_IT) => am_let (l3_2 + (1 : Int32)) (fun (l3_32 : Int32) => some (.inl (l2_16, l3_32, I_17)))))))) ((0 : Int32), (0 : Int32), I)) (fun (l2_4 : Int32) (I_5 : am_IT) => some (l2_4, I_5))
set_option maxRecDepth 100000 in
set_option maxHeartbeats 4000000 in
theorem s_X10_round_36_3 {l : Launch} {d N : Nat} {P : am_PT} (hPl : am_Pl 94 N P) (hd : 5 ≤ d) {I : am_IT} {r : Int32} {I2 : am_IT} (hF : F_X10_round_36_3 I = some (r, I2)) : am_C l d 0 0 mX10_round [.ref 36, .ref 3] N P I (am_qi r N P I2) := by
  refine am_body (sc := am_sc0) (n := 3) (by decide +kernel) (by decide) rfl ?_
  change G am_sc0 l d 0 0 mX10_round (am_qi r N P I2) 0 [.ref 36, .ref 3, .null, .null, .null] [] N P I 0 0
  unfold F_X10_round_36_3 at hF
  refine g_iconst (pc := 0) (v := (0 : Int32)) dX10_round_0 rfl ?_
  refine n_istore_n (pc := 1) (ls2 := [.ref 36, .ref 3, .int (0 : Int32), .null, .null]) rfl rfl dX10_round_1 rfl (Nat.le_of_ble_eq_true rfl) ?_
  refine g_iconst (pc := 2) (v := (0 : Int32)) dX10_round_2 rfl ?_
  refine n_istore_n (pc := 3) (ls2 := [.ref 36, .ref 3, .int (0 : Int32), .int (0 : Int32), .null]) rfl rfl dX10_round_3 rfl (Nat.le_of_ble_eq_true rfl) ?_
  obtain ⟨l2_4, I_5, hL_9, hF⟩ := am_b2_el hF
  have hX_6 : G am_sc0 l d 0 0 mX10_round (am_qi r N P I2) 58 [.ref 36, .ref 3, .int l2_4, .null, .null] [] N P I_5 0 0 := by
    refine g_iload_n (pc := 58) dX10_round_58 rfl rfl ?_
    cases hF
    exact g_iret (pc := 59) rfl (Nat.le_refl _) (Nat.le_refl _) dX10_round_59 ⟨rfl, rfl, rfl, rfl⟩
  clear hF
  have hC := am_loop (C := fun x => G am_sc0 l d 0 0 mX10_round (am_qi r N P I2) 4 [.ref 36, .ref 3, .int x.1, .int x.2.1, .null] [] N P x.2.2 0 0) (by
    rintro ⟨l2_1, l3_2, I_3⟩ rr hF ih_7 hE_8
    replace hF := am_u3_ap hF
    change G am_sc0 l d 0 0 mX10_round (am_qi r N P I2) 4 [.ref 36, .ref 3, .int l2_1, .int l3_2, .null] [] N P I_3 0 0
    refine g_iload_n (pc := 4) dX10_round_4 rfl rfl ?_
    refine g_aload_n (pc := 5) dX10_round_5 rfl rfl ?_
    refine g_getR (pc := 6) (k := 36) (r := 1) kf_X10_21.r rfl rfl (hPl.get (by decide) rfl) (hPl.lt (by decide)) dX10_round_6 ?_
    refine g_getI (pc := 9) (k := 1) kf_X10_49.r rfl rfl (hPl.lt (by decide)) dX10_round_9 ?_
    refine g_icmp_ge (pc := 12) (tgt := 58) dX10_round_12 rfl (fun c_11 => ?_) (fun c_11 => ?_)
    · replace hF := am_yes c_11 hF
      cases hF
      cases hE_8 _ rfl
      exact g_weak hX_6 ⟨Or.inr rfl, Or.inr rfl, Or.inr rfl, Or.inl rfl, Or.inl rfl, trivial⟩
    · replace hF := am_no c_11 hF
      refine g_iload_n (pc := 15) dX10_round_15 rfl rfl ?_
      refine g_iconst (pc := 16) (v := (1 : Int32)) dX10_round_16 rfl ?_
      refine g_iadd (pc := 17) dX10_round_17 ?_
      obtain ⟨l4_12, e_l4_12, hF⟩ := am_let_el hF
      refine n_istore (pc := 18) (ls2 := [.ref 36, .ref 3, .int l2_1, .int l3_2, .int l4_12]) e_l4_12 rfl dX10_round_18 (Nat.le_of_ble_eq_true rfl) ?_
      obtain ⟨l2_16, I_17, hL_21, hF⟩ := am_b2_el hF
      have hX_18 : G am_sc0 l d 0 0 mX10_round (am_qi r N P I2) 52 [.ref 36, .ref 3, .int l2_16, .int l3_2, .null] [] N P I_17 0 0 := by
        obtain ⟨l3_32, e_l3_32, hF⟩ := am_let_el hF
        refine n_iinc (pc := 52) (ls2 := [.ref 36, .ref 3, .int l2_16, .int l3_32, .null]) e_l3_32 rfl rfl rfl dX10_round_52 (Nat.le_of_ble_eq_true rfl) ?_
        refine g_goto (pc := 55) (tgt := 4) dX10_round_55 rfl ?_
        cases hF
        exact ih_7 (l2_16, l3_32, I_17) rfl
      clear hF
      have hC := am_loop (C := fun x => G am_sc0 l d 0 0 mX10_round (am_qi r N P I2) 20 [.ref 36, .ref 3, .int x.1, .int l3_2, .int x.2.1] [] N P x.2.2 0 0) (by
        rintro ⟨l2_13, l4_14, I_15⟩ rr hF ih_19 hE_20
        replace hF := am_u3_ap hF
        change G am_sc0 l d 0 0 mX10_round (am_qi r N P I2) 20 [.ref 36, .ref 3, .int l2_13, .int l3_2, .int l4_14] [] N P I_15 0 0
        refine g_iload (pc := 20) dX10_round_20 rfl ?_
        refine g_aload_n (pc := 22) dX10_round_22 rfl rfl ?_
        refine g_getR (pc := 23) (k := 36) (r := 1) kf_X10_21.r rfl rfl (hPl.get (by decide) rfl) (hPl.lt (by decide)) dX10_round_23 ?_
        refine g_getI (pc := 26) (k := 1) kf_X10_49.r rfl rfl (hPl.lt (by decide)) dX10_round_26 ?_
        refine g_icmp_ge (pc := 29) (tgt := 52) dX10_round_29 rfl (fun c_23 => ?_) (fun c_23 => ?_)
        · replace hF := am_yes c_23 hF
          cases hF
          cases hE_20 _ rfl
          exact g_weak hX_18 ⟨Or.inr rfl, Or.inr rfl, Or.inr rfl, Or.inr rfl, Or.inl rfl, trivial⟩
        · replace hF := am_no c_23 hF
          refine g_aload_n (pc := 32) dX10_round_32 rfl rfl ?_
          refine g_iload_n (pc := 33) dX10_round_33 rfl rfl ?_
          refine g_iload (pc := 34) dX10_round_34 rfl ?_
          refine g_aload_n (pc := 36) dX10_round_36 rfl rfl ?_
          obtain ⟨r_25, I_26, h_24, hF⟩ := am_b2_el hF
          refine g_cVz (pc := 37) (k := 36) (As := [.int l3_2, .int l4_14, .ref 3]) (st := []) ky_X10_hasTraded kl_X10_53 (s_X10_hasTraded_36_3 (d := 4) (hPl) (Nat.le_refl _) h_24) rfl rfl rfl (hPl.lt (by decide)) (Nat.le_trans (by decide) hd) (Nat.le_of_ble_eq_true rfl) (Nat.le_refl _) (Nat.le_refl _) dX10_round_37 ?_
          intro z_27
          refine g_if_eq (pc := 40) (tgt := 46) dX10_round_40 rfl (fun c_28 => ?_) (fun c_28 => ?_)
          · replace hF := am_yes c_28 hF
            obtain ⟨l4_29, e_l4_29, hF⟩ := am_let_el hF
            refine n_iinc (pc := 46) (ls2 := [.ref 36, .ref 3, .int l2_13, .int l3_2, .int l4_29]) e_l4_29 rfl rfl rfl dX10_round_46 (Nat.le_of_ble_eq_true rfl) ?_
            refine g_goto (pc := 49) (tgt := 20) dX10_round_49 rfl ?_
            cases hF
            exact ih_19 (l2_13, l4_29, I_26) rfl
          · replace hF := am_no c_28 hF
            obtain ⟨l2_30, e_l2_30, hF⟩ := am_let_el hF
            refine n_iinc (pc := 43) (ls2 := [.ref 36, .ref 3, .int l2_30, .int l3_2, .int l4_14]) e_l2_30 rfl rfl rfl dX10_round_43 (Nat.le_of_ble_eq_true rfl) ?_
            obtain ⟨l4_31, e_l4_31, hF⟩ := am_let_el hF
            refine n_iinc (pc := 46) (ls2 := [.ref 36, .ref 3, .int l2_30, .int l3_2, .int l4_31]) e_l4_31 rfl rfl rfl dX10_round_46 (Nat.le_of_ble_eq_true rfl) ?_
            refine g_goto (pc := 49) (tgt := 20) dX10_round_49 rfl ?_
            cases hF
            exact ih_19 (l2_30, l4_31, I_26) rfl
        ) _ _ hL_21
      exact hC
    ) _ _ hL_9
  exact hC
def F_X11_trade_0 (I : am_IT) : Option (Int32 × am_IT) := am_b1 (F_X8_measure_23 I) (fun (I_2 : am_IT) => am_b2 (F_X10_round_36_3 I_2) (fun (r_4 : Int32) (I_5 : am_IT) => some (r_4, I_5)))
set_option maxRecDepth 100000 in
set_option maxHeartbeats 4000000 in
theorem s_X11_trade_0 {l : Launch} {d N : Nat} {P : am_PT} (hPl : am_Pl 94 N P) (hd : 6 ≤ d) {I : am_IT} {r : Int32} {I2 : am_IT} (hF : F_X11_trade_0 I = some (r, I2)) : am_C l d 0 0 mX11_trade [.ref 0] N P I (am_qi r N P I2) := by
  refine am_body (sc := am_sc0) (n := 0) (by decide +kernel) (by decide) rfl ?_
  change G am_sc0 l d 0 0 mX11_trade (am_qi r N P I2) 0 [.ref 0] [] N P I 0 0
  unfold F_X11_trade_0 at hF
  refine g_aload_n (pc := 0) dX11_trade_0 rfl rfl ?_
  refine g_getR (pc := 1) (k := 0) (r := 23) kf_X11_21.r rfl rfl (hPl.get (by decide) rfl) (hPl.lt (by decide)) dX11_trade_1 ?_
  obtain ⟨I_2, h_1, hF⟩ := am_b1_el hF
  refine g_cVv (pc := 4) (k := 23) (As := []) (st := []) ky_X8_measure kl_X11_178 (s_X8_measure_23 (d := 2) (hPl) (Nat.le_refl _) h_1) rfl rfl rfl (hPl.lt (by decide)) (Nat.le_trans (by decide) hd) (Nat.le_of_ble_eq_true rfl) (Nat.le_refl _) (Nat.le_refl _) dX11_trade_4 ?_
  refine g_aload_n (pc := 7) dX11_trade_7 rfl rfl ?_
  refine g_getR (pc := 8) (k := 0) (r := 36) kf_X11_44.r rfl rfl (hPl.get (by decide) rfl) (hPl.lt (by decide)) dX11_trade_8 ?_
  refine g_aload_n (pc := 11) dX11_trade_11 rfl rfl ?_
  refine g_getR (pc := 12) (k := 0) (r := 1) kf_X11_12.r rfl rfl (hPl.get (by decide) rfl) (hPl.lt (by decide)) dX11_trade_12 ?_
  refine g_getR (pc := 15) (k := 1) (r := 3) kf_X11_107 rfl rfl (hPl.get (by decide) rfl) (hPl.lt (by decide)) dX11_trade_15 ?_
  obtain ⟨r_4, I_5, h_3, hF⟩ := am_b2_el hF
  refine g_cVi (pc := 18) (k := 36) (As := [.ref 3]) (st := []) ky_X10_round kl_X11_220 (s_X10_round_36_3 (d := 5) (hPl) (Nat.le_refl _) h_3) rfl rfl rfl (hPl.lt (by decide)) (Nat.le_trans (by decide) hd) (Nat.le_of_ble_eq_true rfl) (Nat.le_refl _) (Nat.le_refl _) dX11_trade_18 ?_
  cases hF
  exact g_iret (pc := 21) rfl (Nat.le_refl _) (Nat.le_refl _) dX11_trade_21 ⟨rfl, rfl, rfl, rfl⟩
def F_X10_weighParts_36_37_38 (I : am_IT) (a1 : Int32) : Option (am_IT) := am_b1 (am_it am_fu (am_u2 (fun (l4_1 : Int32) (I_2 : am_IT) => if (I_2 1 3) ≤ l4_1 then (some (.inr (I_2))) else (am_b1 (am_it am_fu (am_u2 (fun (l5_10 : Int32) (I_11 : am_IT) => if (I_11 1 0) ≤ l5_10 then (some (.inr (I_11))) else (am_b1 (F_X8_yardsOf_23 I_11 a1 l4_1) (fun (r_20 : Int32) => if am_ix ((a1 * (4 : Int32)) + l5_10) 28 = true then (if am_ix ((l4_1 * (4 : Int32)) + l5_10) 28 = true then (am_let (up2 I_11 38 ((l4_1 * (4 : Int32)) + l5_10).toNatClampNeg (r_20 * (I_11 7 ((a1 * (4 : Int32)) + l5_10).toNatClampNeg))) (fun (I_23 : am_IT) => am_let (l5_10 + (1 : Int32)) (fun (l5_24 : Int32) => some (.inl (l5_24, I_23))))) else none) else none)))) ((0 : Int32), I_2)) (fun (I_12 : am_IT) => am_b1 (am_it am_fu (am_u2 (fun (l5_25 : Int32) (I_26 : am_IT) => if (I_26 1 3) ≤ l5_25 then (some (.inr (I_26))) else (if l5_25 = l4_1 then (am_let (l5_25 + (1 : Int32)) (fun (l5_35 : Int32) => some (.inl (l5_35, I_26)))) else (if am_ix l5_25 7 = true then (if am_ix ((l4_1 * (4 : Int32)) + (I_26 37 l5_25.toNatClampNeg)) 28 = true then (if am_ix a1 7 = true then (am_b1 (F_X8_worthOfTwo_23 I_26 a1 (I_26 4 a1.toNatClampNeg) l4_1 l5_25) (fun (r_40 : Int32) => if am_ix ((l4_1 * (4 : Int32)) + (I_26 37 l5_25.toNatClampNeg)) 28 = true then (am_let (up2 I_26 38 ((l4_1 * (4 : Int32)) + (I_26 37 l5_25.toNatClampNeg)).toNatClampNeg ((I_26 38 ((l4_1 * (4 : Int32)) + (I_26 37 l5_25.toNatClampNeg)).toNatClampNeg) + r_40)) (fun (I_42 : am_IT) => am_let (l5_25 + (1 : Int32)) (fun (l5_43 : Int32) => some (.inl (l5_43, I_42))))) else none)) else none) else none) else none)))) ((0 : Int32), I_12)) (fun (I_27 : am_IT) => am_let (l4_1 + (1 : Int32)) (fun (l4_44 : Int32) => some (.inl (l4_44, I_27)))))))) ((0 : Int32), I)) (fun (I_3 : am_IT) => some I_3)
set_option maxRecDepth 100000 in
set_option maxHeartbeats 4000000 in
theorem s_X10_weighParts_36_37_38 {l : Launch} {d N : Nat} {P : am_PT} (hPl : am_Pl 94 N P) (hd : 3 ≤ d) {I : am_IT} {a1 : Int32} {I2 : am_IT} (hF : F_X10_weighParts_36_37_38 I a1 = some (I2)) : am_C l d 0 0 mX10_weighParts [.ref 36, .int a1, .ref 37, .ref 38] N P I (am_qv N P I2) := by
  refine am_body (sc := am_sc0) (n := 2) (by decide +kernel) (by decide) rfl ?_
  change G am_sc0 l d 0 0 mX10_weighParts (am_qv N P I2) 0 [.ref 36, .int a1, .ref 37, .ref 38, .null, .null] [] N P I 0 0
  unfold F_X10_weighParts_36_37_38 at hF
  refine g_iconst (pc := 0) (v := (0 : Int32)) dX10_weighParts_0 rfl ?_
  refine n_istore (pc := 1) (ls2 := [.ref 36, .int a1, .ref 37, .ref 38, .int (0 : Int32), .null]) rfl rfl dX10_weighParts_1 (Nat.le_of_ble_eq_true rfl) ?_
  obtain ⟨I_3, hL_7, hF⟩ := am_b1_el hF
  have hX_4 : G am_sc0 l d 0 0 mX10_weighParts (am_qv N P I2) 139 [.ref 36, .int a1, .ref 37, .ref 38, .null, .null] [] N P I_3 0 0 := by
    cases hF
    exact g_vret (pc := 139) rfl (Nat.le_refl _) (Nat.le_refl _) dX10_weighParts_139 ⟨rfl, rfl, rfl, rfl⟩
  clear hF
  have hC := am_loop (C := fun x => G am_sc0 l d 0 0 mX10_weighParts (am_qv N P I2) 3 [.ref 36, .int a1, .ref 37, .ref 38, .int x.1, .null] [] N P x.2 0 0) (by
    rintro ⟨l4_1, I_2⟩ rr hF ih_5 hE_6
    replace hF := am_u2_ap hF
    change G am_sc0 l d 0 0 mX10_weighParts (am_qv N P I2) 3 [.ref 36, .int a1, .ref 37, .ref 38, .int l4_1, .null] [] N P I_2 0 0
    refine g_iload (pc := 3) dX10_weighParts_3 rfl ?_
    refine g_aload_n (pc := 5) dX10_weighParts_5 rfl rfl ?_
    refine g_getR (pc := 6) (k := 36) (r := 1) kf_X10_21.r rfl rfl (hPl.get (by decide) rfl) (hPl.lt (by decide)) dX10_weighParts_6 ?_
    refine g_getI (pc := 9) (k := 1) kf_X10_61.r rfl rfl (hPl.lt (by decide)) dX10_weighParts_9 ?_
    refine g_icmp_ge (pc := 12) (tgt := 139) dX10_weighParts_12 rfl (fun c_9 => ?_) (fun c_9 => ?_)
    · replace hF := am_yes c_9 hF
      cases hF
      cases hE_6 _ rfl
      exact g_weak hX_4 ⟨Or.inr rfl, Or.inr rfl, Or.inr rfl, Or.inr rfl, Or.inl rfl, Or.inl rfl, trivial⟩
    · replace hF := am_no c_9 hF
      refine g_iconst (pc := 15) (v := (0 : Int32)) dX10_weighParts_15 rfl ?_
      refine n_istore (pc := 16) (ls2 := [.ref 36, .int a1, .ref 37, .ref 38, .int l4_1, .int (0 : Int32)]) rfl rfl dX10_weighParts_16 (Nat.le_of_ble_eq_true rfl) ?_
      obtain ⟨I_12, hL_16, hF⟩ := am_b1_el hF
      have hX_13 : G am_sc0 l d 0 0 mX10_weighParts (am_qv N P I2) 70 [.ref 36, .int a1, .ref 37, .ref 38, .int l4_1, .null] [] N P I_12 0 0 := by
        refine g_iconst (pc := 70) (v := (0 : Int32)) dX10_weighParts_70 rfl ?_
        refine n_istore (pc := 71) (ls2 := [.ref 36, .int a1, .ref 37, .ref 38, .int l4_1, .int (0 : Int32)]) rfl rfl dX10_weighParts_71 (Nat.le_of_ble_eq_true rfl) ?_
        obtain ⟨I_27, hL_31, hF⟩ := am_b1_el hF
        have hX_28 : G am_sc0 l d 0 0 mX10_weighParts (am_qv N P I2) 133 [.ref 36, .int a1, .ref 37, .ref 38, .int l4_1, .null] [] N P I_27 0 0 := by
          obtain ⟨l4_44, e_l4_44, hF⟩ := am_let_el hF
          refine n_iinc (pc := 133) (ls2 := [.ref 36, .int a1, .ref 37, .ref 38, .int l4_44, .null]) e_l4_44 rfl rfl rfl dX10_weighParts_133 (Nat.le_of_ble_eq_true rfl) ?_
          refine g_goto (pc := 136) (tgt := 3) dX10_weighParts_136 rfl ?_
          cases hF
          exact ih_5 (l4_44, I_27) rfl
        clear hF
        have hC := am_loop (C := fun x => G am_sc0 l d 0 0 mX10_weighParts (am_qv N P I2) 73 [.ref 36, .int a1, .ref 37, .ref 38, .int l4_1, .int x.1] [] N P x.2 0 0) (by
          rintro ⟨l5_25, I_26⟩ rr hF ih_29 hE_30
          replace hF := am_u2_ap hF
          change G am_sc0 l d 0 0 mX10_weighParts (am_qv N P I2) 73 [.ref 36, .int a1, .ref 37, .ref 38, .int l4_1, .int l5_25] [] N P I_26 0 0
          refine g_iload (pc := 73) dX10_weighParts_73 rfl ?_
          refine g_aload_n (pc := 75) dX10_weighParts_75 rfl rfl ?_
          refine g_getR (pc := 76) (k := 36) (r := 1) kf_X10_21.r rfl rfl (hPl.get (by decide) rfl) (hPl.lt (by decide)) dX10_weighParts_76 ?_
          refine g_getI (pc := 79) (k := 1) kf_X10_61.r rfl rfl (hPl.lt (by decide)) dX10_weighParts_79 ?_
          refine g_icmp_ge (pc := 82) (tgt := 133) dX10_weighParts_82 rfl (fun c_33 => ?_) (fun c_33 => ?_)
          · replace hF := am_yes c_33 hF
            cases hF
            cases hE_30 _ rfl
            exact g_weak hX_28 ⟨Or.inr rfl, Or.inr rfl, Or.inr rfl, Or.inr rfl, Or.inr rfl, Or.inl rfl, trivial⟩
          · replace hF := am_no c_33 hF
            refine g_iload (pc := 85) dX10_weighParts_85 rfl ?_
            refine g_iload (pc := 87) dX10_weighParts_87 rfl ?_
            refine g_icmp_eq (pc := 89) (tgt := 127) dX10_weighParts_89 rfl (fun c_34 => ?_) (fun c_34 => ?_)
            · replace hF := am_yes c_34 hF
              obtain ⟨l5_35, e_l5_35, hF⟩ := am_let_el hF
              refine n_iinc (pc := 127) (ls2 := [.ref 36, .int a1, .ref 37, .ref 38, .int l4_1, .int l5_35]) e_l5_35 rfl rfl rfl dX10_weighParts_127 (Nat.le_of_ble_eq_true rfl) ?_
              refine g_goto (pc := 130) (tgt := 73) dX10_weighParts_130 rfl ?_
              cases hF
              exact ih_29 (l5_35, I_26) rfl
            · replace hF := am_no c_34 hF
              refine g_aload_n (pc := 92) dX10_weighParts_92 rfl rfl ?_
              refine g_iload (pc := 93) dX10_weighParts_93 rfl ?_
              refine g_iconst (pc := 95) (v := (4 : Int32)) dX10_weighParts_95 rfl ?_
              refine g_imul (pc := 96) dX10_weighParts_96 ?_
              refine g_aload_n (pc := 97) dX10_weighParts_97 rfl rfl ?_
              refine g_iload (pc := 98) dX10_weighParts_98 rfl ?_
              obtain ⟨c_36, hF⟩ := am_gd hF
              refine g_iald (pc := 100) (k := 37) rfl (hPl.lt (by decide)) (am_ix_use c_36) dX10_weighParts_100 ?_
              refine g_iadd (pc := 101) dX10_weighParts_101 ?_
              refine g_dup2 (pc := 102) dX10_weighParts_102 ?_
              obtain ⟨c_37, hF⟩ := am_gd hF
              refine g_iald (pc := 103) (k := 38) rfl (hPl.lt (by decide)) (am_ix_use c_37) dX10_weighParts_103 ?_
              refine g_aload_n (pc := 104) dX10_weighParts_104 rfl rfl ?_
              refine g_getR (pc := 105) (k := 36) (r := 23) kf_X10_25.r rfl rfl (hPl.get (by decide) rfl) (hPl.lt (by decide)) dX10_weighParts_105 ?_
              refine g_iload_n (pc := 108) dX10_weighParts_108 rfl rfl ?_
              refine g_aload_n (pc := 109) dX10_weighParts_109 rfl rfl ?_
              refine g_getR (pc := 110) (k := 36) (r := 1) kf_X10_21.r rfl rfl (hPl.get (by decide) rfl) (hPl.lt (by decide)) dX10_weighParts_110 ?_
              refine g_getR (pc := 113) (k := 1) (r := 4) kf_X10_78 rfl rfl (hPl.get (by decide) rfl) (hPl.lt (by decide)) dX10_weighParts_113 ?_
              refine g_iload_n (pc := 116) dX10_weighParts_116 rfl rfl ?_
              obtain ⟨c_38, hF⟩ := am_gd hF
              refine g_iald (pc := 117) (k := 4) rfl (hPl.lt (by decide)) (am_ix_use c_38) dX10_weighParts_117 ?_
              refine g_iload (pc := 118) dX10_weighParts_118 rfl ?_
              refine g_iload (pc := 120) dX10_weighParts_120 rfl ?_
              obtain ⟨r_40, h_39, hF⟩ := am_b1_el hF
              refine g_cVi (pc := 122) (k := 23) (As := [.int a1, .int (I_26 4 a1.toNatClampNeg), .int l4_1, .int l5_25]) (st := [.int (I_26 38 ((l4_1 * (4 : Int32)) + (I_26 37 l5_25.toNatClampNeg)).toNatClampNeg), .int ((l4_1 * (4 : Int32)) + (I_26 37 l5_25.toNatClampNeg)), .ref 38]) ky_X8_worthOfTwo kl_X10_81 (s_X8_worthOfTwo_23 (d := 2) (hPl) (Nat.le_refl _) h_39) rfl rfl rfl (hPl.lt (by decide)) (Nat.le_trans (by decide) hd) (Nat.le_of_ble_eq_true rfl) (Nat.le_refl _) (Nat.le_refl _) dX10_weighParts_122 ?_
              refine g_iadd (pc := 125) dX10_weighParts_125 ?_
              obtain ⟨c_41, hF⟩ := am_gd hF
              obtain ⟨I_42, e_I_42, hF⟩ := am_let_el hF
              refine n_iast (pc := 126) (k := 38) e_I_42 rfl (hPl.lt (by decide)) (am_ix_use c_41) dX10_weighParts_126 ?_
              obtain ⟨l5_43, e_l5_43, hF⟩ := am_let_el hF
              refine n_iinc (pc := 127) (ls2 := [.ref 36, .int a1, .ref 37, .ref 38, .int l4_1, .int l5_43]) e_l5_43 rfl rfl rfl dX10_weighParts_127 (Nat.le_of_ble_eq_true rfl) ?_
              refine g_goto (pc := 130) (tgt := 73) dX10_weighParts_130 rfl ?_
              cases hF
              exact ih_29 (l5_43, I_42) rfl
          ) _ _ hL_31
        exact hC
      clear hF
      have hC := am_loop (C := fun x => G am_sc0 l d 0 0 mX10_weighParts (am_qv N P I2) 18 [.ref 36, .int a1, .ref 37, .ref 38, .int l4_1, .int x.1] [] N P x.2 0 0) (by
        rintro ⟨l5_10, I_11⟩ rr hF ih_14 hE_15
        replace hF := am_u2_ap hF
        change G am_sc0 l d 0 0 mX10_weighParts (am_qv N P I2) 18 [.ref 36, .int a1, .ref 37, .ref 38, .int l4_1, .int l5_10] [] N P I_11 0 0
        refine g_iload (pc := 18) dX10_weighParts_18 rfl ?_
        refine g_aload_n (pc := 20) dX10_weighParts_20 rfl rfl ?_
        refine g_getR (pc := 21) (k := 36) (r := 1) kf_X10_21.r rfl rfl (hPl.get (by decide) rfl) (hPl.lt (by decide)) dX10_weighParts_21 ?_
        refine g_getI (pc := 24) (k := 1) kf_X10_68.r rfl rfl (hPl.lt (by decide)) dX10_weighParts_24 ?_
        refine g_icmp_ge (pc := 27) (tgt := 70) dX10_weighParts_27 rfl (fun c_18 => ?_) (fun c_18 => ?_)
        · replace hF := am_yes c_18 hF
          cases hF
          cases hE_15 _ rfl
          exact g_weak hX_13 ⟨Or.inr rfl, Or.inr rfl, Or.inr rfl, Or.inr rfl, Or.inr rfl, Or.inl rfl, trivial⟩
        · replace hF := am_no c_18 hF
          refine g_aload_n (pc := 30) dX10_weighParts_30 rfl rfl ?_
          refine g_iload (pc := 31) dX10_weighParts_31 rfl ?_
          refine g_iconst (pc := 33) (v := (4 : Int32)) dX10_weighParts_33 rfl ?_
          refine g_imul (pc := 34) dX10_weighParts_34 ?_
          refine g_iload (pc := 35) dX10_weighParts_35 rfl ?_
          refine g_iadd (pc := 37) dX10_weighParts_37 ?_
          refine g_aload_n (pc := 38) dX10_weighParts_38 rfl rfl ?_
          refine g_getR (pc := 39) (k := 36) (r := 23) kf_X10_25.r rfl rfl (hPl.get (by decide) rfl) (hPl.lt (by decide)) dX10_weighParts_39 ?_
          refine g_iload_n (pc := 42) dX10_weighParts_42 rfl rfl ?_
          refine g_iload (pc := 43) dX10_weighParts_43 rfl ?_
          obtain ⟨r_20, h_19, hF⟩ := am_b1_el hF
          refine g_cVi (pc := 45) (k := 23) (As := [.int a1, .int l4_1]) (st := [.int ((l4_1 * (4 : Int32)) + l5_10), .ref 38]) ky_X8_yardsOf kl_X10_71 (s_X8_yardsOf_23 (d := 1) (hPl) (Nat.le_refl _) h_19) rfl rfl rfl (hPl.lt (by decide)) (Nat.le_trans (by decide) hd) (Nat.le_of_ble_eq_true rfl) (Nat.le_refl _) (Nat.le_refl _) dX10_weighParts_45 ?_
          refine g_aload_n (pc := 48) dX10_weighParts_48 rfl rfl ?_
          refine g_getR (pc := 49) (k := 36) (r := 1) kf_X10_21.r rfl rfl (hPl.get (by decide) rfl) (hPl.lt (by decide)) dX10_weighParts_49 ?_
          refine g_getR (pc := 52) (k := 1) (r := 7) kf_X10_75 rfl rfl (hPl.get (by decide) rfl) (hPl.lt (by decide)) dX10_weighParts_52 ?_
          refine g_iload_n (pc := 55) dX10_weighParts_55 rfl rfl ?_
          refine g_iconst (pc := 56) (v := (4 : Int32)) dX10_weighParts_56 rfl ?_
          refine g_imul (pc := 57) dX10_weighParts_57 ?_
          refine g_iload (pc := 58) dX10_weighParts_58 rfl ?_
          refine g_iadd (pc := 60) dX10_weighParts_60 ?_
          obtain ⟨c_21, hF⟩ := am_gd hF
          refine g_iald (pc := 61) (k := 7) rfl (hPl.lt (by decide)) (am_ix_use c_21) dX10_weighParts_61 ?_
          refine g_imul (pc := 62) dX10_weighParts_62 ?_
          obtain ⟨c_22, hF⟩ := am_gd hF
          obtain ⟨I_23, e_I_23, hF⟩ := am_let_el hF
          refine n_iast (pc := 63) (k := 38) e_I_23 rfl (hPl.lt (by decide)) (am_ix_use c_22) dX10_weighParts_63 ?_
          obtain ⟨l5_24, e_l5_24, hF⟩ := am_let_el hF
          refine n_iinc (pc := 64) (ls2 := [.ref 36, .int a1, .ref 37, .ref 38, .int l4_1, .int l5_24]) e_l5_24 rfl rfl rfl dX10_weighParts_64 (Nat.le_of_ble_eq_true rfl) ?_
          refine g_goto (pc := 67) (tgt := 18) dX10_weighParts_67 rfl ?_
          cases hF
          exact ih_14 (l5_24, I_23) rfl
        ) _ _ hL_16
      exact hC
    ) _ _ hL_7
  exact hC
def F_X10_weighParts_36_37_39 (I : am_IT) (a1 : Int32) : Option (am_IT) := am_b1 (am_it am_fu (am_u2 (fun (l4_1 : Int32) (I_2 : am_IT) => if (I_2 1 3) ≤ l4_1 then (some (.inr (I_2))) else (am_b1 (am_it am_fu (am_u2 (fun (l5_10 : Int32) (I_11 : am_IT) => if (I_11 1 0) ≤ l5_10 then (some (.inr (I_11))) else (am_b1 (F_X8_yardsOf_23 I_11 a1 l4_1) (fun (r_20 : Int32) => if am_ix ((a1 * (4 : Int32)) + l5_10) 28 = true then (if am_ix ((l4_1 * (4 : Int32)) + l5_10) 28 = true then (am_let (up2 I_11 39 ((l4_1 * (4 : Int32)) + l5_10).toNatClampNeg (r_20 * (I_11 7 ((a1 * (4 : Int32)) + l5_10).toNatClampNeg))) (fun (I_23 : am_IT) => am_let (l5_10 + (1 : Int32)) (fun (l5_24 : Int32) => some (.inl (l5_24, I_23))))) else none) else none)))) ((0 : Int32), I_2)) (fun (I_12 : am_IT) => am_b1 (am_it am_fu (am_u2 (fun (l5_25 : Int32) (I_26 : am_IT) => if (I_26 1 3) ≤ l5_25 then (some (.inr (I_26))) else (if l5_25 = l4_1 then (am_let (l5_25 + (1 : Int32)) (fun (l5_35 : Int32) => some (.inl (l5_35, I_26)))) else (if am_ix l5_25 7 = true then (if am_ix ((l4_1 * (4 : Int32)) + (I_26 37 l5_25.toNatClampNeg)) 28 = true then (if am_ix a1 7 = true then (am_b1 (F_X8_worthOfTwo_23 I_26 a1 (I_26 4 a1.toNatClampNeg) l4_1 l5_25) (fun (r_40 : Int32) => if am_ix ((l4_1 * (4 : Int32)) + (I_26 37 l5_25.toNatClampNeg)) 28 = true then (am_let (up2 I_26 39 ((l4_1 * (4 : Int32)) + (I_26 37 l5_25.toNatClampNeg)).toNatClampNeg ((I_26 39 ((l4_1 * (4 : Int32)) + (I_26 37 l5_25.toNatClampNeg)).toNatClampNeg) + r_40)) (fun (I_42 : am_IT) => am_let (l5_25 + (1 : Int32)) (fun (l5_43 : Int32) => some (.inl (l5_43, I_42))))) else none)) else none) else none) else none)))) ((0 : Int32), I_12)) (fun (I_27 : am_IT) => am_let (l4_1 + (1 : Int32)) (fun (l4_44 : Int32) => some (.inl (l4_44, I_27)))))))) ((0 : Int32), I)) (fun (I_3 : am_IT) => some I_3)
set_option maxRecDepth 100000 in
set_option maxHeartbeats 4000000 in
theorem s_X10_weighParts_36_37_39 {l : Launch} {d N : Nat} {P : am_PT} (hPl : am_Pl 94 N P) (hd : 3 ≤ d) {I : am_IT} {a1 : Int32} {I2 : am_IT} (hF : F_X10_weighParts_36_37_39 I a1 = some (I2)) : am_C l d 0 0 mX10_weighParts [.ref 36, .int a1, .ref 37, .ref 39] N P I (am_qv N P I2) := by
  refine am_body (sc := am_sc0) (n := 2) (by decide +kernel) (by decide) rfl ?_
  change G am_sc0 l d 0 0 mX10_weighParts (am_qv N P I2) 0 [.ref 36, .int a1, .ref 37, .ref 39, .null, .null] [] N P I 0 0
  unfold F_X10_weighParts_36_37_39 at hF
  refine g_iconst (pc := 0) (v := (0 : Int32)) dX10_weighParts_0 rfl ?_
  refine n_istore (pc := 1) (ls2 := [.ref 36, .int a1, .ref 37, .ref 39, .int (0 : Int32), .null]) rfl rfl dX10_weighParts_1 (Nat.le_of_ble_eq_true rfl) ?_
  obtain ⟨I_3, hL_7, hF⟩ := am_b1_el hF
  have hX_4 : G am_sc0 l d 0 0 mX10_weighParts (am_qv N P I2) 139 [.ref 36, .int a1, .ref 37, .ref 39, .null, .null] [] N P I_3 0 0 := by
    cases hF
    exact g_vret (pc := 139) rfl (Nat.le_refl _) (Nat.le_refl _) dX10_weighParts_139 ⟨rfl, rfl, rfl, rfl⟩
  clear hF
  have hC := am_loop (C := fun x => G am_sc0 l d 0 0 mX10_weighParts (am_qv N P I2) 3 [.ref 36, .int a1, .ref 37, .ref 39, .int x.1, .null] [] N P x.2 0 0) (by
    rintro ⟨l4_1, I_2⟩ rr hF ih_5 hE_6
    replace hF := am_u2_ap hF
    change G am_sc0 l d 0 0 mX10_weighParts (am_qv N P I2) 3 [.ref 36, .int a1, .ref 37, .ref 39, .int l4_1, .null] [] N P I_2 0 0
    refine g_iload (pc := 3) dX10_weighParts_3 rfl ?_
    refine g_aload_n (pc := 5) dX10_weighParts_5 rfl rfl ?_
    refine g_getR (pc := 6) (k := 36) (r := 1) kf_X10_21.r rfl rfl (hPl.get (by decide) rfl) (hPl.lt (by decide)) dX10_weighParts_6 ?_
    refine g_getI (pc := 9) (k := 1) kf_X10_61.r rfl rfl (hPl.lt (by decide)) dX10_weighParts_9 ?_
    refine g_icmp_ge (pc := 12) (tgt := 139) dX10_weighParts_12 rfl (fun c_9 => ?_) (fun c_9 => ?_)
    · replace hF := am_yes c_9 hF
      cases hF
      cases hE_6 _ rfl
      exact g_weak hX_4 ⟨Or.inr rfl, Or.inr rfl, Or.inr rfl, Or.inr rfl, Or.inl rfl, Or.inl rfl, trivial⟩
    · replace hF := am_no c_9 hF
      refine g_iconst (pc := 15) (v := (0 : Int32)) dX10_weighParts_15 rfl ?_
      refine n_istore (pc := 16) (ls2 := [.ref 36, .int a1, .ref 37, .ref 39, .int l4_1, .int (0 : Int32)]) rfl rfl dX10_weighParts_16 (Nat.le_of_ble_eq_true rfl) ?_
      obtain ⟨I_12, hL_16, hF⟩ := am_b1_el hF
      have hX_13 : G am_sc0 l d 0 0 mX10_weighParts (am_qv N P I2) 70 [.ref 36, .int a1, .ref 37, .ref 39, .int l4_1, .null] [] N P I_12 0 0 := by
        refine g_iconst (pc := 70) (v := (0 : Int32)) dX10_weighParts_70 rfl ?_
        refine n_istore (pc := 71) (ls2 := [.ref 36, .int a1, .ref 37, .ref 39, .int l4_1, .int (0 : Int32)]) rfl rfl dX10_weighParts_71 (Nat.le_of_ble_eq_true rfl) ?_
        obtain ⟨I_27, hL_31, hF⟩ := am_b1_el hF
        have hX_28 : G am_sc0 l d 0 0 mX10_weighParts (am_qv N P I2) 133 [.ref 36, .int a1, .ref 37, .ref 39, .int l4_1, .null] [] N P I_27 0 0 := by
          obtain ⟨l4_44, e_l4_44, hF⟩ := am_let_el hF
          refine n_iinc (pc := 133) (ls2 := [.ref 36, .int a1, .ref 37, .ref 39, .int l4_44, .null]) e_l4_44 rfl rfl rfl dX10_weighParts_133 (Nat.le_of_ble_eq_true rfl) ?_
          refine g_goto (pc := 136) (tgt := 3) dX10_weighParts_136 rfl ?_
          cases hF
          exact ih_5 (l4_44, I_27) rfl
        clear hF
        have hC := am_loop (C := fun x => G am_sc0 l d 0 0 mX10_weighParts (am_qv N P I2) 73 [.ref 36, .int a1, .ref 37, .ref 39, .int l4_1, .int x.1] [] N P x.2 0 0) (by
          rintro ⟨l5_25, I_26⟩ rr hF ih_29 hE_30
          replace hF := am_u2_ap hF
          change G am_sc0 l d 0 0 mX10_weighParts (am_qv N P I2) 73 [.ref 36, .int a1, .ref 37, .ref 39, .int l4_1, .int l5_25] [] N P I_26 0 0
          refine g_iload (pc := 73) dX10_weighParts_73 rfl ?_
          refine g_aload_n (pc := 75) dX10_weighParts_75 rfl rfl ?_
          refine g_getR (pc := 76) (k := 36) (r := 1) kf_X10_21.r rfl rfl (hPl.get (by decide) rfl) (hPl.lt (by decide)) dX10_weighParts_76 ?_
          refine g_getI (pc := 79) (k := 1) kf_X10_61.r rfl rfl (hPl.lt (by decide)) dX10_weighParts_79 ?_
          refine g_icmp_ge (pc := 82) (tgt := 133) dX10_weighParts_82 rfl (fun c_33 => ?_) (fun c_33 => ?_)
          · replace hF := am_yes c_33 hF
            cases hF
            cases hE_30 _ rfl
            exact g_weak hX_28 ⟨Or.inr rfl, Or.inr rfl, Or.inr rfl, Or.inr rfl, Or.inr rfl, Or.inl rfl, trivial⟩
          · replace hF := am_no c_33 hF
            refine g_iload (pc := 85) dX10_weighParts_85 rfl ?_
            refine g_iload (pc := 87) dX10_weighParts_87 rfl ?_
            refine g_icmp_eq (pc := 89) (tgt := 127) dX10_weighParts_89 rfl (fun c_34 => ?_) (fun c_34 => ?_)
            · replace hF := am_yes c_34 hF
              obtain ⟨l5_35, e_l5_35, hF⟩ := am_let_el hF
              refine n_iinc (pc := 127) (ls2 := [.ref 36, .int a1, .ref 37, .ref 39, .int l4_1, .int l5_35]) e_l5_35 rfl rfl rfl dX10_weighParts_127 (Nat.le_of_ble_eq_true rfl) ?_
              refine g_goto (pc := 130) (tgt := 73) dX10_weighParts_130 rfl ?_
              cases hF
              exact ih_29 (l5_35, I_26) rfl
            · replace hF := am_no c_34 hF
              refine g_aload_n (pc := 92) dX10_weighParts_92 rfl rfl ?_
              refine g_iload (pc := 93) dX10_weighParts_93 rfl ?_
              refine g_iconst (pc := 95) (v := (4 : Int32)) dX10_weighParts_95 rfl ?_
              refine g_imul (pc := 96) dX10_weighParts_96 ?_
              refine g_aload_n (pc := 97) dX10_weighParts_97 rfl rfl ?_
              refine g_iload (pc := 98) dX10_weighParts_98 rfl ?_
              obtain ⟨c_36, hF⟩ := am_gd hF
              refine g_iald (pc := 100) (k := 37) rfl (hPl.lt (by decide)) (am_ix_use c_36) dX10_weighParts_100 ?_
              refine g_iadd (pc := 101) dX10_weighParts_101 ?_
              refine g_dup2 (pc := 102) dX10_weighParts_102 ?_
              obtain ⟨c_37, hF⟩ := am_gd hF
              refine g_iald (pc := 103) (k := 39) rfl (hPl.lt (by decide)) (am_ix_use c_37) dX10_weighParts_103 ?_
              refine g_aload_n (pc := 104) dX10_weighParts_104 rfl rfl ?_
              refine g_getR (pc := 105) (k := 36) (r := 23) kf_X10_25.r rfl rfl (hPl.get (by decide) rfl) (hPl.lt (by decide)) dX10_weighParts_105 ?_
              refine g_iload_n (pc := 108) dX10_weighParts_108 rfl rfl ?_
              refine g_aload_n (pc := 109) dX10_weighParts_109 rfl rfl ?_
              refine g_getR (pc := 110) (k := 36) (r := 1) kf_X10_21.r rfl rfl (hPl.get (by decide) rfl) (hPl.lt (by decide)) dX10_weighParts_110 ?_
              refine g_getR (pc := 113) (k := 1) (r := 4) kf_X10_78 rfl rfl (hPl.get (by decide) rfl) (hPl.lt (by decide)) dX10_weighParts_113 ?_
              refine g_iload_n (pc := 116) dX10_weighParts_116 rfl rfl ?_
              obtain ⟨c_38, hF⟩ := am_gd hF
              refine g_iald (pc := 117) (k := 4) rfl (hPl.lt (by decide)) (am_ix_use c_38) dX10_weighParts_117 ?_
              refine g_iload (pc := 118) dX10_weighParts_118 rfl ?_
              refine g_iload (pc := 120) dX10_weighParts_120 rfl ?_
              obtain ⟨r_40, h_39, hF⟩ := am_b1_el hF
              refine g_cVi (pc := 122) (k := 23) (As := [.int a1, .int (I_26 4 a1.toNatClampNeg), .int l4_1, .int l5_25]) (st := [.int (I_26 39 ((l4_1 * (4 : Int32)) + (I_26 37 l5_25.toNatClampNeg)).toNatClampNeg), .int ((l4_1 * (4 : Int32)) + (I_26 37 l5_25.toNatClampNeg)), .ref 39]) ky_X8_worthOfTwo kl_X10_81 (s_X8_worthOfTwo_23 (d := 2) (hPl) (Nat.le_refl _) h_39) rfl rfl rfl (hPl.lt (by decide)) (Nat.le_trans (by decide) hd) (Nat.le_of_ble_eq_true rfl) (Nat.le_refl _) (Nat.le_refl _) dX10_weighParts_122 ?_
              refine g_iadd (pc := 125) dX10_weighParts_125 ?_
              obtain ⟨c_41, hF⟩ := am_gd hF
              obtain ⟨I_42, e_I_42, hF⟩ := am_let_el hF
              refine n_iast (pc := 126) (k := 39) e_I_42 rfl (hPl.lt (by decide)) (am_ix_use c_41) dX10_weighParts_126 ?_
              obtain ⟨l5_43, e_l5_43, hF⟩ := am_let_el hF
              refine n_iinc (pc := 127) (ls2 := [.ref 36, .int a1, .ref 37, .ref 39, .int l4_1, .int l5_43]) e_l5_43 rfl rfl rfl dX10_weighParts_127 (Nat.le_of_ble_eq_true rfl) ?_
              refine g_goto (pc := 130) (tgt := 73) dX10_weighParts_130 rfl ?_
              cases hF
              exact ih_29 (l5_43, I_42) rfl
          ) _ _ hL_31
        exact hC
      clear hF
      have hC := am_loop (C := fun x => G am_sc0 l d 0 0 mX10_weighParts (am_qv N P I2) 18 [.ref 36, .int a1, .ref 37, .ref 39, .int l4_1, .int x.1] [] N P x.2 0 0) (by
        rintro ⟨l5_10, I_11⟩ rr hF ih_14 hE_15
        replace hF := am_u2_ap hF
        change G am_sc0 l d 0 0 mX10_weighParts (am_qv N P I2) 18 [.ref 36, .int a1, .ref 37, .ref 39, .int l4_1, .int l5_10] [] N P I_11 0 0
        refine g_iload (pc := 18) dX10_weighParts_18 rfl ?_
        refine g_aload_n (pc := 20) dX10_weighParts_20 rfl rfl ?_
        refine g_getR (pc := 21) (k := 36) (r := 1) kf_X10_21.r rfl rfl (hPl.get (by decide) rfl) (hPl.lt (by decide)) dX10_weighParts_21 ?_
        refine g_getI (pc := 24) (k := 1) kf_X10_68.r rfl rfl (hPl.lt (by decide)) dX10_weighParts_24 ?_
        refine g_icmp_ge (pc := 27) (tgt := 70) dX10_weighParts_27 rfl (fun c_18 => ?_) (fun c_18 => ?_)
        · replace hF := am_yes c_18 hF
          cases hF
          cases hE_15 _ rfl
          exact g_weak hX_13 ⟨Or.inr rfl, Or.inr rfl, Or.inr rfl, Or.inr rfl, Or.inr rfl, Or.inl rfl, trivial⟩
        · replace hF := am_no c_18 hF
          refine g_aload_n (pc := 30) dX10_weighParts_30 rfl rfl ?_
          refine g_iload (pc := 31) dX10_weighParts_31 rfl ?_
          refine g_iconst (pc := 33) (v := (4 : Int32)) dX10_weighParts_33 rfl ?_
          refine g_imul (pc := 34) dX10_weighParts_34 ?_
          refine g_iload (pc := 35) dX10_weighParts_35 rfl ?_
          refine g_iadd (pc := 37) dX10_weighParts_37 ?_
          refine g_aload_n (pc := 38) dX10_weighParts_38 rfl rfl ?_
          refine g_getR (pc := 39) (k := 36) (r := 23) kf_X10_25.r rfl rfl (hPl.get (by decide) rfl) (hPl.lt (by decide)) dX10_weighParts_39 ?_
          refine g_iload_n (pc := 42) dX10_weighParts_42 rfl rfl ?_
          refine g_iload (pc := 43) dX10_weighParts_43 rfl ?_
          obtain ⟨r_20, h_19, hF⟩ := am_b1_el hF
          refine g_cVi (pc := 45) (k := 23) (As := [.int a1, .int l4_1]) (st := [.int ((l4_1 * (4 : Int32)) + l5_10), .ref 39]) ky_X8_yardsOf kl_X10_71 (s_X8_yardsOf_23 (d := 1) (hPl) (Nat.le_refl _) h_19) rfl rfl rfl (hPl.lt (by decide)) (Nat.le_trans (by decide) hd) (Nat.le_of_ble_eq_true rfl) (Nat.le_refl _) (Nat.le_refl _) dX10_weighParts_45 ?_
          refine g_aload_n (pc := 48) dX10_weighParts_48 rfl rfl ?_
          refine g_getR (pc := 49) (k := 36) (r := 1) kf_X10_21.r rfl rfl (hPl.get (by decide) rfl) (hPl.lt (by decide)) dX10_weighParts_49 ?_
          refine g_getR (pc := 52) (k := 1) (r := 7) kf_X10_75 rfl rfl (hPl.get (by decide) rfl) (hPl.lt (by decide)) dX10_weighParts_52 ?_
          refine g_iload_n (pc := 55) dX10_weighParts_55 rfl rfl ?_
          refine g_iconst (pc := 56) (v := (4 : Int32)) dX10_weighParts_56 rfl ?_
          refine g_imul (pc := 57) dX10_weighParts_57 ?_
          refine g_iload (pc := 58) dX10_weighParts_58 rfl ?_
          refine g_iadd (pc := 60) dX10_weighParts_60 ?_
          obtain ⟨c_21, hF⟩ := am_gd hF
          refine g_iald (pc := 61) (k := 7) rfl (hPl.lt (by decide)) (am_ix_use c_21) dX10_weighParts_61 ?_
          refine g_imul (pc := 62) dX10_weighParts_62 ?_
          obtain ⟨c_22, hF⟩ := am_gd hF
          obtain ⟨I_23, e_I_23, hF⟩ := am_let_el hF
          refine n_iast (pc := 63) (k := 39) e_I_23 rfl (hPl.lt (by decide)) (am_ix_use c_22) dX10_weighParts_63 ?_
          obtain ⟨l5_24, e_l5_24, hF⟩ := am_let_el hF
          refine n_iinc (pc := 64) (ls2 := [.ref 36, .int a1, .ref 37, .ref 39, .int l4_1, .int l5_24]) e_l5_24 rfl rfl rfl dX10_weighParts_64 (Nat.le_of_ble_eq_true rfl) ?_
          refine g_goto (pc := 67) (tgt := 18) dX10_weighParts_67 rfl ?_
          cases hF
          exact ih_14 (l5_24, I_23) rfl
        ) _ _ hL_16
      exact hC
    ) _ _ hL_7
  exact hC
def F_X10_change_38_37 (I : am_IT) (a2 : Int32) (a3 : Int32) (a4 : Int32) (a5 : Int32) : Option (Int32) := if am_ix ((a2 * (4 : Int32)) + a4) 28 = true then (if am_ix a2 7 = true then (if am_ix ((a2 * (4 : Int32)) + (I 37 a2.toNatClampNeg)) 28 = true then (am_let ((I 38 ((a2 * (4 : Int32)) + a4).toNatClampNeg) - (I 38 ((a2 * (4 : Int32)) + (I 37 a2.toNatClampNeg)).toNatClampNeg)) (fun (l6_4 : Int32) => if am_ix ((a3 * (4 : Int32)) + a5) 28 = true then (if am_ix a3 7 = true then (if am_ix ((a3 * (4 : Int32)) + (I 37 a3.toNatClampNeg)) 28 = true then (am_let ((I 38 ((a3 * (4 : Int32)) + a5).toNatClampNeg) - (I 38 ((a3 * (4 : Int32)) + (I 37 a3.toNatClampNeg)).toNatClampNeg)) (fun (l7_8 : Int32) => some (l6_4 + l7_8))) else none) else none) else none)) else none) else none) else none
set_option maxRecDepth 100000 in
set_option maxHeartbeats 4000000 in
theorem s_X10_change_38_37 {l : Launch} {d N : Nat} {P : am_PT} (hPl : am_Pl 94 N P) (hd : 1 ≤ d) {I : am_IT} {a2 : Int32} {a3 : Int32} {a4 : Int32} {a5 : Int32} {r : Int32} (hF : F_X10_change_38_37 I a2 a3 a4 a5 = some (r)) : am_C l d 0 0 mX10_change [.ref 38, .int a2, .int a3, .int a4, .int a5, .ref 37] N P I (am_qi r N P I) := by
  refine am_body (sc := am_sc0) (n := 2) (by decide +kernel) (by decide) rfl ?_
  change G am_sc0 l d 0 0 mX10_change (am_qi r N P I) 0 [.ref 38, .int a2, .int a3, .int a4, .int a5, .ref 37, .null, .null] [] N P I 0 0
  unfold F_X10_change_38_37 at hF
  refine g_aload_n (pc := 0) dX10_change_0 rfl rfl ?_
  refine g_iload_n (pc := 1) dX10_change_1 rfl rfl ?_
  refine g_iconst (pc := 2) (v := (4 : Int32)) dX10_change_2 rfl ?_
  refine g_imul (pc := 3) dX10_change_3 ?_
  refine g_iload_n (pc := 4) dX10_change_4 rfl rfl ?_
  refine g_iadd (pc := 5) dX10_change_5 ?_
  obtain ⟨c_1, hF⟩ := am_gd hF
  refine g_iald (pc := 6) (k := 38) rfl (hPl.lt (by decide)) (am_ix_use c_1) dX10_change_6 ?_
  refine g_aload_n (pc := 7) dX10_change_7 rfl rfl ?_
  refine g_iload_n (pc := 8) dX10_change_8 rfl rfl ?_
  refine g_iconst (pc := 9) (v := (4 : Int32)) dX10_change_9 rfl ?_
  refine g_imul (pc := 10) dX10_change_10 ?_
  refine g_aload (pc := 11) dX10_change_11 rfl ?_
  refine g_iload_n (pc := 13) dX10_change_13 rfl rfl ?_
  obtain ⟨c_2, hF⟩ := am_gd hF
  refine g_iald (pc := 14) (k := 37) rfl (hPl.lt (by decide)) (am_ix_use c_2) dX10_change_14 ?_
  refine g_iadd (pc := 15) dX10_change_15 ?_
  obtain ⟨c_3, hF⟩ := am_gd hF
  refine g_iald (pc := 16) (k := 38) rfl (hPl.lt (by decide)) (am_ix_use c_3) dX10_change_16 ?_
  refine g_isub (pc := 17) dX10_change_17 ?_
  obtain ⟨l6_4, e_l6_4, hF⟩ := am_let_el hF
  refine n_istore (pc := 18) (ls2 := [.ref 38, .int a2, .int a3, .int a4, .int a5, .ref 37, .int l6_4, .null]) e_l6_4 rfl dX10_change_18 (Nat.le_of_ble_eq_true rfl) ?_
  refine g_aload_n (pc := 20) dX10_change_20 rfl rfl ?_
  refine g_iload_n (pc := 21) dX10_change_21 rfl rfl ?_
  refine g_iconst (pc := 22) (v := (4 : Int32)) dX10_change_22 rfl ?_
  refine g_imul (pc := 23) dX10_change_23 ?_
  refine g_iload (pc := 24) dX10_change_24 rfl ?_
  refine g_iadd (pc := 26) dX10_change_26 ?_
  obtain ⟨c_5, hF⟩ := am_gd hF
  refine g_iald (pc := 27) (k := 38) rfl (hPl.lt (by decide)) (am_ix_use c_5) dX10_change_27 ?_
  refine g_aload_n (pc := 28) dX10_change_28 rfl rfl ?_
  refine g_iload_n (pc := 29) dX10_change_29 rfl rfl ?_
  refine g_iconst (pc := 30) (v := (4 : Int32)) dX10_change_30 rfl ?_
  refine g_imul (pc := 31) dX10_change_31 ?_
  refine g_aload (pc := 32) dX10_change_32 rfl ?_
  refine g_iload_n (pc := 34) dX10_change_34 rfl rfl ?_
  obtain ⟨c_6, hF⟩ := am_gd hF
  refine g_iald (pc := 35) (k := 37) rfl (hPl.lt (by decide)) (am_ix_use c_6) dX10_change_35 ?_
  refine g_iadd (pc := 36) dX10_change_36 ?_
  obtain ⟨c_7, hF⟩ := am_gd hF
  refine g_iald (pc := 37) (k := 38) rfl (hPl.lt (by decide)) (am_ix_use c_7) dX10_change_37 ?_
  refine g_isub (pc := 38) dX10_change_38 ?_
  obtain ⟨l7_8, e_l7_8, hF⟩ := am_let_el hF
  refine n_istore (pc := 39) (ls2 := [.ref 38, .int a2, .int a3, .int a4, .int a5, .ref 37, .int l6_4, .int l7_8]) e_l7_8 rfl dX10_change_39 (Nat.le_of_ble_eq_true rfl) ?_
  refine g_iload (pc := 41) dX10_change_41 rfl ?_
  refine g_iload (pc := 43) dX10_change_43 rfl ?_
  refine g_iadd (pc := 45) dX10_change_45 ?_
  cases hF
  exact g_iret (pc := 46) rfl (Nat.le_refl _) (Nat.le_refl _) dX10_change_46 ⟨rfl, rfl, rfl, rfl⟩
def F_X10_change_39_37 (I : am_IT) (a2 : Int32) (a3 : Int32) (a4 : Int32) (a5 : Int32) : Option (Int32) := if am_ix ((a2 * (4 : Int32)) + a4) 28 = true then (if am_ix a2 7 = true then (if am_ix ((a2 * (4 : Int32)) + (I 37 a2.toNatClampNeg)) 28 = true then (am_let ((I 39 ((a2 * (4 : Int32)) + a4).toNatClampNeg) - (I 39 ((a2 * (4 : Int32)) + (I 37 a2.toNatClampNeg)).toNatClampNeg)) (fun (l6_4 : Int32) => if am_ix ((a3 * (4 : Int32)) + a5) 28 = true then (if am_ix a3 7 = true then (if am_ix ((a3 * (4 : Int32)) + (I 37 a3.toNatClampNeg)) 28 = true then (am_let ((I 39 ((a3 * (4 : Int32)) + a5).toNatClampNeg) - (I 39 ((a3 * (4 : Int32)) + (I 37 a3.toNatClampNeg)).toNatClampNeg)) (fun (l7_8 : Int32) => some (l6_4 + l7_8))) else none) else none) else none)) else none) else none) else none
set_option maxRecDepth 100000 in
set_option maxHeartbeats 4000000 in
theorem s_X10_change_39_37 {l : Launch} {d N : Nat} {P : am_PT} (hPl : am_Pl 94 N P) (hd : 1 ≤ d) {I : am_IT} {a2 : Int32} {a3 : Int32} {a4 : Int32} {a5 : Int32} {r : Int32} (hF : F_X10_change_39_37 I a2 a3 a4 a5 = some (r)) : am_C l d 0 0 mX10_change [.ref 39, .int a2, .int a3, .int a4, .int a5, .ref 37] N P I (am_qi r N P I) := by
  refine am_body (sc := am_sc0) (n := 2) (by decide +kernel) (by decide) rfl ?_
  change G am_sc0 l d 0 0 mX10_change (am_qi r N P I) 0 [.ref 39, .int a2, .int a3, .int a4, .int a5, .ref 37, .null, .null] [] N P I 0 0
  unfold F_X10_change_39_37 at hF
  refine g_aload_n (pc := 0) dX10_change_0 rfl rfl ?_
  refine g_iload_n (pc := 1) dX10_change_1 rfl rfl ?_
  refine g_iconst (pc := 2) (v := (4 : Int32)) dX10_change_2 rfl ?_
  refine g_imul (pc := 3) dX10_change_3 ?_
  refine g_iload_n (pc := 4) dX10_change_4 rfl rfl ?_
  refine g_iadd (pc := 5) dX10_change_5 ?_
  obtain ⟨c_1, hF⟩ := am_gd hF
  refine g_iald (pc := 6) (k := 39) rfl (hPl.lt (by decide)) (am_ix_use c_1) dX10_change_6 ?_
  refine g_aload_n (pc := 7) dX10_change_7 rfl rfl ?_
  refine g_iload_n (pc := 8) dX10_change_8 rfl rfl ?_
  refine g_iconst (pc := 9) (v := (4 : Int32)) dX10_change_9 rfl ?_
  refine g_imul (pc := 10) dX10_change_10 ?_
  refine g_aload (pc := 11) dX10_change_11 rfl ?_
  refine g_iload_n (pc := 13) dX10_change_13 rfl rfl ?_
  obtain ⟨c_2, hF⟩ := am_gd hF
  refine g_iald (pc := 14) (k := 37) rfl (hPl.lt (by decide)) (am_ix_use c_2) dX10_change_14 ?_
  refine g_iadd (pc := 15) dX10_change_15 ?_
  obtain ⟨c_3, hF⟩ := am_gd hF
  refine g_iald (pc := 16) (k := 39) rfl (hPl.lt (by decide)) (am_ix_use c_3) dX10_change_16 ?_
  refine g_isub (pc := 17) dX10_change_17 ?_
  obtain ⟨l6_4, e_l6_4, hF⟩ := am_let_el hF
  refine n_istore (pc := 18) (ls2 := [.ref 39, .int a2, .int a3, .int a4, .int a5, .ref 37, .int l6_4, .null]) e_l6_4 rfl dX10_change_18 (Nat.le_of_ble_eq_true rfl) ?_
  refine g_aload_n (pc := 20) dX10_change_20 rfl rfl ?_
  refine g_iload_n (pc := 21) dX10_change_21 rfl rfl ?_
  refine g_iconst (pc := 22) (v := (4 : Int32)) dX10_change_22 rfl ?_
  refine g_imul (pc := 23) dX10_change_23 ?_
  refine g_iload (pc := 24) dX10_change_24 rfl ?_
  refine g_iadd (pc := 26) dX10_change_26 ?_
  obtain ⟨c_5, hF⟩ := am_gd hF
  refine g_iald (pc := 27) (k := 39) rfl (hPl.lt (by decide)) (am_ix_use c_5) dX10_change_27 ?_
  refine g_aload_n (pc := 28) dX10_change_28 rfl rfl ?_
  refine g_iload_n (pc := 29) dX10_change_29 rfl rfl ?_
  refine g_iconst (pc := 30) (v := (4 : Int32)) dX10_change_30 rfl ?_
  refine g_imul (pc := 31) dX10_change_31 ?_
  refine g_aload (pc := 32) dX10_change_32 rfl ?_
  refine g_iload_n (pc := 34) dX10_change_34 rfl rfl ?_
  obtain ⟨c_6, hF⟩ := am_gd hF
  refine g_iald (pc := 35) (k := 37) rfl (hPl.lt (by decide)) (am_ix_use c_6) dX10_change_35 ?_
  refine g_iadd (pc := 36) dX10_change_36 ?_
  obtain ⟨c_7, hF⟩ := am_gd hF
  refine g_iald (pc := 37) (k := 39) rfl (hPl.lt (by decide)) (am_ix_use c_7) dX10_change_37 ?_
  refine g_isub (pc := 38) dX10_change_38 ?_
  obtain ⟨l7_8, e_l7_8, hF⟩ := am_let_el hF
  refine n_istore (pc := 39) (ls2 := [.ref 39, .int a2, .int a3, .int a4, .int a5, .ref 37, .int l6_4, .int l7_8]) e_l7_8 rfl dX10_change_39 (Nat.le_of_ble_eq_true rfl) ?_
  refine g_iload (pc := 41) dX10_change_41 rfl ?_
  refine g_iload (pc := 43) dX10_change_43 rfl ?_
  refine g_iadd (pc := 45) dX10_change_45 ?_
  cases hF
  exact g_iret (pc := 46) rfl (Nat.le_refl _) (Nat.le_refl _) dX10_change_46 ⟨rfl, rfl, rfl, rfl⟩
def F_X10_hasRepainted_36_37 (I : am_IT) (a1 : Int32) (a2 : Int32) (a3 : Int32) (a4 : Int32) : Option (Int32 × am_IT) := if am_ix a1 7 = true then (am_b1 (F_X8_worthOfTwo_23 I a1 (I 4 a1.toNatClampNeg) a3 a4) (fun (r_3 : Int32) => if am_ix a2 7 = true then (am_b1 (F_X8_worthOfTwo_23 I a2 (I 4 a2.toNatClampNeg) a3 a4) (fun (r_6 : Int32) => am_lr (am_it am_fu (am_u2 (fun (l8_7 : Int32) (I_8 : am_IT) => if (I_8 1 0) ≤ l8_7 then (some (.inr (.inl (I_8)))) else (am_lr (am_it am_fu (am_u2 (fun (l9_16 : Int32) (I_17 : am_IT) => if (I_17 1 0) ≤ l9_16 then (some (.inr (.inl (I_17)))) else (if am_ix a3 7 = true then (if am_ix a4 7 = true then (am_b1 (F_X10_pairsGained I_17 (I_17 37 a3.toNatClampNeg) (I_17 37 a4.toNatClampNeg) l8_7 l9_16) (fun (r_28 : Int32) => am_b1 (F_X10_change_38_37 I_17 a3 a4 l8_7 l9_16) (fun (r_30 : Int32) => if (r_30 + (r_28 * r_3)) ≤ 0 then (am_let (l9_16 + (1 : Int32)) (fun (l9_32 : Int32) => some (.inl (l9_32, I_17)))) else (am_b1 (F_X10_change_39_37 I_17 a3 a4 l8_7 l9_16) (fun (r_34 : Int32) => if (r_34 + (r_28 * r_6)) ≤ 0 then (am_let (l9_16 + (1 : Int32)) (fun (l9_36 : Int32) => some (.inl (l9_36, I_17)))) else (if am_ix a3 7 = true then (am_let (up2 I_17 37 a3.toNatClampNeg l8_7) (fun (I_38 : am_IT) => if am_ix a4 7 = true then (am_let (up2 I_38 37 a4.toNatClampNeg l9_16) (fun (I_40 : am_IT) => some (.inr (.inr (.inr (.inr ((1 : Int32), I_40))))))) else none)) else none)))))) else none) else none))) ((0 : Int32), I_8)) (fun (I_18 : am_IT) => am_let (l8_7 + (1 : Int32)) (fun (l8_43 : Int32) => some (.inl (l8_43, I_18))))))) ((0 : Int32), I)) (fun (I_9 : am_IT) => some ((0 : Int32), I_9)))) else none)) else none
set_option maxRecDepth 100000 in
set_option maxHeartbeats 4000000 in
theorem s_X10_hasRepainted_36_37 {l : Launch} {d N : Nat} {P : am_PT} (hPl : am_Pl 94 N P) (hd : 3 ≤ d) {I : am_IT} {a1 : Int32} {a2 : Int32} {a3 : Int32} {a4 : Int32} {r : Int32} {I2 : am_IT} (hF : F_X10_hasRepainted_36_37 I a1 a2 a3 a4 = some (r, I2)) : am_C l d 0 0 mX10_hasRepainted [.ref 36, .int a1, .int a2, .int a3, .int a4, .ref 37] N P I (am_qz r N P I2) := by
  refine am_body (sc := am_sc0) (n := 5) (by decide +kernel) (by decide) rfl ?_
  change G am_sc0 l d 0 0 mX10_hasRepainted (am_qz r N P I2) 0 [.ref 36, .int a1, .int a2, .int a3, .int a4, .ref 37, .null, .null, .null, .null, .null] [] N P I 0 0
  unfold F_X10_hasRepainted_36_37 at hF
  refine g_aload_n (pc := 0) dX10_hasRepainted_0 rfl rfl ?_
  refine g_getR (pc := 1) (k := 36) (r := 23) kf_X10_25.r rfl rfl (hPl.get (by decide) rfl) (hPl.lt (by decide)) dX10_hasRepainted_1 ?_
  refine g_iload_n (pc := 4) dX10_hasRepainted_4 rfl rfl ?_
  refine g_aload_n (pc := 5) dX10_hasRepainted_5 rfl rfl ?_
  refine g_getR (pc := 6) (k := 36) (r := 1) kf_X10_21.r rfl rfl (hPl.get (by decide) rfl) (hPl.lt (by decide)) dX10_hasRepainted_6 ?_
  refine g_getR (pc := 9) (k := 1) (r := 4) kf_X10_78 rfl rfl (hPl.get (by decide) rfl) (hPl.lt (by decide)) dX10_hasRepainted_9 ?_
  refine g_iload_n (pc := 12) dX10_hasRepainted_12 rfl rfl ?_
  obtain ⟨c_1, hF⟩ := am_gd hF
  refine g_iald (pc := 13) (k := 4) rfl (hPl.lt (by decide)) (am_ix_use c_1) dX10_hasRepainted_13 ?_
  refine g_iload_n (pc := 14) dX10_hasRepainted_14 rfl rfl ?_
  refine g_iload (pc := 15) dX10_hasRepainted_15 rfl ?_
  obtain ⟨r_3, h_2, hF⟩ := am_b1_el hF
  refine g_cVi (pc := 17) (k := 23) (As := [.int a1, .int (I 4 a1.toNatClampNeg), .int a3, .int a4]) (st := []) ky_X8_worthOfTwo kl_X10_81 (s_X8_worthOfTwo_23 (d := 2) (hPl) (Nat.le_refl _) h_2) rfl rfl rfl (hPl.lt (by decide)) (Nat.le_trans (by decide) hd) (Nat.le_of_ble_eq_true rfl) (Nat.le_refl _) (Nat.le_refl _) dX10_hasRepainted_17 ?_
  refine n_istore (pc := 20) (ls2 := [.ref 36, .int a1, .int a2, .int a3, .int a4, .ref 37, .int r_3, .null, .null, .null, .null]) rfl rfl dX10_hasRepainted_20 (Nat.le_of_ble_eq_true rfl) ?_
  refine g_aload_n (pc := 22) dX10_hasRepainted_22 rfl rfl ?_
  refine g_getR (pc := 23) (k := 36) (r := 23) kf_X10_25.r rfl rfl (hPl.get (by decide) rfl) (hPl.lt (by decide)) dX10_hasRepainted_23 ?_
  refine g_iload_n (pc := 26) dX10_hasRepainted_26 rfl rfl ?_
  refine g_aload_n (pc := 27) dX10_hasRepainted_27 rfl rfl ?_
  refine g_getR (pc := 28) (k := 36) (r := 1) kf_X10_21.r rfl rfl (hPl.get (by decide) rfl) (hPl.lt (by decide)) dX10_hasRepainted_28 ?_
  refine g_getR (pc := 31) (k := 1) (r := 4) kf_X10_78 rfl rfl (hPl.get (by decide) rfl) (hPl.lt (by decide)) dX10_hasRepainted_31 ?_
  refine g_iload_n (pc := 34) dX10_hasRepainted_34 rfl rfl ?_
  obtain ⟨c_4, hF⟩ := am_gd hF
  refine g_iald (pc := 35) (k := 4) rfl (hPl.lt (by decide)) (am_ix_use c_4) dX10_hasRepainted_35 ?_
  refine g_iload_n (pc := 36) dX10_hasRepainted_36 rfl rfl ?_
  refine g_iload (pc := 37) dX10_hasRepainted_37 rfl ?_
  obtain ⟨r_6, h_5, hF⟩ := am_b1_el hF
  refine g_cVi (pc := 39) (k := 23) (As := [.int a2, .int (I 4 a2.toNatClampNeg), .int a3, .int a4]) (st := []) ky_X8_worthOfTwo kl_X10_81 (s_X8_worthOfTwo_23 (d := 2) (hPl) (Nat.le_refl _) h_5) rfl rfl rfl (hPl.lt (by decide)) (Nat.le_trans (by decide) hd) (Nat.le_of_ble_eq_true rfl) (Nat.le_refl _) (Nat.le_refl _) dX10_hasRepainted_39 ?_
  refine n_istore (pc := 42) (ls2 := [.ref 36, .int a1, .int a2, .int a3, .int a4, .ref 37, .int r_3, .int r_6, .null, .null, .null]) rfl rfl dX10_hasRepainted_42 (Nat.le_of_ble_eq_true rfl) ?_
  refine g_iconst (pc := 44) (v := (0 : Int32)) dX10_hasRepainted_44 rfl ?_
  refine n_istore (pc := 45) (ls2 := [.ref 36, .int a1, .int a2, .int a3, .int a4, .ref 37, .int r_3, .int r_6, .int (0 : Int32), .null, .null]) rfl rfl dX10_hasRepainted_45 (Nat.le_of_ble_eq_true rfl) ?_
  obtain ⟨x_45, hL_13, hF⟩ := am_lr_el hF
  have hX_10 : ∀ (I_9 : am_IT), x_45 = .inl I_9 → G am_sc0 l d 0 0 mX10_hasRepainted (am_qz r N P I2) 169 [.ref 36, .int a1, .int a2, .int a3, .int a4, .ref 37, .int r_3, .int r_6, .null, .null, .null] [] N P I_9 0 0 := by
    intro I_9 q
    subst q
    refine g_iconst (pc := 169) (v := (0 : Int32)) dX10_hasRepainted_169 rfl ?_
    cases hF
    exact g_zret (pc := 170) rfl (Or.inl rfl) (Nat.le_refl _) (Nat.le_refl _) dX10_hasRepainted_170 ⟨(Or.inl rfl), rfl, rfl, rfl, rfl⟩
  have hZ_14 : ∀ y, x_45 = .inr y → y = _ := fun y q => by subst q; exact hF
  clear hF
  have hC := am_loop (C := fun x => G am_sc0 l d 0 0 mX10_hasRepainted (am_qz r N P I2) 47 [.ref 36, .int a1, .int a2, .int a3, .int a4, .ref 37, .int r_3, .int r_6, .int x.1, .null, .null] [] N P x.2 0 0) (by
    rintro ⟨l8_7, I_8⟩ rr hF ih_11 hE_12
    replace hF := am_u2_ap hF
    change G am_sc0 l d 0 0 mX10_hasRepainted (am_qz r N P I2) 47 [.ref 36, .int a1, .int a2, .int a3, .int a4, .ref 37, .int r_3, .int r_6, .int l8_7, .null, .null] [] N P I_8 0 0
    refine g_iload (pc := 47) dX10_hasRepainted_47 rfl ?_
    refine g_aload_n (pc := 49) dX10_hasRepainted_49 rfl rfl ?_
    refine g_getR (pc := 50) (k := 36) (r := 1) kf_X10_21.r rfl rfl (hPl.get (by decide) rfl) (hPl.lt (by decide)) dX10_hasRepainted_50 ?_
    refine g_getI (pc := 53) (k := 1) kf_X10_68.r rfl rfl (hPl.lt (by decide)) dX10_hasRepainted_53 ?_
    refine g_icmp_ge (pc := 56) (tgt := 169) dX10_hasRepainted_56 rfl (fun c_15 => ?_) (fun c_15 => ?_)
    · replace hF := am_yes c_15 hF
      cases hF
      exact g_weak (hX_10 _ (hE_12 _ rfl).symm) ⟨Or.inr rfl, Or.inr rfl, Or.inr rfl, Or.inr rfl, Or.inr rfl, Or.inr rfl, Or.inr rfl, Or.inr rfl, Or.inl rfl, Or.inl rfl, Or.inl rfl, trivial⟩
    · replace hF := am_no c_15 hF
      refine g_iconst (pc := 59) (v := (0 : Int32)) dX10_hasRepainted_59 rfl ?_
      refine n_istore (pc := 60) (ls2 := [.ref 36, .int a1, .int a2, .int a3, .int a4, .ref 37, .int r_3, .int r_6, .int l8_7, .int (0 : Int32), .null]) rfl rfl dX10_hasRepainted_60 (Nat.le_of_ble_eq_true rfl) ?_
      obtain ⟨x_44, hL_22, hF⟩ := am_lr_el hF
      have hX_19 : ∀ (I_18 : am_IT), x_44 = .inl I_18 → G am_sc0 l d 0 0 mX10_hasRepainted (am_qz r N P I2) 163 [.ref 36, .int a1, .int a2, .int a3, .int a4, .ref 37, .int r_3, .int r_6, .int l8_7, .null, .null] [] N P I_18 0 0 := by
        intro I_18 q
        subst q
        obtain ⟨l8_43, e_l8_43, hF⟩ := am_let_el hF
        refine n_iinc (pc := 163) (ls2 := [.ref 36, .int a1, .int a2, .int a3, .int a4, .ref 37, .int r_3, .int r_6, .int l8_43, .null, .null]) e_l8_43 rfl rfl rfl dX10_hasRepainted_163 (Nat.le_of_ble_eq_true rfl) ?_
        refine g_goto (pc := 166) (tgt := 47) dX10_hasRepainted_166 rfl ?_
        cases hF
        exact ih_11 (l8_43, I_18) rfl
      have hZ_23 : ∀ y, x_44 = .inr y → y = _ := fun y q => by subst q; exact hF
      clear hF
      have hC := am_loop (C := fun x => G am_sc0 l d 0 0 mX10_hasRepainted (am_qz r N P I2) 62 [.ref 36, .int a1, .int a2, .int a3, .int a4, .ref 37, .int r_3, .int r_6, .int l8_7, .int x.1, .null] [] N P x.2 0 0) (by
        rintro ⟨l9_16, I_17⟩ rr hF ih_20 hE_21
        replace hF := am_u2_ap hF
        change G am_sc0 l d 0 0 mX10_hasRepainted (am_qz r N P I2) 62 [.ref 36, .int a1, .int a2, .int a3, .int a4, .ref 37, .int r_3, .int r_6, .int l8_7, .int l9_16, .null] [] N P I_17 0 0
        refine g_iload (pc := 62) dX10_hasRepainted_62 rfl ?_
        refine g_aload_n (pc := 64) dX10_hasRepainted_64 rfl rfl ?_
        refine g_getR (pc := 65) (k := 36) (r := 1) kf_X10_21.r rfl rfl (hPl.get (by decide) rfl) (hPl.lt (by decide)) dX10_hasRepainted_65 ?_
        refine g_getI (pc := 68) (k := 1) kf_X10_68.r rfl rfl (hPl.lt (by decide)) dX10_hasRepainted_68 ?_
        refine g_icmp_ge (pc := 71) (tgt := 163) dX10_hasRepainted_71 rfl (fun c_24 => ?_) (fun c_24 => ?_)
        · replace hF := am_yes c_24 hF
          cases hF
          exact g_weak (hX_19 _ (hE_21 _ rfl).symm) ⟨Or.inr rfl, Or.inr rfl, Or.inr rfl, Or.inr rfl, Or.inr rfl, Or.inr rfl, Or.inr rfl, Or.inr rfl, Or.inr rfl, Or.inl rfl, Or.inl rfl, trivial⟩
        · replace hF := am_no c_24 hF
          refine g_aload (pc := 74) dX10_hasRepainted_74 rfl ?_
          refine g_iload_n (pc := 76) dX10_hasRepainted_76 rfl rfl ?_
          obtain ⟨c_25, hF⟩ := am_gd hF
          refine g_iald (pc := 77) (k := 37) rfl (hPl.lt (by decide)) (am_ix_use c_25) dX10_hasRepainted_77 ?_
          refine g_aload (pc := 78) dX10_hasRepainted_78 rfl ?_
          refine g_iload (pc := 80) dX10_hasRepainted_80 rfl ?_
          obtain ⟨c_26, hF⟩ := am_gd hF
          refine g_iald (pc := 82) (k := 37) rfl (hPl.lt (by decide)) (am_ix_use c_26) dX10_hasRepainted_82 ?_
          refine g_iload (pc := 83) dX10_hasRepainted_83 rfl ?_
          refine g_iload (pc := 85) dX10_hasRepainted_85 rfl ?_
          obtain ⟨r_28, h_27, hF⟩ := am_b1_el hF
          refine g_cSi (pc := 87) (As := [.int (I_17 37 a3.toNatClampNeg), .int (I_17 37 a4.toNatClampNeg), .int l8_7, .int l9_16]) (st := []) ky_X10_pairsGained kl_X10_85 (s_X10_pairsGained (d := 1) (hPl) (Nat.le_refl _) h_27) rfl rfl (Nat.le_trans (by decide) hd) (Nat.le_of_ble_eq_true rfl) (Nat.le_refl _) (Nat.le_refl _) dX10_hasRepainted_87 ?_
          refine n_istore (pc := 90) (ls2 := [.ref 36, .int a1, .int a2, .int a3, .int a4, .ref 37, .int r_3, .int r_6, .int l8_7, .int l9_16, .int r_28]) rfl rfl dX10_hasRepainted_90 (Nat.le_of_ble_eq_true rfl) ?_
          refine g_aload_n (pc := 92) dX10_hasRepainted_92 rfl rfl ?_
          refine g_getR (pc := 93) (k := 36) (r := 38) kf_X10_15.r rfl rfl (hPl.get (by decide) rfl) (hPl.lt (by decide)) dX10_hasRepainted_93 ?_
          refine g_iload_n (pc := 96) dX10_hasRepainted_96 rfl rfl ?_
          refine g_iload (pc := 97) dX10_hasRepainted_97 rfl ?_
          refine g_iload (pc := 99) dX10_hasRepainted_99 rfl ?_
          refine g_iload (pc := 101) dX10_hasRepainted_101 rfl ?_
          refine g_aload (pc := 103) dX10_hasRepainted_103 rfl ?_
          obtain ⟨r_30, h_29, hF⟩ := am_b1_el hF
          refine g_cSi (pc := 105) (As := [.ref 38, .int a3, .int a4, .int l8_7, .int l9_16, .ref 37]) (st := []) ky_X10_change kl_X10_88 (s_X10_change_38_37 (d := 1) (hPl) (Nat.le_refl _) h_29) rfl rfl (Nat.le_trans (by decide) hd) (Nat.le_of_ble_eq_true rfl) (Nat.le_refl _) (Nat.le_refl _) dX10_hasRepainted_105 ?_
          refine g_iload (pc := 108) dX10_hasRepainted_108 rfl ?_
          refine g_iload (pc := 110) dX10_hasRepainted_110 rfl ?_
          refine g_imul (pc := 112) dX10_hasRepainted_112 ?_
          refine g_iadd (pc := 113) dX10_hasRepainted_113 ?_
          refine g_if_le (pc := 114) (tgt := 157) dX10_hasRepainted_114 rfl (fun c_31 => ?_) (fun c_31 => ?_)
          · replace hF := am_yes c_31 hF
            obtain ⟨l9_32, e_l9_32, hF⟩ := am_let_el hF
            refine n_iinc (pc := 157) (ls2 := [.ref 36, .int a1, .int a2, .int a3, .int a4, .ref 37, .int r_3, .int r_6, .int l8_7, .int l9_32, .int r_28]) e_l9_32 rfl rfl rfl dX10_hasRepainted_157 (Nat.le_of_ble_eq_true rfl) ?_
            refine g_goto (pc := 160) (tgt := 62) dX10_hasRepainted_160 rfl ?_
            cases hF
            exact g_weak (ih_20 (l9_32, I_17) rfl) ⟨Or.inr rfl, Or.inr rfl, Or.inr rfl, Or.inr rfl, Or.inr rfl, Or.inr rfl, Or.inr rfl, Or.inr rfl, Or.inr rfl, Or.inr rfl, Or.inl rfl, trivial⟩
          · replace hF := am_no c_31 hF
            refine g_aload_n (pc := 117) dX10_hasRepainted_117 rfl rfl ?_
            refine g_getR (pc := 118) (k := 36) (r := 39) kf_X10_18.r rfl rfl (hPl.get (by decide) rfl) (hPl.lt (by decide)) dX10_hasRepainted_118 ?_
            refine g_iload_n (pc := 121) dX10_hasRepainted_121 rfl rfl ?_
            refine g_iload (pc := 122) dX10_hasRepainted_122 rfl ?_
            refine g_iload (pc := 124) dX10_hasRepainted_124 rfl ?_
            refine g_iload (pc := 126) dX10_hasRepainted_126 rfl ?_
            refine g_aload (pc := 128) dX10_hasRepainted_128 rfl ?_
            obtain ⟨r_34, h_33, hF⟩ := am_b1_el hF
            refine g_cSi (pc := 130) (As := [.ref 39, .int a3, .int a4, .int l8_7, .int l9_16, .ref 37]) (st := []) ky_X10_change kl_X10_88 (s_X10_change_39_37 (d := 1) (hPl) (Nat.le_refl _) h_33) rfl rfl (Nat.le_trans (by decide) hd) (Nat.le_of_ble_eq_true rfl) (Nat.le_refl _) (Nat.le_refl _) dX10_hasRepainted_130 ?_
            refine g_iload (pc := 133) dX10_hasRepainted_133 rfl ?_
            refine g_iload (pc := 135) dX10_hasRepainted_135 rfl ?_
            refine g_imul (pc := 137) dX10_hasRepainted_137 ?_
            refine g_iadd (pc := 138) dX10_hasRepainted_138 ?_
            refine g_if_le (pc := 139) (tgt := 157) dX10_hasRepainted_139 rfl (fun c_35 => ?_) (fun c_35 => ?_)
            · replace hF := am_yes c_35 hF
              obtain ⟨l9_36, e_l9_36, hF⟩ := am_let_el hF
              refine n_iinc (pc := 157) (ls2 := [.ref 36, .int a1, .int a2, .int a3, .int a4, .ref 37, .int r_3, .int r_6, .int l8_7, .int l9_36, .int r_28]) e_l9_36 rfl rfl rfl dX10_hasRepainted_157 (Nat.le_of_ble_eq_true rfl) ?_
              refine g_goto (pc := 160) (tgt := 62) dX10_hasRepainted_160 rfl ?_
              cases hF
              exact g_weak (ih_20 (l9_36, I_17) rfl) ⟨Or.inr rfl, Or.inr rfl, Or.inr rfl, Or.inr rfl, Or.inr rfl, Or.inr rfl, Or.inr rfl, Or.inr rfl, Or.inr rfl, Or.inr rfl, Or.inl rfl, trivial⟩
            · replace hF := am_no c_35 hF
              refine g_aload (pc := 142) dX10_hasRepainted_142 rfl ?_
              refine g_iload_n (pc := 144) dX10_hasRepainted_144 rfl rfl ?_
              refine g_iload (pc := 145) dX10_hasRepainted_145 rfl ?_
              obtain ⟨c_37, hF⟩ := am_gd hF
              obtain ⟨I_38, e_I_38, hF⟩ := am_let_el hF
              refine n_iast (pc := 147) (k := 37) e_I_38 rfl (hPl.lt (by decide)) (am_ix_use c_37) dX10_hasRepainted_147 ?_
              refine g_aload (pc := 148) dX10_hasRepainted_148 rfl ?_
              refine g_iload (pc := 150) dX10_hasRepainted_150 rfl ?_
              refine g_iload (pc := 152) dX10_hasRepainted_152 rfl ?_
              obtain ⟨c_39, hF⟩ := am_gd hF
              obtain ⟨I_40, e_I_40, hF⟩ := am_let_el hF
              refine n_iast (pc := 154) (k := 37) e_I_40 rfl (hPl.lt (by decide)) (am_ix_use c_39) dX10_hasRepainted_154 ?_
              refine g_iconst (pc := 155) (v := (1 : Int32)) dX10_hasRepainted_155 rfl ?_
              cases hF
              have q_41 := hZ_23 _ (hE_21 _ rfl).symm
              cases q_41
              have q_42 := hZ_14 _ (hE_12 _ rfl).symm
              cases q_42
              exact g_zret (pc := 156) rfl (Or.inr rfl) (Nat.le_refl _) (Nat.le_refl _) dX10_hasRepainted_156 ⟨(Or.inr rfl), rfl, rfl, rfl, rfl⟩
        ) _ _ hL_22
      exact hC
    ) _ _ hL_13
  exact hC
