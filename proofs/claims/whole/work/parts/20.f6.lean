def F_X12_isSign_55 (I : am_IT) (a1 : Int32) : Option (Int32) := if (I 55 29) = (4 : Int32) then (if (I 55 30) = a1 then (some (1 : Int32)) else (some (0 : Int32))) else (some (0 : Int32))
set_option maxRecDepth 100000 in
set_option maxHeartbeats 4000000 in
theorem s_X12_isSign_55 {l : Launch} {d N : Nat} {P : am_PT} (hPl : am_Pl 94 N P) (hd : 1 ≤ d) {I : am_IT} {a1 : Int32} {r : Int32} (hF : F_X12_isSign_55 I a1 = some (r)) : am_C l d 0 0 mX12_isSign [.ref 55, .int a1] N P I (am_qz r N P I) := by
  refine am_body (sc := am_sc0) (n := 0) (by decide +kernel) (by decide) rfl ?_
  change G am_sc0 l d 0 0 mX12_isSign (am_qz r N P I) 0 [.ref 55, .int a1] [] N P I 0 0
  unfold F_X12_isSign_55 at hF
  refine g_aload_n (pc := 0) dX12_isSign_0 rfl rfl ?_
  refine g_getI (pc := 1) (k := 55) kf_X12_197.r rfl rfl (hPl.lt (by decide)) dX12_isSign_1 ?_
  refine g_iconst (pc := 4) (v := (4 : Int32)) dX12_isSign_4 rfl ?_
  refine g_icmp_ne (pc := 5) (tgt := 20) dX12_isSign_5 rfl (fun c_1 => ?_) (fun c_1 => ?_)
  · replace hF := am_no c_1 hF
    refine g_iconst (pc := 20) (v := (0 : Int32)) dX12_isSign_20 rfl ?_
    cases hF
    exact g_zret (pc := 21) rfl (Or.inl rfl) (Nat.le_refl _) (Nat.le_refl _) dX12_isSign_21 ⟨(Or.inl rfl), rfl, rfl, rfl, rfl⟩
  · replace hF := am_yes c_1 hF
    refine g_aload_n (pc := 8) dX12_isSign_8 rfl rfl ?_
    refine g_getI (pc := 9) (k := 55) kf_X12_200.r rfl rfl (hPl.lt (by decide)) dX12_isSign_9 ?_
    refine g_iload_n (pc := 12) dX12_isSign_12 rfl rfl ?_
    refine g_icmp_ne (pc := 13) (tgt := 20) dX12_isSign_13 rfl (fun c_2 => ?_) (fun c_2 => ?_)
    · replace hF := am_no c_2 hF
      refine g_iconst (pc := 20) (v := (0 : Int32)) dX12_isSign_20 rfl ?_
      cases hF
      exact g_zret (pc := 21) rfl (Or.inl rfl) (Nat.le_refl _) (Nat.le_refl _) dX12_isSign_21 ⟨(Or.inl rfl), rfl, rfl, rfl, rfl⟩
    · replace hF := am_yes c_2 hF
      refine g_iconst (pc := 16) (v := (1 : Int32)) dX12_isSign_16 rfl ?_
      refine g_goto (pc := 17) (tgt := 21) dX12_isSign_17 rfl ?_
      cases hF
      exact g_zret (pc := 21) rfl (Or.inr rfl) (Nat.le_refl _) (Nat.le_refl _) dX12_isSign_21 ⟨(Or.inr rfl), rfl, rfl, rfl, rfl⟩
def F_X12_emits_55 (I : am_IT) (a1 : Int32) (a2 : Int32) : Option (am_IT) := if am_ix ((400 : Int32) + (I 55 38)) 800 = true then (am_let (up2 I 78 ((400 : Int32) + (I 55 38)).toNatClampNeg a1) (fun (I_2 : am_IT) => if am_ix ((400 : Int32) + (I_2 55 38)) 800 = true then (am_let (up2 I_2 79 ((400 : Int32) + (I_2 55 38)).toNatClampNeg a2) (fun (I_4 : am_IT) => am_let (up2 I_4 55 38 ((I_4 55 38) + (1 : Int32))) (fun (I_5 : am_IT) => some I_5))) else none)) else none
set_option maxRecDepth 100000 in
set_option maxHeartbeats 4000000 in
theorem s_X12_emits_55 {l : Launch} {d N : Nat} {P : am_PT} (hPl : am_Pl 94 N P) (hd : 1 ≤ d) {I : am_IT} {a1 : Int32} {a2 : Int32} {I2 : am_IT} (hF : F_X12_emits_55 I a1 a2 = some (I2)) : am_C l d 0 0 mX12_emits [.ref 55, .int a1, .int a2] N P I (am_qv N P I2) := by
  refine am_body (sc := am_sc0) (n := 0) (by decide +kernel) (by decide) rfl ?_
  change G am_sc0 l d 0 0 mX12_emits (am_qv N P I2) 0 [.ref 55, .int a1, .int a2] [] N P I 0 0
  unfold F_X12_emits_55 at hF
  refine g_aload_n (pc := 0) dX12_emits_0 rfl rfl ?_
  refine g_getR (pc := 1) (k := 55) (r := 78) kf_X12_80.r rfl rfl (hPl.get (by decide) rfl) (hPl.lt (by decide)) dX12_emits_1 ?_
  refine g_sipush (pc := 4) (v := (400 : Int32)) dX12_emits_4 rfl ?_
  refine g_aload_n (pc := 7) dX12_emits_7 rfl rfl ?_
  refine g_getI (pc := 8) (k := 55) kf_X12_222.r rfl rfl (hPl.lt (by decide)) dX12_emits_8 ?_
  refine g_iadd (pc := 11) dX12_emits_11 ?_
  refine g_iload_n (pc := 12) dX12_emits_12 rfl rfl ?_
  obtain ⟨c_1, hF⟩ := am_gd hF
  obtain ⟨I_2, e_I_2, hF⟩ := am_let_el hF
  refine n_iast (pc := 13) (k := 78) e_I_2 rfl (hPl.lt (by decide)) (am_ix_use c_1) dX12_emits_13 ?_
  refine g_aload_n (pc := 14) dX12_emits_14 rfl rfl ?_
  refine g_getR (pc := 15) (k := 55) (r := 79) kf_X12_83.r rfl rfl (hPl.get (by decide) rfl) (hPl.lt (by decide)) dX12_emits_15 ?_
  refine g_sipush (pc := 18) (v := (400 : Int32)) dX12_emits_18 rfl ?_
  refine g_aload_n (pc := 21) dX12_emits_21 rfl rfl ?_
  refine g_getI (pc := 22) (k := 55) kf_X12_222.r rfl rfl (hPl.lt (by decide)) dX12_emits_22 ?_
  refine g_iadd (pc := 25) dX12_emits_25 ?_
  refine g_iload_n (pc := 26) dX12_emits_26 rfl rfl ?_
  obtain ⟨c_3, hF⟩ := am_gd hF
  obtain ⟨I_4, e_I_4, hF⟩ := am_let_el hF
  refine n_iast (pc := 27) (k := 79) e_I_4 rfl (hPl.lt (by decide)) (am_ix_use c_3) dX12_emits_27 ?_
  refine g_aload_n (pc := 28) dX12_emits_28 rfl rfl ?_
  refine g_aload_n (pc := 29) dX12_emits_29 rfl rfl ?_
  refine g_getI (pc := 30) (k := 55) kf_X12_222.r rfl rfl (hPl.lt (by decide)) dX12_emits_30 ?_
  refine g_iconst (pc := 33) (v := (1 : Int32)) dX12_emits_33 rfl ?_
  refine g_iadd (pc := 34) dX12_emits_34 ?_
  obtain ⟨I_5, e_I_5, hF⟩ := am_let_el hF
  refine n_putI (pc := 35) (k := 55) e_I_5 kf_X12_222 rfl rfl (hPl.lt (by decide)) dX12_emits_35 ?_
  cases hF
  exact g_vret (pc := 38) rfl (Nat.le_refl _) (Nat.le_refl _) dX12_emits_38 ⟨rfl, rfl, rfl, rfl⟩
def F_X12_readUnit_55 (I : am_IT) : Option (Int32 × am_IT) := am_b1 (if (I 55 29) = (2 : Int32) then (if (I 55 30) < (11 : Int32) then (some ((0 : Int32))) else (some ((1 : Int32)))) else (some ((0 : Int32)))) (fun (v_2 : Int32) => if v_2 = 0 then (if (I 55 29) = (3 : Int32) then (am_b1 (if v_2 = 0 then (some ((0 : Int32))) else (some ((1 : Int32)))) (fun (v_21 : Int32) => am_b1 (if v_2 = 0 then (some (I 55 30)) else (some ((I 55 30) - (11 : Int32)))) (fun (v_25 : Int32) => am_b1 (F_X12_emits_55 I v_21 v_25) (fun (I_29 : am_IT) => am_b1 (F_X12_reads_55 I_29) (fun (I_31 : am_IT) => some ((0 : Int32), I_31)))))) else (am_b2 (F_X12_errs_55 I (1 : Int32)) (fun (r_33 : Int32) (I_34 : am_IT) => some (r_33, I_34)))) else (am_b1 (if v_2 = 0 then (some ((0 : Int32))) else (some ((1 : Int32)))) (fun (v_8 : Int32) => am_b1 (if v_2 = 0 then (some (I 55 30)) else (some ((I 55 30) - (11 : Int32)))) (fun (v_12 : Int32) => am_b1 (F_X12_emits_55 I v_8 v_12) (fun (I_16 : am_IT) => am_b1 (F_X12_reads_55 I_16) (fun (I_18 : am_IT) => some ((0 : Int32), I_18)))))))
set_option maxRecDepth 100000 in
set_option maxHeartbeats 4000000 in
theorem s_X12_readUnit_55 {l : Launch} {d N : Nat} {P : am_PT} (hPl : am_Pl 94 N P) (hd : 4 ≤ d) {I : am_IT} {r : Int32} {I2 : am_IT} (hF : F_X12_readUnit_55 I = some (r, I2)) : am_C l d 0 0 mX12_readUnit [.ref 55] N P I (am_qi r N P I2) := by
  refine am_body (sc := am_sc0) (n := 1) (by decide +kernel) (by decide) rfl ?_
  change G am_sc0 l d 0 0 mX12_readUnit (am_qi r N P I2) 0 [.ref 55, .null] [] N P I 0 0
  unfold F_X12_readUnit_55 at hF
  refine g_aload_n (pc := 0) dX12_readUnit_0 rfl rfl ?_
  refine g_getI (pc := 1) (k := 55) kf_X12_197.r rfl rfl (hPl.lt (by decide)) dX12_readUnit_1 ?_
  refine g_iconst (pc := 4) (v := (2 : Int32)) dX12_readUnit_4 rfl ?_
  obtain ⟨v_2, hR_3, hF⟩ := am_b1_el hF
  have hJ_4 : G am_sc0 l d 0 0 mX12_readUnit (am_qi r N P I2) 22 [.ref 55, .null] [.int v_2] N P I 0 0 := by
    refine n_istore_n (pc := 22) (ls2 := [.ref 55, .int v_2]) rfl rfl dX12_readUnit_22 rfl (Nat.le_of_ble_eq_true rfl) ?_
    refine g_iload_n (pc := 23) dX12_readUnit_23 rfl rfl ?_
    refine g_if_ne (pc := 24) (tgt := 41) dX12_readUnit_24 rfl (fun c_6 => ?_) (fun c_6 => ?_)
    · replace hF := am_no c_6 hF
      refine g_aload_n (pc := 41) dX12_readUnit_41 rfl rfl ?_
      refine g_iload_n (pc := 42) dX12_readUnit_42 rfl rfl ?_
      obtain ⟨v_8, hR_9, hF⟩ := am_b1_el hF
      have hJ_10 : G am_sc0 l d 0 0 mX12_readUnit (am_qi r N P I2) 51 [.ref 55, .int v_2] [.int v_8, .ref 55] N P I 0 0 := by
        refine g_iload_n (pc := 51) dX12_readUnit_51 rfl rfl ?_
        obtain ⟨v_12, hR_13, hF⟩ := am_b1_el hF
        have hJ_14 : G am_sc0 l d 0 0 mX12_readUnit (am_qi r N P I2) 69 [.ref 55, .int v_2] [.int v_12, .int v_8, .ref 55] N P I 0 0 := by
          obtain ⟨I_16, h_15, hF⟩ := am_b1_el hF
          refine g_cVv (pc := 69) (k := 55) (As := [.int v_8, .int v_12]) (st := []) ky_X12_emits kl_X12_228 (s_X12_emits_55 (d := 1) (hPl) (Nat.le_refl _) h_15) rfl rfl rfl (hPl.lt (by decide)) (Nat.le_trans (by decide) hd) (Nat.le_of_ble_eq_true rfl) (Nat.le_refl _) (Nat.le_refl _) dX12_readUnit_69 ?_
          refine g_aload_n (pc := 72) dX12_readUnit_72 rfl rfl ?_
          obtain ⟨I_18, h_17, hF⟩ := am_b1_el hF
          refine g_cVv (pc := 73) (k := 55) (As := []) (st := []) ky_X12_reads kl_X12_232 (s_X12_reads_55 (d := 3) (hPl) (Nat.le_refl _) h_17) rfl rfl rfl (hPl.lt (by decide)) (Nat.le_trans (by decide) hd) (Nat.le_of_ble_eq_true rfl) (Nat.le_refl _) (Nat.le_refl _) dX12_readUnit_73 ?_
          refine g_iconst (pc := 76) (v := (0 : Int32)) dX12_readUnit_76 rfl ?_
          cases hF
          exact g_iret (pc := 77) rfl (Nat.le_refl _) (Nat.le_refl _) dX12_readUnit_77 ⟨rfl, rfl, rfl, rfl⟩
        clear hF
        have hF := hR_13
        clear hR_13
        refine g_if_eq (pc := 52) (tgt := 65) dX12_readUnit_52 rfl (fun c_11 => ?_) (fun c_11 => ?_)
        · replace hF := am_yes c_11 hF
          refine g_aload_n (pc := 65) dX12_readUnit_65 rfl rfl ?_
          refine g_getI (pc := 66) (k := 55) kf_X12_200.r rfl rfl (hPl.lt (by decide)) dX12_readUnit_66 ?_
          cases hF
          exact hJ_14
        · replace hF := am_no c_11 hF
          refine g_aload_n (pc := 55) dX12_readUnit_55 rfl rfl ?_
          refine g_getI (pc := 56) (k := 55) kf_X12_200.r rfl rfl (hPl.lt (by decide)) dX12_readUnit_56 ?_
          refine g_bipush (pc := 59) (v := (11 : Int32)) dX12_readUnit_59 rfl ?_
          refine g_isub (pc := 61) dX12_readUnit_61 ?_
          refine g_goto (pc := 62) (tgt := 69) dX12_readUnit_62 rfl ?_
          cases hF
          exact hJ_14
      clear hF
      have hF := hR_9
      clear hR_9
      refine g_if_eq (pc := 43) (tgt := 50) dX12_readUnit_43 rfl (fun c_7 => ?_) (fun c_7 => ?_)
      · replace hF := am_yes c_7 hF
        refine g_iconst (pc := 50) (v := (0 : Int32)) dX12_readUnit_50 rfl ?_
        cases hF
        exact hJ_10
      · replace hF := am_no c_7 hF
        refine g_iconst (pc := 46) (v := (1 : Int32)) dX12_readUnit_46 rfl ?_
        refine g_goto (pc := 47) (tgt := 51) dX12_readUnit_47 rfl ?_
        cases hF
        exact hJ_10
    · replace hF := am_yes c_6 hF
      refine g_aload_n (pc := 27) dX12_readUnit_27 rfl rfl ?_
      refine g_getI (pc := 28) (k := 55) kf_X12_197.r rfl rfl (hPl.lt (by decide)) dX12_readUnit_28 ?_
      refine g_iconst (pc := 31) (v := (3 : Int32)) dX12_readUnit_31 rfl ?_
      refine g_icmp_eq (pc := 32) (tgt := 41) dX12_readUnit_32 rfl (fun c_19 => ?_) (fun c_19 => ?_)
      · replace hF := am_yes c_19 hF
        refine g_aload_n (pc := 41) dX12_readUnit_41 rfl rfl ?_
        refine g_iload_n (pc := 42) dX12_readUnit_42 rfl rfl ?_
        obtain ⟨v_21, hR_22, hF⟩ := am_b1_el hF
        have hJ_23 : G am_sc0 l d 0 0 mX12_readUnit (am_qi r N P I2) 51 [.ref 55, .int v_2] [.int v_21, .ref 55] N P I 0 0 := by
          refine g_iload_n (pc := 51) dX12_readUnit_51 rfl rfl ?_
          obtain ⟨v_25, hR_26, hF⟩ := am_b1_el hF
          have hJ_27 : G am_sc0 l d 0 0 mX12_readUnit (am_qi r N P I2) 69 [.ref 55, .int v_2] [.int v_25, .int v_21, .ref 55] N P I 0 0 := by
            obtain ⟨I_29, h_28, hF⟩ := am_b1_el hF
            refine g_cVv (pc := 69) (k := 55) (As := [.int v_21, .int v_25]) (st := []) ky_X12_emits kl_X12_228 (s_X12_emits_55 (d := 1) (hPl) (Nat.le_refl _) h_28) rfl rfl rfl (hPl.lt (by decide)) (Nat.le_trans (by decide) hd) (Nat.le_of_ble_eq_true rfl) (Nat.le_refl _) (Nat.le_refl _) dX12_readUnit_69 ?_
            refine g_aload_n (pc := 72) dX12_readUnit_72 rfl rfl ?_
            obtain ⟨I_31, h_30, hF⟩ := am_b1_el hF
            refine g_cVv (pc := 73) (k := 55) (As := []) (st := []) ky_X12_reads kl_X12_232 (s_X12_reads_55 (d := 3) (hPl) (Nat.le_refl _) h_30) rfl rfl rfl (hPl.lt (by decide)) (Nat.le_trans (by decide) hd) (Nat.le_of_ble_eq_true rfl) (Nat.le_refl _) (Nat.le_refl _) dX12_readUnit_73 ?_
            refine g_iconst (pc := 76) (v := (0 : Int32)) dX12_readUnit_76 rfl ?_
            cases hF
            exact g_iret (pc := 77) rfl (Nat.le_refl _) (Nat.le_refl _) dX12_readUnit_77 ⟨rfl, rfl, rfl, rfl⟩
          clear hF
          have hF := hR_26
          clear hR_26
          refine g_if_eq (pc := 52) (tgt := 65) dX12_readUnit_52 rfl (fun c_24 => ?_) (fun c_24 => ?_)
          · replace hF := am_yes c_24 hF
            refine g_aload_n (pc := 65) dX12_readUnit_65 rfl rfl ?_
            refine g_getI (pc := 66) (k := 55) kf_X12_200.r rfl rfl (hPl.lt (by decide)) dX12_readUnit_66 ?_
            cases hF
            exact hJ_27
          · replace hF := am_no c_24 hF
            refine g_aload_n (pc := 55) dX12_readUnit_55 rfl rfl ?_
            refine g_getI (pc := 56) (k := 55) kf_X12_200.r rfl rfl (hPl.lt (by decide)) dX12_readUnit_56 ?_
            refine g_bipush (pc := 59) (v := (11 : Int32)) dX12_readUnit_59 rfl ?_
            refine g_isub (pc := 61) dX12_readUnit_61 ?_
            refine g_goto (pc := 62) (tgt := 69) dX12_readUnit_62 rfl ?_
            cases hF
            exact hJ_27
        clear hF
        have hF := hR_22
        clear hR_22
        refine g_if_eq (pc := 43) (tgt := 50) dX12_readUnit_43 rfl (fun c_20 => ?_) (fun c_20 => ?_)
        · replace hF := am_yes c_20 hF
          refine g_iconst (pc := 50) (v := (0 : Int32)) dX12_readUnit_50 rfl ?_
          cases hF
          exact hJ_23
        · replace hF := am_no c_20 hF
          refine g_iconst (pc := 46) (v := (1 : Int32)) dX12_readUnit_46 rfl ?_
          refine g_goto (pc := 47) (tgt := 51) dX12_readUnit_47 rfl ?_
          cases hF
          exact hJ_23
      · replace hF := am_no c_19 hF
        refine g_aload_n (pc := 35) dX12_readUnit_35 rfl rfl ?_
        refine g_iconst (pc := 36) (v := (1 : Int32)) dX12_readUnit_36 rfl ?_
        obtain ⟨r_33, I_34, h_32, hF⟩ := am_b2_el hF
        refine g_cVi (pc := 37) (k := 55) (As := [.int (1 : Int32)]) (st := []) ky_X12_errs kl_X12_225 (s_X12_errs_55 (d := 1) (hPl) (Nat.le_refl _) h_32) rfl rfl rfl (hPl.lt (by decide)) (Nat.le_trans (by decide) hd) (Nat.le_of_ble_eq_true rfl) (Nat.le_refl _) (Nat.le_refl _) dX12_readUnit_37 ?_
        cases hF
        exact g_iret (pc := 40) rfl (Nat.le_refl _) (Nat.le_refl _) dX12_readUnit_40 ⟨rfl, rfl, rfl, rfl⟩
  clear hF
  have hF := hR_3
  clear hR_3
  refine g_icmp_ne (pc := 5) (tgt := 21) dX12_readUnit_5 rfl (fun c_1 => ?_) (fun c_1 => ?_)
  · replace hF := am_no c_1 hF
    refine g_iconst (pc := 21) (v := (0 : Int32)) dX12_readUnit_21 rfl ?_
    cases hF
    exact hJ_4
  · replace hF := am_yes c_1 hF
    refine g_aload_n (pc := 8) dX12_readUnit_8 rfl rfl ?_
    refine g_getI (pc := 9) (k := 55) kf_X12_200.r rfl rfl (hPl.lt (by decide)) dX12_readUnit_9 ?_
    refine g_bipush (pc := 12) (v := (11 : Int32)) dX12_readUnit_12 rfl ?_
    refine g_icmp_lt (pc := 14) (tgt := 21) dX12_readUnit_14 rfl (fun c_5 => ?_) (fun c_5 => ?_)
    · replace hF := am_yes c_5 hF
      refine g_iconst (pc := 21) (v := (0 : Int32)) dX12_readUnit_21 rfl ?_
      cases hF
      exact hJ_4
    · replace hF := am_no c_5 hF
      refine g_iconst (pc := 17) (v := (1 : Int32)) dX12_readUnit_17 rfl ?_
      refine g_goto (pc := 18) (tgt := 22) dX12_readUnit_18 rfl ?_
      cases hF
      exact hJ_4
def F_X12_readProduct_55 (I : am_IT) : Option (Int32 × am_IT) := am_b2 (F_X12_readUnit_55 I) (fun (r_2 : Int32) (I_3 : am_IT) => if r_2 = (-1 : Int32) then (some ((-1 : Int32), I_3)) else (am_lr (am_it am_fu (fun (I_5 : am_IT) => am_b1 (F_X12_isSign_55 I_5 (42 : Int32)) (fun (r_13 : Int32) => if r_13 = 0 then (am_b1 (F_X12_isSign_55 I_5 (47 : Int32)) (fun (r_84 : Int32) => if r_84 = 0 then (some (.inr (.inl (I_5)))) else (am_b1 (F_X12_isSign_55 I_5 (42 : Int32)) (fun (r_88 : Int32) => am_b1 (F_X12_reads_55 I_5) (fun (I_91 : am_IT) => if r_88 = 0 then (if (I_91 55 29) = (3 : Int32) then (if r_88 = 0 then (if (I_91 55 30) = 0 then (am_b2 (F_X12_errs_55 I_91 (2 : Int32)) (fun (r_147 : Int32) (I_148 : am_IT) => some (.inr (.inr (r_147, I_148))))) else (am_b2 (F_X12_readUnit_55 I_91) (fun (r_136 : Int32) (I_137 : am_IT) => if r_136 = (-1 : Int32) then (some (.inr (.inr ((-1 : Int32), I_137)))) else (am_b1 (if r_88 = 0 then (some ((5 : Int32))) else (some ((4 : Int32)))) (fun (v_140 : Int32) => am_b1 (F_X12_emits_55 I_137 v_140 (0 : Int32)) (fun (I_144 : am_IT) => some (.inl (I_144)))))))) else (am_b2 (F_X12_readUnit_55 I_91) (fun (r_124 : Int32) (I_125 : am_IT) => if r_124 = (-1 : Int32) then (some (.inr (.inr ((-1 : Int32), I_125)))) else (am_b1 (if r_88 = 0 then (some ((5 : Int32))) else (some ((4 : Int32)))) (fun (v_128 : Int32) => am_b1 (F_X12_emits_55 I_125 v_128 (0 : Int32)) (fun (I_132 : am_IT) => some (.inl (I_132)))))))) else (am_b2 (F_X12_errs_55 I_91 (1 : Int32)) (fun (r_151 : Int32) (I_152 : am_IT) => some (.inr (.inr (r_151, I_152)))))) else (if r_88 = 0 then (if (I_91 55 30) = 0 then (am_b2 (F_X12_errs_55 I_91 (2 : Int32)) (fun (r_118 : Int32) (I_119 : am_IT) => some (.inr (.inr (r_118, I_119))))) else (am_b2 (F_X12_readUnit_55 I_91) (fun (r_107 : Int32) (I_108 : am_IT) => if r_107 = (-1 : Int32) then (some (.inr (.inr ((-1 : Int32), I_108)))) else (am_b1 (if r_88 = 0 then (some ((5 : Int32))) else (some ((4 : Int32)))) (fun (v_111 : Int32) => am_b1 (F_X12_emits_55 I_108 v_111 (0 : Int32)) (fun (I_115 : am_IT) => some (.inl (I_115)))))))) else (am_b2 (F_X12_readUnit_55 I_91) (fun (r_95 : Int32) (I_96 : am_IT) => if r_95 = (-1 : Int32) then (some (.inr (.inr ((-1 : Int32), I_96)))) else (am_b1 (if r_88 = 0 then (some ((5 : Int32))) else (some ((4 : Int32)))) (fun (v_99 : Int32) => am_b1 (F_X12_emits_55 I_96 v_99 (0 : Int32)) (fun (I_103 : am_IT) => some (.inl (I_103))))))))))))) else (am_b1 (F_X12_isSign_55 I_5 (42 : Int32)) (fun (r_17 : Int32) => am_b1 (F_X12_reads_55 I_5) (fun (I_20 : am_IT) => if r_17 = 0 then (if (I_20 55 29) = (3 : Int32) then (if r_17 = 0 then (if (I_20 55 30) = 0 then (am_b2 (F_X12_errs_55 I_20 (2 : Int32)) (fun (r_76 : Int32) (I_77 : am_IT) => some (.inr (.inr (r_76, I_77))))) else (am_b2 (F_X12_readUnit_55 I_20) (fun (r_65 : Int32) (I_66 : am_IT) => if r_65 = (-1 : Int32) then (some (.inr (.inr ((-1 : Int32), I_66)))) else (am_b1 (if r_17 = 0 then (some ((5 : Int32))) else (some ((4 : Int32)))) (fun (v_69 : Int32) => am_b1 (F_X12_emits_55 I_66 v_69 (0 : Int32)) (fun (I_73 : am_IT) => some (.inl (I_73)))))))) else (am_b2 (F_X12_readUnit_55 I_20) (fun (r_53 : Int32) (I_54 : am_IT) => if r_53 = (-1 : Int32) then (some (.inr (.inr ((-1 : Int32), I_54)))) else (am_b1 (if r_17 = 0 then (some ((5 : Int32))) else (some ((4 : Int32)))) (fun (v_57 : Int32) => am_b1 (F_X12_emits_55 I_54 v_57 (0 : Int32)) (fun (I_61 : am_IT) => some (.inl (I_61)))))))) else (am_b2 (F_X12_errs_55 I_20 (1 : Int32)) (fun (r_80 : Int32) (I_81 : am_IT) => some (.inr (.inr (r_80, I_81)))))) else (if r_17 = 0 then (if (I_20 55 30) = 0 then (am_b2 (F_X12_errs_55 I_20 (2 : Int32)) (fun (r_47 : Int32) (I_48 : am_IT) => some (.inr (.inr (r_47, I_48))))) else (am_b2 (F_X12_readUnit_55 I_20) (fun (r_36 : Int32) (I_37 : am_IT) => if r_36 = (-1 : Int32) then (some (.inr (.inr ((-1 : Int32), I_37)))) else (am_b1 (if r_17 = 0 then (some ((5 : Int32))) else (some ((4 : Int32)))) (fun (v_40 : Int32) => am_b1 (F_X12_emits_55 I_37 v_40 (0 : Int32)) (fun (I_44 : am_IT) => some (.inl (I_44)))))))) else (am_b2 (F_X12_readUnit_55 I_20) (fun (r_24 : Int32) (I_25 : am_IT) => if r_24 = (-1 : Int32) then (some (.inr (.inr ((-1 : Int32), I_25)))) else (am_b1 (if r_17 = 0 then (some ((5 : Int32))) else (some ((4 : Int32)))) (fun (v_28 : Int32) => am_b1 (F_X12_emits_55 I_25 v_28 (0 : Int32)) (fun (I_32 : am_IT) => some (.inl (I_32))))))))))))) I_3) (fun (I_6 : am_IT) => some ((0 : Int32), I_6))))
set_option maxRecDepth 100000 in
set_option maxHeartbeats 4000000 in
theorem s_X12_readProduct_55 {l : Launch} {d N : Nat} {P : am_PT} (hPl : am_Pl 94 N P) (hd : 5 ≤ d) {I : am_IT} {r : Int32} {I2 : am_IT} (hF : F_X12_readProduct_55 I = some (r, I2)) : am_C l d 0 0 mX12_readProduct [.ref 55] N P I (am_qi r N P I2) := by
  refine am_body (sc := am_sc0) (n := 1) (by decide +kernel) (by decide) rfl ?_
  change G am_sc0 l d 0 0 mX12_readProduct (am_qi r N P I2) 0 [.ref 55, .null] [] N P I 0 0
  unfold F_X12_readProduct_55 at hF
  refine g_aload_n (pc := 0) dX12_readProduct_0 rfl rfl ?_
  obtain ⟨r_2, I_3, h_1, hF⟩ := am_b2_el hF
  refine g_cVi (pc := 1) (k := 55) (As := []) (st := []) ky_X12_readUnit kl_X12_235 (s_X12_readUnit_55 (d := 4) (hPl) (Nat.le_refl _) h_1) rfl rfl rfl (hPl.lt (by decide)) (Nat.le_trans (by decide) hd) (Nat.le_of_ble_eq_true rfl) (Nat.le_refl _) (Nat.le_refl _) dX12_readProduct_1 ?_
  refine g_iconst (pc := 4) (v := (-1 : Int32)) dX12_readProduct_4 (by decide) ?_
  refine g_icmp_ne (pc := 5) (tgt := 10) dX12_readProduct_5 rfl (fun c_4 => ?_) (fun c_4 => ?_)
  · replace hF := am_no c_4 hF
    obtain ⟨x_154, hL_10, hF⟩ := am_lr_el hF
    have hX_7 : ∀ (I_6 : am_IT), x_154 = .inl I_6 → G am_sc0 l d 0 0 mX12_readProduct (am_qi r N P I2) 101 [.ref 55, .null] [] N P I_6 0 0 := by
      intro I_6 q
      subst q
      refine g_iconst (pc := 101) (v := (0 : Int32)) dX12_readProduct_101 rfl ?_
      cases hF
      exact g_iret (pc := 102) rfl (Nat.le_refl _) (Nat.le_refl _) dX12_readProduct_102 ⟨rfl, rfl, rfl, rfl⟩
    have hZ_11 : ∀ y, x_154 = .inr y → y = _ := fun y q => by subst q; exact hF
    clear hF
    have hC := am_loop (C := fun x => G am_sc0 l d 0 0 mX12_readProduct (am_qi r N P I2) 10 [.ref 55, .null] [] N P x 0 0) (by
      intro I_5 rr hF ih_8 hE_9
      refine g_aload_n (pc := 10) dX12_readProduct_10 rfl rfl ?_
      refine g_bipush (pc := 11) (v := (42 : Int32)) dX12_readProduct_11 rfl ?_
      obtain ⟨r_13, h_12, hF⟩ := am_b1_el hF
      refine g_cVz (pc := 13) (k := 55) (As := [.int (42 : Int32)]) (st := []) ky_X12_isSign kl_X12_239 (s_X12_isSign_55 (d := 1) (hPl) (Nat.le_refl _) h_12) rfl rfl rfl (hPl.lt (by decide)) (Nat.le_trans (by decide) hd) (Nat.le_of_ble_eq_true rfl) (Nat.le_refl _) (Nat.le_refl _) dX12_readProduct_13 ?_
      intro z_14
      refine g_if_ne (pc := 16) (tgt := 28) dX12_readProduct_16 rfl (fun c_15 => ?_) (fun c_15 => ?_)
      · replace hF := am_no c_15 hF
        refine g_aload_n (pc := 28) dX12_readProduct_28 rfl rfl ?_
        refine g_bipush (pc := 29) (v := (42 : Int32)) dX12_readProduct_29 rfl ?_
        obtain ⟨r_17, h_16, hF⟩ := am_b1_el hF
        refine g_cVz (pc := 31) (k := 55) (As := [.int (42 : Int32)]) (st := []) ky_X12_isSign kl_X12_239 (s_X12_isSign_55 (d := 1) (hPl) (Nat.le_refl _) h_16) rfl rfl rfl (hPl.lt (by decide)) (Nat.le_trans (by decide) hd) (Nat.le_of_ble_eq_true rfl) (Nat.le_refl _) (Nat.le_refl _) dX12_readProduct_31 ?_
        intro z_18
        refine n_istore_n (pc := 34) (ls2 := [.ref 55, .int r_17]) rfl rfl dX12_readProduct_34 rfl (Nat.le_of_ble_eq_true rfl) ?_
        refine g_aload_n (pc := 35) dX12_readProduct_35 rfl rfl ?_
        obtain ⟨I_20, h_19, hF⟩ := am_b1_el hF
        refine g_cVv (pc := 36) (k := 55) (As := []) (st := []) ky_X12_reads kl_X12_232 (s_X12_reads_55 (d := 3) (hPl) (Nat.le_refl _) h_19) rfl rfl rfl (hPl.lt (by decide)) (Nat.le_trans (by decide) hd) (Nat.le_of_ble_eq_true rfl) (Nat.le_refl _) (Nat.le_refl _) dX12_readProduct_36 ?_
        refine g_iload_n (pc := 39) dX12_readProduct_39 rfl rfl ?_
        refine g_if_ne (pc := 40) (tgt := 57) dX12_readProduct_40 rfl (fun c_21 => ?_) (fun c_21 => ?_)
        · replace hF := am_no c_21 hF
          refine g_iload_n (pc := 57) dX12_readProduct_57 rfl rfl ?_
          refine g_if_ne (pc := 58) (tgt := 74) dX12_readProduct_58 rfl (fun c_22 => ?_) (fun c_22 => ?_)
          · replace hF := am_no c_22 hF
            refine g_aload_n (pc := 74) dX12_readProduct_74 rfl rfl ?_
            obtain ⟨r_24, I_25, h_23, hF⟩ := am_b2_el hF
            refine g_cVi (pc := 75) (k := 55) (As := []) (st := []) ky_X12_readUnit kl_X12_235 (s_X12_readUnit_55 (d := 4) (hPl) (Nat.le_refl _) h_23) rfl rfl rfl (hPl.lt (by decide)) (Nat.le_trans (by decide) hd) (Nat.le_of_ble_eq_true rfl) (Nat.le_refl _) (Nat.le_refl _) dX12_readProduct_75 ?_
            refine g_iconst (pc := 78) (v := (-1 : Int32)) dX12_readProduct_78 (by decide) ?_
            refine g_icmp_ne (pc := 79) (tgt := 84) dX12_readProduct_79 rfl (fun c_26 => ?_) (fun c_26 => ?_)
            · replace hF := am_no c_26 hF
              refine g_aload_n (pc := 84) dX12_readProduct_84 rfl rfl ?_
              refine g_iload_n (pc := 85) dX12_readProduct_85 rfl rfl ?_
              obtain ⟨v_28, hR_29, hF⟩ := am_b1_el hF
              have hJ_30 : G am_sc0 l d 0 0 mX12_readProduct (am_qi r N P I2) 94 [.ref 55, .int r_17] [.int v_28, .ref 55] N P I_25 0 0 := by
                refine g_iconst (pc := 94) (v := (0 : Int32)) dX12_readProduct_94 rfl ?_
                obtain ⟨I_32, h_31, hF⟩ := am_b1_el hF
                refine g_cVv (pc := 95) (k := 55) (As := [.int v_28, .int (0 : Int32)]) (st := []) ky_X12_emits kl_X12_228 (s_X12_emits_55 (d := 1) (hPl) (Nat.le_refl _) h_31) rfl rfl rfl (hPl.lt (by decide)) (Nat.le_trans (by decide) hd) (Nat.le_of_ble_eq_true rfl) (Nat.le_refl _) (Nat.le_refl _) dX12_readProduct_95 ?_
                refine g_goto (pc := 98) (tgt := 10) dX12_readProduct_98 rfl ?_
                cases hF
                exact g_weak (ih_8 (I_32) rfl) ⟨Or.inr rfl, Or.inl rfl, trivial⟩
              clear hF
              have hF := hR_29
              clear hR_29
              refine g_if_eq (pc := 86) (tgt := 93) dX12_readProduct_86 rfl (fun c_27 => ?_) (fun c_27 => ?_)
              · replace hF := am_yes c_27 hF
                refine g_iconst (pc := 93) (v := (5 : Int32)) dX12_readProduct_93 rfl ?_
                cases hF
                exact hJ_30
              · replace hF := am_no c_27 hF
                refine g_iconst (pc := 89) (v := (4 : Int32)) dX12_readProduct_89 rfl ?_
                refine g_goto (pc := 90) (tgt := 94) dX12_readProduct_90 rfl ?_
                cases hF
                exact hJ_30
            · replace hF := am_yes c_26 hF
              refine g_iconst (pc := 82) (v := (-1 : Int32)) dX12_readProduct_82 (by decide) ?_
              cases hF
              have q_33 := hZ_11 _ (hE_9 _ rfl).symm
              cases q_33
              exact g_iret (pc := 83) rfl (Nat.le_refl _) (Nat.le_refl _) dX12_readProduct_83 ⟨rfl, rfl, rfl, rfl⟩
          · replace hF := am_yes c_22 hF
            refine g_aload_n (pc := 61) dX12_readProduct_61 rfl rfl ?_
            refine g_getI (pc := 62) (k := 55) kf_X12_200.r rfl rfl (hPl.lt (by decide)) dX12_readProduct_62 ?_
            refine g_if_ne (pc := 65) (tgt := 74) dX12_readProduct_65 rfl (fun c_34 => ?_) (fun c_34 => ?_)
            · replace hF := am_no c_34 hF
              refine g_aload_n (pc := 74) dX12_readProduct_74 rfl rfl ?_
              obtain ⟨r_36, I_37, h_35, hF⟩ := am_b2_el hF
              refine g_cVi (pc := 75) (k := 55) (As := []) (st := []) ky_X12_readUnit kl_X12_235 (s_X12_readUnit_55 (d := 4) (hPl) (Nat.le_refl _) h_35) rfl rfl rfl (hPl.lt (by decide)) (Nat.le_trans (by decide) hd) (Nat.le_of_ble_eq_true rfl) (Nat.le_refl _) (Nat.le_refl _) dX12_readProduct_75 ?_
              refine g_iconst (pc := 78) (v := (-1 : Int32)) dX12_readProduct_78 (by decide) ?_
              refine g_icmp_ne (pc := 79) (tgt := 84) dX12_readProduct_79 rfl (fun c_38 => ?_) (fun c_38 => ?_)
              · replace hF := am_no c_38 hF
                refine g_aload_n (pc := 84) dX12_readProduct_84 rfl rfl ?_
                refine g_iload_n (pc := 85) dX12_readProduct_85 rfl rfl ?_
                obtain ⟨v_40, hR_41, hF⟩ := am_b1_el hF
                have hJ_42 : G am_sc0 l d 0 0 mX12_readProduct (am_qi r N P I2) 94 [.ref 55, .int r_17] [.int v_40, .ref 55] N P I_37 0 0 := by
                  refine g_iconst (pc := 94) (v := (0 : Int32)) dX12_readProduct_94 rfl ?_
                  obtain ⟨I_44, h_43, hF⟩ := am_b1_el hF
                  refine g_cVv (pc := 95) (k := 55) (As := [.int v_40, .int (0 : Int32)]) (st := []) ky_X12_emits kl_X12_228 (s_X12_emits_55 (d := 1) (hPl) (Nat.le_refl _) h_43) rfl rfl rfl (hPl.lt (by decide)) (Nat.le_trans (by decide) hd) (Nat.le_of_ble_eq_true rfl) (Nat.le_refl _) (Nat.le_refl _) dX12_readProduct_95 ?_
                  refine g_goto (pc := 98) (tgt := 10) dX12_readProduct_98 rfl ?_
                  cases hF
                  exact g_weak (ih_8 (I_44) rfl) ⟨Or.inr rfl, Or.inl rfl, trivial⟩
                clear hF
                have hF := hR_41
                clear hR_41
                refine g_if_eq (pc := 86) (tgt := 93) dX12_readProduct_86 rfl (fun c_39 => ?_) (fun c_39 => ?_)
                · replace hF := am_yes c_39 hF
                  refine g_iconst (pc := 93) (v := (5 : Int32)) dX12_readProduct_93 rfl ?_
                  cases hF
                  exact hJ_42
                · replace hF := am_no c_39 hF
                  refine g_iconst (pc := 89) (v := (4 : Int32)) dX12_readProduct_89 rfl ?_
                  refine g_goto (pc := 90) (tgt := 94) dX12_readProduct_90 rfl ?_
                  cases hF
                  exact hJ_42
              · replace hF := am_yes c_38 hF
                refine g_iconst (pc := 82) (v := (-1 : Int32)) dX12_readProduct_82 (by decide) ?_
                cases hF
                have q_45 := hZ_11 _ (hE_9 _ rfl).symm
                cases q_45
                exact g_iret (pc := 83) rfl (Nat.le_refl _) (Nat.le_refl _) dX12_readProduct_83 ⟨rfl, rfl, rfl, rfl⟩
            · replace hF := am_yes c_34 hF
              refine g_aload_n (pc := 68) dX12_readProduct_68 rfl rfl ?_
              refine g_iconst (pc := 69) (v := (2 : Int32)) dX12_readProduct_69 rfl ?_
              obtain ⟨r_47, I_48, h_46, hF⟩ := am_b2_el hF
              refine g_cVi (pc := 70) (k := 55) (As := [.int (2 : Int32)]) (st := []) ky_X12_errs kl_X12_225 (s_X12_errs_55 (d := 1) (hPl) (Nat.le_refl _) h_46) rfl rfl rfl (hPl.lt (by decide)) (Nat.le_trans (by decide) hd) (Nat.le_of_ble_eq_true rfl) (Nat.le_refl _) (Nat.le_refl _) dX12_readProduct_70 ?_
              cases hF
              have q_49 := hZ_11 _ (hE_9 _ rfl).symm
              cases q_49
              exact g_iret (pc := 73) rfl (Nat.le_refl _) (Nat.le_refl _) dX12_readProduct_73 ⟨rfl, rfl, rfl, rfl⟩
        · replace hF := am_yes c_21 hF
          refine g_aload_n (pc := 43) dX12_readProduct_43 rfl rfl ?_
          refine g_getI (pc := 44) (k := 55) kf_X12_197.r rfl rfl (hPl.lt (by decide)) dX12_readProduct_44 ?_
          refine g_iconst (pc := 47) (v := (3 : Int32)) dX12_readProduct_47 rfl ?_
          refine g_icmp_eq (pc := 48) (tgt := 57) dX12_readProduct_48 rfl (fun c_50 => ?_) (fun c_50 => ?_)
          · replace hF := am_yes c_50 hF
            refine g_iload_n (pc := 57) dX12_readProduct_57 rfl rfl ?_
            refine g_if_ne (pc := 58) (tgt := 74) dX12_readProduct_58 rfl (fun c_51 => ?_) (fun c_51 => ?_)
            · replace hF := am_no c_51 hF
              refine g_aload_n (pc := 74) dX12_readProduct_74 rfl rfl ?_
              obtain ⟨r_53, I_54, h_52, hF⟩ := am_b2_el hF
              refine g_cVi (pc := 75) (k := 55) (As := []) (st := []) ky_X12_readUnit kl_X12_235 (s_X12_readUnit_55 (d := 4) (hPl) (Nat.le_refl _) h_52) rfl rfl rfl (hPl.lt (by decide)) (Nat.le_trans (by decide) hd) (Nat.le_of_ble_eq_true rfl) (Nat.le_refl _) (Nat.le_refl _) dX12_readProduct_75 ?_
              refine g_iconst (pc := 78) (v := (-1 : Int32)) dX12_readProduct_78 (by decide) ?_
              refine g_icmp_ne (pc := 79) (tgt := 84) dX12_readProduct_79 rfl (fun c_55 => ?_) (fun c_55 => ?_)
              · replace hF := am_no c_55 hF
                refine g_aload_n (pc := 84) dX12_readProduct_84 rfl rfl ?_
                refine g_iload_n (pc := 85) dX12_readProduct_85 rfl rfl ?_
                obtain ⟨v_57, hR_58, hF⟩ := am_b1_el hF
                have hJ_59 : G am_sc0 l d 0 0 mX12_readProduct (am_qi r N P I2) 94 [.ref 55, .int r_17] [.int v_57, .ref 55] N P I_54 0 0 := by
                  refine g_iconst (pc := 94) (v := (0 : Int32)) dX12_readProduct_94 rfl ?_
                  obtain ⟨I_61, h_60, hF⟩ := am_b1_el hF
                  refine g_cVv (pc := 95) (k := 55) (As := [.int v_57, .int (0 : Int32)]) (st := []) ky_X12_emits kl_X12_228 (s_X12_emits_55 (d := 1) (hPl) (Nat.le_refl _) h_60) rfl rfl rfl (hPl.lt (by decide)) (Nat.le_trans (by decide) hd) (Nat.le_of_ble_eq_true rfl) (Nat.le_refl _) (Nat.le_refl _) dX12_readProduct_95 ?_
                  refine g_goto (pc := 98) (tgt := 10) dX12_readProduct_98 rfl ?_
                  cases hF
                  exact g_weak (ih_8 (I_61) rfl) ⟨Or.inr rfl, Or.inl rfl, trivial⟩
                clear hF
                have hF := hR_58
                clear hR_58
                refine g_if_eq (pc := 86) (tgt := 93) dX12_readProduct_86 rfl (fun c_56 => ?_) (fun c_56 => ?_)
                · replace hF := am_yes c_56 hF
                  refine g_iconst (pc := 93) (v := (5 : Int32)) dX12_readProduct_93 rfl ?_
                  cases hF
                  exact hJ_59
                · replace hF := am_no c_56 hF
                  refine g_iconst (pc := 89) (v := (4 : Int32)) dX12_readProduct_89 rfl ?_
                  refine g_goto (pc := 90) (tgt := 94) dX12_readProduct_90 rfl ?_
                  cases hF
                  exact hJ_59
              · replace hF := am_yes c_55 hF
                refine g_iconst (pc := 82) (v := (-1 : Int32)) dX12_readProduct_82 (by decide) ?_
                cases hF
                have q_62 := hZ_11 _ (hE_9 _ rfl).symm
                cases q_62
                exact g_iret (pc := 83) rfl (Nat.le_refl _) (Nat.le_refl _) dX12_readProduct_83 ⟨rfl, rfl, rfl, rfl⟩
            · replace hF := am_yes c_51 hF
              refine g_aload_n (pc := 61) dX12_readProduct_61 rfl rfl ?_
              refine g_getI (pc := 62) (k := 55) kf_X12_200.r rfl rfl (hPl.lt (by decide)) dX12_readProduct_62 ?_
              refine g_if_ne (pc := 65) (tgt := 74) dX12_readProduct_65 rfl (fun c_63 => ?_) (fun c_63 => ?_)
              · replace hF := am_no c_63 hF
                refine g_aload_n (pc := 74) dX12_readProduct_74 rfl rfl ?_
                obtain ⟨r_65, I_66, h_64, hF⟩ := am_b2_el hF
                refine g_cVi (pc := 75) (k := 55) (As := []) (st := []) ky_X12_readUnit kl_X12_235 (s_X12_readUnit_55 (d := 4) (hPl) (Nat.le_refl _) h_64) rfl rfl rfl (hPl.lt (by decide)) (Nat.le_trans (by decide) hd) (Nat.le_of_ble_eq_true rfl) (Nat.le_refl _) (Nat.le_refl _) dX12_readProduct_75 ?_
                refine g_iconst (pc := 78) (v := (-1 : Int32)) dX12_readProduct_78 (by decide) ?_
                refine g_icmp_ne (pc := 79) (tgt := 84) dX12_readProduct_79 rfl (fun c_67 => ?_) (fun c_67 => ?_)
                · replace hF := am_no c_67 hF
                  refine g_aload_n (pc := 84) dX12_readProduct_84 rfl rfl ?_
                  refine g_iload_n (pc := 85) dX12_readProduct_85 rfl rfl ?_
                  obtain ⟨v_69, hR_70, hF⟩ := am_b1_el hF
                  have hJ_71 : G am_sc0 l d 0 0 mX12_readProduct (am_qi r N P I2) 94 [.ref 55, .int r_17] [.int v_69, .ref 55] N P I_66 0 0 := by
                    refine g_iconst (pc := 94) (v := (0 : Int32)) dX12_readProduct_94 rfl ?_
                    obtain ⟨I_73, h_72, hF⟩ := am_b1_el hF
                    refine g_cVv (pc := 95) (k := 55) (As := [.int v_69, .int (0 : Int32)]) (st := []) ky_X12_emits kl_X12_228 (s_X12_emits_55 (d := 1) (hPl) (Nat.le_refl _) h_72) rfl rfl rfl (hPl.lt (by decide)) (Nat.le_trans (by decide) hd) (Nat.le_of_ble_eq_true rfl) (Nat.le_refl _) (Nat.le_refl _) dX12_readProduct_95 ?_
                    refine g_goto (pc := 98) (tgt := 10) dX12_readProduct_98 rfl ?_
                    cases hF
                    exact g_weak (ih_8 (I_73) rfl) ⟨Or.inr rfl, Or.inl rfl, trivial⟩
                  clear hF
                  have hF := hR_70
                  clear hR_70
                  refine g_if_eq (pc := 86) (tgt := 93) dX12_readProduct_86 rfl (fun c_68 => ?_) (fun c_68 => ?_)
                  · replace hF := am_yes c_68 hF
                    refine g_iconst (pc := 93) (v := (5 : Int32)) dX12_readProduct_93 rfl ?_
                    cases hF
                    exact hJ_71
                  · replace hF := am_no c_68 hF
                    refine g_iconst (pc := 89) (v := (4 : Int32)) dX12_readProduct_89 rfl ?_
                    refine g_goto (pc := 90) (tgt := 94) dX12_readProduct_90 rfl ?_
                    cases hF
                    exact hJ_71
                · replace hF := am_yes c_67 hF
                  refine g_iconst (pc := 82) (v := (-1 : Int32)) dX12_readProduct_82 (by decide) ?_
                  cases hF
                  have q_74 := hZ_11 _ (hE_9 _ rfl).symm
                  cases q_74
                  exact g_iret (pc := 83) rfl (Nat.le_refl _) (Nat.le_refl _) dX12_readProduct_83 ⟨rfl, rfl, rfl, rfl⟩
              · replace hF := am_yes c_63 hF
                refine g_aload_n (pc := 68) dX12_readProduct_68 rfl rfl ?_
                refine g_iconst (pc := 69) (v := (2 : Int32)) dX12_readProduct_69 rfl ?_
                obtain ⟨r_76, I_77, h_75, hF⟩ := am_b2_el hF
                refine g_cVi (pc := 70) (k := 55) (As := [.int (2 : Int32)]) (st := []) ky_X12_errs kl_X12_225 (s_X12_errs_55 (d := 1) (hPl) (Nat.le_refl _) h_75) rfl rfl rfl (hPl.lt (by decide)) (Nat.le_trans (by decide) hd) (Nat.le_of_ble_eq_true rfl) (Nat.le_refl _) (Nat.le_refl _) dX12_readProduct_70 ?_
                cases hF
                have q_78 := hZ_11 _ (hE_9 _ rfl).symm
                cases q_78
                exact g_iret (pc := 73) rfl (Nat.le_refl _) (Nat.le_refl _) dX12_readProduct_73 ⟨rfl, rfl, rfl, rfl⟩
          · replace hF := am_no c_50 hF
            refine g_aload_n (pc := 51) dX12_readProduct_51 rfl rfl ?_
            refine g_iconst (pc := 52) (v := (1 : Int32)) dX12_readProduct_52 rfl ?_
            obtain ⟨r_80, I_81, h_79, hF⟩ := am_b2_el hF
            refine g_cVi (pc := 53) (k := 55) (As := [.int (1 : Int32)]) (st := []) ky_X12_errs kl_X12_225 (s_X12_errs_55 (d := 1) (hPl) (Nat.le_refl _) h_79) rfl rfl rfl (hPl.lt (by decide)) (Nat.le_trans (by decide) hd) (Nat.le_of_ble_eq_true rfl) (Nat.le_refl _) (Nat.le_refl _) dX12_readProduct_53 ?_
            cases hF
            have q_82 := hZ_11 _ (hE_9 _ rfl).symm
            cases q_82
            exact g_iret (pc := 56) rfl (Nat.le_refl _) (Nat.le_refl _) dX12_readProduct_56 ⟨rfl, rfl, rfl, rfl⟩
      · replace hF := am_yes c_15 hF
        refine g_aload_n (pc := 19) dX12_readProduct_19 rfl rfl ?_
        refine g_bipush (pc := 20) (v := (47 : Int32)) dX12_readProduct_20 rfl ?_
        obtain ⟨r_84, h_83, hF⟩ := am_b1_el hF
        refine g_cVz (pc := 22) (k := 55) (As := [.int (47 : Int32)]) (st := []) ky_X12_isSign kl_X12_239 (s_X12_isSign_55 (d := 1) (hPl) (Nat.le_refl _) h_83) rfl rfl rfl (hPl.lt (by decide)) (Nat.le_trans (by decide) hd) (Nat.le_of_ble_eq_true rfl) (Nat.le_refl _) (Nat.le_refl _) dX12_readProduct_22 ?_
        intro z_85
        refine g_if_eq (pc := 25) (tgt := 101) dX12_readProduct_25 rfl (fun c_86 => ?_) (fun c_86 => ?_)
        · replace hF := am_yes c_86 hF
          cases hF
          exact hX_7 _ (hE_9 _ rfl).symm
        · replace hF := am_no c_86 hF
          refine g_aload_n (pc := 28) dX12_readProduct_28 rfl rfl ?_
          refine g_bipush (pc := 29) (v := (42 : Int32)) dX12_readProduct_29 rfl ?_
          obtain ⟨r_88, h_87, hF⟩ := am_b1_el hF
          refine g_cVz (pc := 31) (k := 55) (As := [.int (42 : Int32)]) (st := []) ky_X12_isSign kl_X12_239 (s_X12_isSign_55 (d := 1) (hPl) (Nat.le_refl _) h_87) rfl rfl rfl (hPl.lt (by decide)) (Nat.le_trans (by decide) hd) (Nat.le_of_ble_eq_true rfl) (Nat.le_refl _) (Nat.le_refl _) dX12_readProduct_31 ?_
          intro z_89
          refine n_istore_n (pc := 34) (ls2 := [.ref 55, .int r_88]) rfl rfl dX12_readProduct_34 rfl (Nat.le_of_ble_eq_true rfl) ?_
          refine g_aload_n (pc := 35) dX12_readProduct_35 rfl rfl ?_
          obtain ⟨I_91, h_90, hF⟩ := am_b1_el hF
          refine g_cVv (pc := 36) (k := 55) (As := []) (st := []) ky_X12_reads kl_X12_232 (s_X12_reads_55 (d := 3) (hPl) (Nat.le_refl _) h_90) rfl rfl rfl (hPl.lt (by decide)) (Nat.le_trans (by decide) hd) (Nat.le_of_ble_eq_true rfl) (Nat.le_refl _) (Nat.le_refl _) dX12_readProduct_36 ?_
          refine g_iload_n (pc := 39) dX12_readProduct_39 rfl rfl ?_
          refine g_if_ne (pc := 40) (tgt := 57) dX12_readProduct_40 rfl (fun c_92 => ?_) (fun c_92 => ?_)
          · replace hF := am_no c_92 hF
            refine g_iload_n (pc := 57) dX12_readProduct_57 rfl rfl ?_
            refine g_if_ne (pc := 58) (tgt := 74) dX12_readProduct_58 rfl (fun c_93 => ?_) (fun c_93 => ?_)
            · replace hF := am_no c_93 hF
              refine g_aload_n (pc := 74) dX12_readProduct_74 rfl rfl ?_
              obtain ⟨r_95, I_96, h_94, hF⟩ := am_b2_el hF
              refine g_cVi (pc := 75) (k := 55) (As := []) (st := []) ky_X12_readUnit kl_X12_235 (s_X12_readUnit_55 (d := 4) (hPl) (Nat.le_refl _) h_94) rfl rfl rfl (hPl.lt (by decide)) (Nat.le_trans (by decide) hd) (Nat.le_of_ble_eq_true rfl) (Nat.le_refl _) (Nat.le_refl _) dX12_readProduct_75 ?_
              refine g_iconst (pc := 78) (v := (-1 : Int32)) dX12_readProduct_78 (by decide) ?_
              refine g_icmp_ne (pc := 79) (tgt := 84) dX12_readProduct_79 rfl (fun c_97 => ?_) (fun c_97 => ?_)
              · replace hF := am_no c_97 hF
                refine g_aload_n (pc := 84) dX12_readProduct_84 rfl rfl ?_
                refine g_iload_n (pc := 85) dX12_readProduct_85 rfl rfl ?_
                obtain ⟨v_99, hR_100, hF⟩ := am_b1_el hF
                have hJ_101 : G am_sc0 l d 0 0 mX12_readProduct (am_qi r N P I2) 94 [.ref 55, .int r_88] [.int v_99, .ref 55] N P I_96 0 0 := by
                  refine g_iconst (pc := 94) (v := (0 : Int32)) dX12_readProduct_94 rfl ?_
                  obtain ⟨I_103, h_102, hF⟩ := am_b1_el hF
                  refine g_cVv (pc := 95) (k := 55) (As := [.int v_99, .int (0 : Int32)]) (st := []) ky_X12_emits kl_X12_228 (s_X12_emits_55 (d := 1) (hPl) (Nat.le_refl _) h_102) rfl rfl rfl (hPl.lt (by decide)) (Nat.le_trans (by decide) hd) (Nat.le_of_ble_eq_true rfl) (Nat.le_refl _) (Nat.le_refl _) dX12_readProduct_95 ?_
                  refine g_goto (pc := 98) (tgt := 10) dX12_readProduct_98 rfl ?_
                  cases hF
                  exact g_weak (ih_8 (I_103) rfl) ⟨Or.inr rfl, Or.inl rfl, trivial⟩
                clear hF
                have hF := hR_100
                clear hR_100
                refine g_if_eq (pc := 86) (tgt := 93) dX12_readProduct_86 rfl (fun c_98 => ?_) (fun c_98 => ?_)
                · replace hF := am_yes c_98 hF
                  refine g_iconst (pc := 93) (v := (5 : Int32)) dX12_readProduct_93 rfl ?_
                  cases hF
                  exact hJ_101
                · replace hF := am_no c_98 hF
                  refine g_iconst (pc := 89) (v := (4 : Int32)) dX12_readProduct_89 rfl ?_
                  refine g_goto (pc := 90) (tgt := 94) dX12_readProduct_90 rfl ?_
                  cases hF
                  exact hJ_101
              · replace hF := am_yes c_97 hF
                refine g_iconst (pc := 82) (v := (-1 : Int32)) dX12_readProduct_82 (by decide) ?_
                cases hF
                have q_104 := hZ_11 _ (hE_9 _ rfl).symm
                cases q_104
                exact g_iret (pc := 83) rfl (Nat.le_refl _) (Nat.le_refl _) dX12_readProduct_83 ⟨rfl, rfl, rfl, rfl⟩
            · replace hF := am_yes c_93 hF
              refine g_aload_n (pc := 61) dX12_readProduct_61 rfl rfl ?_
              refine g_getI (pc := 62) (k := 55) kf_X12_200.r rfl rfl (hPl.lt (by decide)) dX12_readProduct_62 ?_
              refine g_if_ne (pc := 65) (tgt := 74) dX12_readProduct_65 rfl (fun c_105 => ?_) (fun c_105 => ?_)
              · replace hF := am_no c_105 hF
                refine g_aload_n (pc := 74) dX12_readProduct_74 rfl rfl ?_
                obtain ⟨r_107, I_108, h_106, hF⟩ := am_b2_el hF
                refine g_cVi (pc := 75) (k := 55) (As := []) (st := []) ky_X12_readUnit kl_X12_235 (s_X12_readUnit_55 (d := 4) (hPl) (Nat.le_refl _) h_106) rfl rfl rfl (hPl.lt (by decide)) (Nat.le_trans (by decide) hd) (Nat.le_of_ble_eq_true rfl) (Nat.le_refl _) (Nat.le_refl _) dX12_readProduct_75 ?_
                refine g_iconst (pc := 78) (v := (-1 : Int32)) dX12_readProduct_78 (by decide) ?_
                refine g_icmp_ne (pc := 79) (tgt := 84) dX12_readProduct_79 rfl (fun c_109 => ?_) (fun c_109 => ?_)
                · replace hF := am_no c_109 hF
                  refine g_aload_n (pc := 84) dX12_readProduct_84 rfl rfl ?_
                  refine g_iload_n (pc := 85) dX12_readProduct_85 rfl rfl ?_
                  obtain ⟨v_111, hR_112, hF⟩ := am_b1_el hF
                  have hJ_113 : G am_sc0 l d 0 0 mX12_readProduct (am_qi r N P I2) 94 [.ref 55, .int r_88] [.int v_111, .ref 55] N P I_108 0 0 := by
                    refine g_iconst (pc := 94) (v := (0 : Int32)) dX12_readProduct_94 rfl ?_
                    obtain ⟨I_115, h_114, hF⟩ := am_b1_el hF
                    refine g_cVv (pc := 95) (k := 55) (As := [.int v_111, .int (0 : Int32)]) (st := []) ky_X12_emits kl_X12_228 (s_X12_emits_55 (d := 1) (hPl) (Nat.le_refl _) h_114) rfl rfl rfl (hPl.lt (by decide)) (Nat.le_trans (by decide) hd) (Nat.le_of_ble_eq_true rfl) (Nat.le_refl _) (Nat.le_refl _) dX12_readProduct_95 ?_
                    refine g_goto (pc := 98) (tgt := 10) dX12_readProduct_98 rfl ?_
                    cases hF
                    exact g_weak (ih_8 (I_115) rfl) ⟨Or.inr rfl, Or.inl rfl, trivial⟩
                  clear hF
                  have hF := hR_112
                  clear hR_112
                  refine g_if_eq (pc := 86) (tgt := 93) dX12_readProduct_86 rfl (fun c_110 => ?_) (fun c_110 => ?_)
                  · replace hF := am_yes c_110 hF
                    refine g_iconst (pc := 93) (v := (5 : Int32)) dX12_readProduct_93 rfl ?_
                    cases hF
                    exact hJ_113
                  · replace hF := am_no c_110 hF
                    refine g_iconst (pc := 89) (v := (4 : Int32)) dX12_readProduct_89 rfl ?_
                    refine g_goto (pc := 90) (tgt := 94) dX12_readProduct_90 rfl ?_
                    cases hF
                    exact hJ_113
                · replace hF := am_yes c_109 hF
                  refine g_iconst (pc := 82) (v := (-1 : Int32)) dX12_readProduct_82 (by decide) ?_
                  cases hF
                  have q_116 := hZ_11 _ (hE_9 _ rfl).symm
                  cases q_116
                  exact g_iret (pc := 83) rfl (Nat.le_refl _) (Nat.le_refl _) dX12_readProduct_83 ⟨rfl, rfl, rfl, rfl⟩
              · replace hF := am_yes c_105 hF
                refine g_aload_n (pc := 68) dX12_readProduct_68 rfl rfl ?_
                refine g_iconst (pc := 69) (v := (2 : Int32)) dX12_readProduct_69 rfl ?_
                obtain ⟨r_118, I_119, h_117, hF⟩ := am_b2_el hF
                refine g_cVi (pc := 70) (k := 55) (As := [.int (2 : Int32)]) (st := []) ky_X12_errs kl_X12_225 (s_X12_errs_55 (d := 1) (hPl) (Nat.le_refl _) h_117) rfl rfl rfl (hPl.lt (by decide)) (Nat.le_trans (by decide) hd) (Nat.le_of_ble_eq_true rfl) (Nat.le_refl _) (Nat.le_refl _) dX12_readProduct_70 ?_
                cases hF
                have q_120 := hZ_11 _ (hE_9 _ rfl).symm
                cases q_120
                exact g_iret (pc := 73) rfl (Nat.le_refl _) (Nat.le_refl _) dX12_readProduct_73 ⟨rfl, rfl, rfl, rfl⟩
          · replace hF := am_yes c_92 hF
            refine g_aload_n (pc := 43) dX12_readProduct_43 rfl rfl ?_
            refine g_getI (pc := 44) (k := 55) kf_X12_197.r rfl rfl (hPl.lt (by decide)) dX12_readProduct_44 ?_
            refine g_iconst (pc := 47) (v := (3 : Int32)) dX12_readProduct_47 rfl ?_
            refine g_icmp_eq (pc := 48) (tgt := 57) dX12_readProduct_48 rfl (fun c_121 => ?_) (fun c_121 => ?_)
            · replace hF := am_yes c_121 hF
              refine g_iload_n (pc := 57) dX12_readProduct_57 rfl rfl ?_
              refine g_if_ne (pc := 58) (tgt := 74) dX12_readProduct_58 rfl (fun c_122 => ?_) (fun c_122 => ?_)
              · replace hF := am_no c_122 hF
                refine g_aload_n (pc := 74) dX12_readProduct_74 rfl rfl ?_
                obtain ⟨r_124, I_125, h_123, hF⟩ := am_b2_el hF
                refine g_cVi (pc := 75) (k := 55) (As := []) (st := []) ky_X12_readUnit kl_X12_235 (s_X12_readUnit_55 (d := 4) (hPl) (Nat.le_refl _) h_123) rfl rfl rfl (hPl.lt (by decide)) (Nat.le_trans (by decide) hd) (Nat.le_of_ble_eq_true rfl) (Nat.le_refl _) (Nat.le_refl _) dX12_readProduct_75 ?_
                refine g_iconst (pc := 78) (v := (-1 : Int32)) dX12_readProduct_78 (by decide) ?_
                refine g_icmp_ne (pc := 79) (tgt := 84) dX12_readProduct_79 rfl (fun c_126 => ?_) (fun c_126 => ?_)
                · replace hF := am_no c_126 hF
                  refine g_aload_n (pc := 84) dX12_readProduct_84 rfl rfl ?_
                  refine g_iload_n (pc := 85) dX12_readProduct_85 rfl rfl ?_
                  obtain ⟨v_128, hR_129, hF⟩ := am_b1_el hF
                  have hJ_130 : G am_sc0 l d 0 0 mX12_readProduct (am_qi r N P I2) 94 [.ref 55, .int r_88] [.int v_128, .ref 55] N P I_125 0 0 := by
                    refine g_iconst (pc := 94) (v := (0 : Int32)) dX12_readProduct_94 rfl ?_
                    obtain ⟨I_132, h_131, hF⟩ := am_b1_el hF
                    refine g_cVv (pc := 95) (k := 55) (As := [.int v_128, .int (0 : Int32)]) (st := []) ky_X12_emits kl_X12_228 (s_X12_emits_55 (d := 1) (hPl) (Nat.le_refl _) h_131) rfl rfl rfl (hPl.lt (by decide)) (Nat.le_trans (by decide) hd) (Nat.le_of_ble_eq_true rfl) (Nat.le_refl _) (Nat.le_refl _) dX12_readProduct_95 ?_
                    refine g_goto (pc := 98) (tgt := 10) dX12_readProduct_98 rfl ?_
                    cases hF
                    exact g_weak (ih_8 (I_132) rfl) ⟨Or.inr rfl, Or.inl rfl, trivial⟩
                  clear hF
                  have hF := hR_129
                  clear hR_129
                  refine g_if_eq (pc := 86) (tgt := 93) dX12_readProduct_86 rfl (fun c_127 => ?_) (fun c_127 => ?_)
                  · replace hF := am_yes c_127 hF
                    refine g_iconst (pc := 93) (v := (5 : Int32)) dX12_readProduct_93 rfl ?_
                    cases hF
                    exact hJ_130
                  · replace hF := am_no c_127 hF
                    refine g_iconst (pc := 89) (v := (4 : Int32)) dX12_readProduct_89 rfl ?_
                    refine g_goto (pc := 90) (tgt := 94) dX12_readProduct_90 rfl ?_
                    cases hF
                    exact hJ_130
                · replace hF := am_yes c_126 hF
                  refine g_iconst (pc := 82) (v := (-1 : Int32)) dX12_readProduct_82 (by decide) ?_
                  cases hF
                  have q_133 := hZ_11 _ (hE_9 _ rfl).symm
                  cases q_133
                  exact g_iret (pc := 83) rfl (Nat.le_refl _) (Nat.le_refl _) dX12_readProduct_83 ⟨rfl, rfl, rfl, rfl⟩
              · replace hF := am_yes c_122 hF
                refine g_aload_n (pc := 61) dX12_readProduct_61 rfl rfl ?_
                refine g_getI (pc := 62) (k := 55) kf_X12_200.r rfl rfl (hPl.lt (by decide)) dX12_readProduct_62 ?_
                refine g_if_ne (pc := 65) (tgt := 74) dX12_readProduct_65 rfl (fun c_134 => ?_) (fun c_134 => ?_)
                · replace hF := am_no c_134 hF
                  refine g_aload_n (pc := 74) dX12_readProduct_74 rfl rfl ?_
                  obtain ⟨r_136, I_137, h_135, hF⟩ := am_b2_el hF
                  refine g_cVi (pc := 75) (k := 55) (As := []) (st := []) ky_X12_readUnit kl_X12_235 (s_X12_readUnit_55 (d := 4) (hPl) (Nat.le_refl _) h_135) rfl rfl rfl (hPl.lt (by decide)) (Nat.le_trans (by decide) hd) (Nat.le_of_ble_eq_true rfl) (Nat.le_refl _) (Nat.le_refl _) dX12_readProduct_75 ?_
                  refine g_iconst (pc := 78) (v := (-1 : Int32)) dX12_readProduct_78 (by decide) ?_
                  refine g_icmp_ne (pc := 79) (tgt := 84) dX12_readProduct_79 rfl (fun c_138 => ?_) (fun c_138 => ?_)
                  · replace hF := am_no c_138 hF
                    refine g_aload_n (pc := 84) dX12_readProduct_84 rfl rfl ?_
                    refine g_iload_n (pc := 85) dX12_readProduct_85 rfl rfl ?_
                    obtain ⟨v_140, hR_141, hF⟩ := am_b1_el hF
                    have hJ_142 : G am_sc0 l d 0 0 mX12_readProduct (am_qi r N P I2) 94 [.ref 55, .int r_88] [.int v_140, .ref 55] N P I_137 0 0 := by
                      refine g_iconst (pc := 94) (v := (0 : Int32)) dX12_readProduct_94 rfl ?_
                      obtain ⟨I_144, h_143, hF⟩ := am_b1_el hF
                      refine g_cVv (pc := 95) (k := 55) (As := [.int v_140, .int (0 : Int32)]) (st := []) ky_X12_emits kl_X12_228 (s_X12_emits_55 (d := 1) (hPl) (Nat.le_refl _) h_143) rfl rfl rfl (hPl.lt (by decide)) (Nat.le_trans (by decide) hd) (Nat.le_of_ble_eq_true rfl) (Nat.le_refl _) (Nat.le_refl _) dX12_readProduct_95 ?_
                      refine g_goto (pc := 98) (tgt := 10) dX12_readProduct_98 rfl ?_
                      cases hF
                      exact g_weak (ih_8 (I_144) rfl) ⟨Or.inr rfl, Or.inl rfl, trivial⟩
                    clear hF
                    have hF := hR_141
                    clear hR_141
                    refine g_if_eq (pc := 86) (tgt := 93) dX12_readProduct_86 rfl (fun c_139 => ?_) (fun c_139 => ?_)
                    · replace hF := am_yes c_139 hF
                      refine g_iconst (pc := 93) (v := (5 : Int32)) dX12_readProduct_93 rfl ?_
                      cases hF
                      exact hJ_142
                    · replace hF := am_no c_139 hF
                      refine g_iconst (pc := 89) (v := (4 : Int32)) dX12_readProduct_89 rfl ?_
                      refine g_goto (pc := 90) (tgt := 94) dX12_readProduct_90 rfl ?_
                      cases hF
                      exact hJ_142
                  · replace hF := am_yes c_138 hF
                    refine g_iconst (pc := 82) (v := (-1 : Int32)) dX12_readProduct_82 (by decide) ?_
                    cases hF
                    have q_145 := hZ_11 _ (hE_9 _ rfl).symm
                    cases q_145
                    exact g_iret (pc := 83) rfl (Nat.le_refl _) (Nat.le_refl _) dX12_readProduct_83 ⟨rfl, rfl, rfl, rfl⟩
                · replace hF := am_yes c_134 hF
                  refine g_aload_n (pc := 68) dX12_readProduct_68 rfl rfl ?_
                  refine g_iconst (pc := 69) (v := (2 : Int32)) dX12_readProduct_69 rfl ?_
                  obtain ⟨r_147, I_148, h_146, hF⟩ := am_b2_el hF
                  refine g_cVi (pc := 70) (k := 55) (As := [.int (2 : Int32)]) (st := []) ky_X12_errs kl_X12_225 (s_X12_errs_55 (d := 1) (hPl) (Nat.le_refl _) h_146) rfl rfl rfl (hPl.lt (by decide)) (Nat.le_trans (by decide) hd) (Nat.le_of_ble_eq_true rfl) (Nat.le_refl _) (Nat.le_refl _) dX12_readProduct_70 ?_
                  cases hF
                  have q_149 := hZ_11 _ (hE_9 _ rfl).symm
                  cases q_149
                  exact g_iret (pc := 73) rfl (Nat.le_refl _) (Nat.le_refl _) dX12_readProduct_73 ⟨rfl, rfl, rfl, rfl⟩
            · replace hF := am_no c_121 hF
              refine g_aload_n (pc := 51) dX12_readProduct_51 rfl rfl ?_
              refine g_iconst (pc := 52) (v := (1 : Int32)) dX12_readProduct_52 rfl ?_
              obtain ⟨r_151, I_152, h_150, hF⟩ := am_b2_el hF
              refine g_cVi (pc := 53) (k := 55) (As := [.int (1 : Int32)]) (st := []) ky_X12_errs kl_X12_225 (s_X12_errs_55 (d := 1) (hPl) (Nat.le_refl _) h_150) rfl rfl rfl (hPl.lt (by decide)) (Nat.le_trans (by decide) hd) (Nat.le_of_ble_eq_true rfl) (Nat.le_refl _) (Nat.le_refl _) dX12_readProduct_53 ?_
              cases hF
              have q_153 := hZ_11 _ (hE_9 _ rfl).symm
              cases q_153
              exact g_iret (pc := 56) rfl (Nat.le_refl _) (Nat.le_refl _) dX12_readProduct_56 ⟨rfl, rfl, rfl, rfl⟩
      ) _ _ hL_10
    exact hC
  · replace hF := am_yes c_4 hF
    refine g_iconst (pc := 8) (v := (-1 : Int32)) dX12_readProduct_8 (by decide) ?_
    cases hF
    exact g_iret (pc := 9) rfl (Nat.le_refl _) (Nat.le_refl _) dX12_readProduct_9 ⟨rfl, rfl, rfl, rfl⟩
def F_X12_readSum_55 (I : am_IT) : Option (Int32 × am_IT) := am_b2 (F_X12_readProduct_55 I) (fun (r_2 : Int32) (I_3 : am_IT) => if r_2 = (-1 : Int32) then (some ((-1 : Int32), I_3)) else (am_lr (am_it am_fu (fun (I_5 : am_IT) => am_b1 (F_X12_isSign_55 I_5 (43 : Int32)) (fun (r_13 : Int32) => if r_13 = 0 then (am_b1 (F_X12_isSign_55 I_5 (45 : Int32)) (fun (r_30 : Int32) => if r_30 = 0 then (some (.inr (.inl (I_5)))) else (am_b1 (if (I_5 55 30) = (43 : Int32) then (some ((2 : Int32))) else (some ((3 : Int32)))) (fun (v_34 : Int32) => am_b1 (F_X12_reads_55 I_5) (fun (I_38 : am_IT) => am_b2 (F_X12_readProduct_55 I_38) (fun (r_40 : Int32) (I_41 : am_IT) => if r_40 = (-1 : Int32) then (some (.inr (.inr ((-1 : Int32), I_41)))) else (am_b1 (F_X12_emits_55 I_41 v_34 (0 : Int32)) (fun (I_44 : am_IT) => some (.inl (I_44)))))))))) else (am_b1 (if (I_5 55 30) = (43 : Int32) then (some ((2 : Int32))) else (some ((3 : Int32)))) (fun (v_17 : Int32) => am_b1 (F_X12_reads_55 I_5) (fun (I_21 : am_IT) => am_b2 (F_X12_readProduct_55 I_21) (fun (r_23 : Int32) (I_24 : am_IT) => if r_23 = (-1 : Int32) then (some (.inr (.inr ((-1 : Int32), I_24)))) else (am_b1 (F_X12_emits_55 I_24 v_17 (0 : Int32)) (fun (I_27 : am_IT) => some (.inl (I_27)))))))))) I_3) (fun (I_6 : am_IT) => some ((0 : Int32), I_6))))
set_option maxRecDepth 100000 in
set_option maxHeartbeats 4000000 in
theorem s_X12_readSum_55 {l : Launch} {d N : Nat} {P : am_PT} (hPl : am_Pl 94 N P) (hd : 6 ≤ d) {I : am_IT} {r : Int32} {I2 : am_IT} (hF : F_X12_readSum_55 I = some (r, I2)) : am_C l d 0 0 mX12_readSum [.ref 55] N P I (am_qi r N P I2) := by
  refine am_body (sc := am_sc0) (n := 1) (by decide +kernel) (by decide) rfl ?_
  change G am_sc0 l d 0 0 mX12_readSum (am_qi r N P I2) 0 [.ref 55, .null] [] N P I 0 0
  unfold F_X12_readSum_55 at hF
  refine g_aload_n (pc := 0) dX12_readSum_0 rfl rfl ?_
  obtain ⟨r_2, I_3, h_1, hF⟩ := am_b2_el hF
  refine g_cVi (pc := 1) (k := 55) (As := []) (st := []) ky_X12_readProduct kl_X12_242 (s_X12_readProduct_55 (d := 5) (hPl) (Nat.le_refl _) h_1) rfl rfl rfl (hPl.lt (by decide)) (Nat.le_trans (by decide) hd) (Nat.le_of_ble_eq_true rfl) (Nat.le_refl _) (Nat.le_refl _) dX12_readSum_1 ?_
  refine g_iconst (pc := 4) (v := (-1 : Int32)) dX12_readSum_4 (by decide) ?_
  refine g_icmp_ne (pc := 5) (tgt := 10) dX12_readSum_5 rfl (fun c_4 => ?_) (fun c_4 => ?_)
  · replace hF := am_no c_4 hF
    obtain ⟨x_46, hL_10, hF⟩ := am_lr_el hF
    have hX_7 : ∀ (I_6 : am_IT), x_46 = .inl I_6 → G am_sc0 l d 0 0 mX12_readSum (am_qi r N P I2) 66 [.ref 55, .null] [] N P I_6 0 0 := by
      intro I_6 q
      subst q
      refine g_iconst (pc := 66) (v := (0 : Int32)) dX12_readSum_66 rfl ?_
      cases hF
      exact g_iret (pc := 67) rfl (Nat.le_refl _) (Nat.le_refl _) dX12_readSum_67 ⟨rfl, rfl, rfl, rfl⟩
    have hZ_11 : ∀ y, x_46 = .inr y → y = _ := fun y q => by subst q; exact hF
    clear hF
    have hC := am_loop (C := fun x => G am_sc0 l d 0 0 mX12_readSum (am_qi r N P I2) 10 [.ref 55, .null] [] N P x 0 0) (by
      intro I_5 rr hF ih_8 hE_9
      refine g_aload_n (pc := 10) dX12_readSum_10 rfl rfl ?_
      refine g_bipush (pc := 11) (v := (43 : Int32)) dX12_readSum_11 rfl ?_
      obtain ⟨r_13, h_12, hF⟩ := am_b1_el hF
      refine g_cVz (pc := 13) (k := 55) (As := [.int (43 : Int32)]) (st := []) ky_X12_isSign kl_X12_239 (s_X12_isSign_55 (d := 1) (hPl) (Nat.le_refl _) h_12) rfl rfl rfl (hPl.lt (by decide)) (Nat.le_trans (by decide) hd) (Nat.le_of_ble_eq_true rfl) (Nat.le_refl _) (Nat.le_refl _) dX12_readSum_13 ?_
      intro z_14
      refine g_if_ne (pc := 16) (tgt := 28) dX12_readSum_16 rfl (fun c_15 => ?_) (fun c_15 => ?_)
      · replace hF := am_no c_15 hF
        refine g_aload_n (pc := 28) dX12_readSum_28 rfl rfl ?_
        refine g_getI (pc := 29) (k := 55) kf_X12_200.r rfl rfl (hPl.lt (by decide)) dX12_readSum_29 ?_
        refine g_bipush (pc := 32) (v := (43 : Int32)) dX12_readSum_32 rfl ?_
        obtain ⟨v_17, hR_18, hF⟩ := am_b1_el hF
        have hJ_19 : G am_sc0 l d 0 0 mX12_readSum (am_qi r N P I2) 42 [.ref 55, .null] [.int v_17] N P I_5 0 0 := by
          refine n_istore_n (pc := 42) (ls2 := [.ref 55, .int v_17]) rfl rfl dX12_readSum_42 rfl (Nat.le_of_ble_eq_true rfl) ?_
          refine g_aload_n (pc := 43) dX12_readSum_43 rfl rfl ?_
          obtain ⟨I_21, h_20, hF⟩ := am_b1_el hF
          refine g_cVv (pc := 44) (k := 55) (As := []) (st := []) ky_X12_reads kl_X12_232 (s_X12_reads_55 (d := 3) (hPl) (Nat.le_refl _) h_20) rfl rfl rfl (hPl.lt (by decide)) (Nat.le_trans (by decide) hd) (Nat.le_of_ble_eq_true rfl) (Nat.le_refl _) (Nat.le_refl _) dX12_readSum_44 ?_
          refine g_aload_n (pc := 47) dX12_readSum_47 rfl rfl ?_
          obtain ⟨r_23, I_24, h_22, hF⟩ := am_b2_el hF
          refine g_cVi (pc := 48) (k := 55) (As := []) (st := []) ky_X12_readProduct kl_X12_242 (s_X12_readProduct_55 (d := 5) (hPl) (Nat.le_refl _) h_22) rfl rfl rfl (hPl.lt (by decide)) (Nat.le_trans (by decide) hd) (Nat.le_of_ble_eq_true rfl) (Nat.le_refl _) (Nat.le_refl _) dX12_readSum_48 ?_
          refine g_iconst (pc := 51) (v := (-1 : Int32)) dX12_readSum_51 (by decide) ?_
          refine g_icmp_ne (pc := 52) (tgt := 57) dX12_readSum_52 rfl (fun c_25 => ?_) (fun c_25 => ?_)
          · replace hF := am_no c_25 hF
            refine g_aload_n (pc := 57) dX12_readSum_57 rfl rfl ?_
            refine g_iload_n (pc := 58) dX12_readSum_58 rfl rfl ?_
            refine g_iconst (pc := 59) (v := (0 : Int32)) dX12_readSum_59 rfl ?_
            obtain ⟨I_27, h_26, hF⟩ := am_b1_el hF
            refine g_cVv (pc := 60) (k := 55) (As := [.int v_17, .int (0 : Int32)]) (st := []) ky_X12_emits kl_X12_228 (s_X12_emits_55 (d := 1) (hPl) (Nat.le_refl _) h_26) rfl rfl rfl (hPl.lt (by decide)) (Nat.le_trans (by decide) hd) (Nat.le_of_ble_eq_true rfl) (Nat.le_refl _) (Nat.le_refl _) dX12_readSum_60 ?_
            refine g_goto (pc := 63) (tgt := 10) dX12_readSum_63 rfl ?_
            cases hF
            exact g_weak (ih_8 (I_27) rfl) ⟨Or.inr rfl, Or.inl rfl, trivial⟩
          · replace hF := am_yes c_25 hF
            refine g_iconst (pc := 55) (v := (-1 : Int32)) dX12_readSum_55 (by decide) ?_
            cases hF
            have q_28 := hZ_11 _ (hE_9 _ rfl).symm
            cases q_28
            exact g_iret (pc := 56) rfl (Nat.le_refl _) (Nat.le_refl _) dX12_readSum_56 ⟨rfl, rfl, rfl, rfl⟩
        clear hF
        have hF := hR_18
        clear hR_18
        refine g_icmp_ne (pc := 34) (tgt := 41) dX12_readSum_34 rfl (fun c_16 => ?_) (fun c_16 => ?_)
        · replace hF := am_no c_16 hF
          refine g_iconst (pc := 41) (v := (3 : Int32)) dX12_readSum_41 rfl ?_
          cases hF
          exact hJ_19
        · replace hF := am_yes c_16 hF
          refine g_iconst (pc := 37) (v := (2 : Int32)) dX12_readSum_37 rfl ?_
          refine g_goto (pc := 38) (tgt := 42) dX12_readSum_38 rfl ?_
          cases hF
          exact hJ_19
      · replace hF := am_yes c_15 hF
        refine g_aload_n (pc := 19) dX12_readSum_19 rfl rfl ?_
        refine g_bipush (pc := 20) (v := (45 : Int32)) dX12_readSum_20 rfl ?_
        obtain ⟨r_30, h_29, hF⟩ := am_b1_el hF
        refine g_cVz (pc := 22) (k := 55) (As := [.int (45 : Int32)]) (st := []) ky_X12_isSign kl_X12_239 (s_X12_isSign_55 (d := 1) (hPl) (Nat.le_refl _) h_29) rfl rfl rfl (hPl.lt (by decide)) (Nat.le_trans (by decide) hd) (Nat.le_of_ble_eq_true rfl) (Nat.le_refl _) (Nat.le_refl _) dX12_readSum_22 ?_
        intro z_31
        refine g_if_eq (pc := 25) (tgt := 66) dX12_readSum_25 rfl (fun c_32 => ?_) (fun c_32 => ?_)
        · replace hF := am_yes c_32 hF
          cases hF
          exact hX_7 _ (hE_9 _ rfl).symm
        · replace hF := am_no c_32 hF
          refine g_aload_n (pc := 28) dX12_readSum_28 rfl rfl ?_
          refine g_getI (pc := 29) (k := 55) kf_X12_200.r rfl rfl (hPl.lt (by decide)) dX12_readSum_29 ?_
          refine g_bipush (pc := 32) (v := (43 : Int32)) dX12_readSum_32 rfl ?_
          obtain ⟨v_34, hR_35, hF⟩ := am_b1_el hF
          have hJ_36 : G am_sc0 l d 0 0 mX12_readSum (am_qi r N P I2) 42 [.ref 55, .null] [.int v_34] N P I_5 0 0 := by
            refine n_istore_n (pc := 42) (ls2 := [.ref 55, .int v_34]) rfl rfl dX12_readSum_42 rfl (Nat.le_of_ble_eq_true rfl) ?_
            refine g_aload_n (pc := 43) dX12_readSum_43 rfl rfl ?_
            obtain ⟨I_38, h_37, hF⟩ := am_b1_el hF
            refine g_cVv (pc := 44) (k := 55) (As := []) (st := []) ky_X12_reads kl_X12_232 (s_X12_reads_55 (d := 3) (hPl) (Nat.le_refl _) h_37) rfl rfl rfl (hPl.lt (by decide)) (Nat.le_trans (by decide) hd) (Nat.le_of_ble_eq_true rfl) (Nat.le_refl _) (Nat.le_refl _) dX12_readSum_44 ?_
            refine g_aload_n (pc := 47) dX12_readSum_47 rfl rfl ?_
            obtain ⟨r_40, I_41, h_39, hF⟩ := am_b2_el hF
            refine g_cVi (pc := 48) (k := 55) (As := []) (st := []) ky_X12_readProduct kl_X12_242 (s_X12_readProduct_55 (d := 5) (hPl) (Nat.le_refl _) h_39) rfl rfl rfl (hPl.lt (by decide)) (Nat.le_trans (by decide) hd) (Nat.le_of_ble_eq_true rfl) (Nat.le_refl _) (Nat.le_refl _) dX12_readSum_48 ?_
            refine g_iconst (pc := 51) (v := (-1 : Int32)) dX12_readSum_51 (by decide) ?_
            refine g_icmp_ne (pc := 52) (tgt := 57) dX12_readSum_52 rfl (fun c_42 => ?_) (fun c_42 => ?_)
            · replace hF := am_no c_42 hF
              refine g_aload_n (pc := 57) dX12_readSum_57 rfl rfl ?_
              refine g_iload_n (pc := 58) dX12_readSum_58 rfl rfl ?_
              refine g_iconst (pc := 59) (v := (0 : Int32)) dX12_readSum_59 rfl ?_
              obtain ⟨I_44, h_43, hF⟩ := am_b1_el hF
              refine g_cVv (pc := 60) (k := 55) (As := [.int v_34, .int (0 : Int32)]) (st := []) ky_X12_emits kl_X12_228 (s_X12_emits_55 (d := 1) (hPl) (Nat.le_refl _) h_43) rfl rfl rfl (hPl.lt (by decide)) (Nat.le_trans (by decide) hd) (Nat.le_of_ble_eq_true rfl) (Nat.le_refl _) (Nat.le_refl _) dX12_readSum_60 ?_
              refine g_goto (pc := 63) (tgt := 10) dX12_readSum_63 rfl ?_
              cases hF
              exact g_weak (ih_8 (I_44) rfl) ⟨Or.inr rfl, Or.inl rfl, trivial⟩
            · replace hF := am_yes c_42 hF
              refine g_iconst (pc := 55) (v := (-1 : Int32)) dX12_readSum_55 (by decide) ?_
              cases hF
              have q_45 := hZ_11 _ (hE_9 _ rfl).symm
              cases q_45
              exact g_iret (pc := 56) rfl (Nat.le_refl _) (Nat.le_refl _) dX12_readSum_56 ⟨rfl, rfl, rfl, rfl⟩
          clear hF
          have hF := hR_35
          clear hR_35
          refine g_icmp_ne (pc := 34) (tgt := 41) dX12_readSum_34 rfl (fun c_33 => ?_) (fun c_33 => ?_)
          · replace hF := am_no c_33 hF
            refine g_iconst (pc := 41) (v := (3 : Int32)) dX12_readSum_41 rfl ?_
            cases hF
            exact hJ_36
          · replace hF := am_yes c_33 hF
            refine g_iconst (pc := 37) (v := (2 : Int32)) dX12_readSum_37 rfl ?_
            refine g_goto (pc := 38) (tgt := 42) dX12_readSum_38 rfl ?_
            cases hF
            exact hJ_36
      ) _ _ hL_10
    exact hC
  · replace hF := am_yes c_4 hF
    refine g_iconst (pc := 8) (v := (-1 : Int32)) dX12_readSum_8 (by decide) ?_
    cases hF
    exact g_iret (pc := 9) rfl (Nat.le_refl _) (Nat.le_refl _) dX12_readSum_9 ⟨rfl, rfl, rfl, rfl⟩
def F_X12_readCompared_55 (I : am_IT) : Option (Int32 × am_IT) := am_b2 (F_X12_readSum_55 I) (fun (r_2 : Int32) (I_3 : am_IT) => if r_2 = (-1 : Int32) then (some ((-1 : Int32), I_3)) else (am_b1 (F_X12_isSign_55 I_3 (60 : Int32)) (fun (r_6 : Int32) => if r_6 = 0 then (am_b1 (F_X12_isSign_55 I_3 (61 : Int32)) (fun (r_23 : Int32) => if r_23 = 0 then (am_b1 (F_X12_isSign_55 I_3 (62 : Int32)) (fun (r_40 : Int32) => if r_40 = 0 then (am_b2 (F_X12_errs_55 I_3 (1 : Int32)) (fun (r_57 : Int32) (I_58 : am_IT) => some (r_57, I_58))) else (am_b1 (if (I_3 55 30) = (60 : Int32) then (some ((6 : Int32))) else (if (I_3 55 30) = (61 : Int32) then (some ((7 : Int32))) else (some ((8 : Int32))))) (fun (v_44 : Int32) => am_b1 (F_X12_reads_55 I_3) (fun (I_49 : am_IT) => am_b2 (F_X12_readSum_55 I_49) (fun (r_51 : Int32) (I_52 : am_IT) => if r_51 = (-1 : Int32) then (some ((-1 : Int32), I_52)) else (am_b1 (F_X12_emits_55 I_52 v_44 (0 : Int32)) (fun (I_55 : am_IT) => some ((0 : Int32), I_55))))))))) else (am_b1 (if (I_3 55 30) = (60 : Int32) then (some ((6 : Int32))) else (if (I_3 55 30) = (61 : Int32) then (some ((7 : Int32))) else (some ((8 : Int32))))) (fun (v_27 : Int32) => am_b1 (F_X12_reads_55 I_3) (fun (I_32 : am_IT) => am_b2 (F_X12_readSum_55 I_32) (fun (r_34 : Int32) (I_35 : am_IT) => if r_34 = (-1 : Int32) then (some ((-1 : Int32), I_35)) else (am_b1 (F_X12_emits_55 I_35 v_27 (0 : Int32)) (fun (I_38 : am_IT) => some ((0 : Int32), I_38))))))))) else (am_b1 (if (I_3 55 30) = (60 : Int32) then (some ((6 : Int32))) else (if (I_3 55 30) = (61 : Int32) then (some ((7 : Int32))) else (some ((8 : Int32))))) (fun (v_10 : Int32) => am_b1 (F_X12_reads_55 I_3) (fun (I_15 : am_IT) => am_b2 (F_X12_readSum_55 I_15) (fun (r_17 : Int32) (I_18 : am_IT) => if r_17 = (-1 : Int32) then (some ((-1 : Int32), I_18)) else (am_b1 (F_X12_emits_55 I_18 v_10 (0 : Int32)) (fun (I_21 : am_IT) => some ((0 : Int32), I_21))))))))))
set_option maxRecDepth 100000 in
set_option maxHeartbeats 4000000 in
theorem s_X12_readCompared_55 {l : Launch} {d N : Nat} {P : am_PT} (hPl : am_Pl 94 N P) (hd : 7 ≤ d) {I : am_IT} {r : Int32} {I2 : am_IT} (hF : F_X12_readCompared_55 I = some (r, I2)) : am_C l d 0 0 mX12_readCompared [.ref 55] N P I (am_qi r N P I2) := by
  refine am_body (sc := am_sc0) (n := 1) (by decide +kernel) (by decide) rfl ?_
  change G am_sc0 l d 0 0 mX12_readCompared (am_qi r N P I2) 0 [.ref 55, .null] [] N P I 0 0
  unfold F_X12_readCompared_55 at hF
  refine g_aload_n (pc := 0) dX12_readCompared_0 rfl rfl ?_
  obtain ⟨r_2, I_3, h_1, hF⟩ := am_b2_el hF
  refine g_cVi (pc := 1) (k := 55) (As := []) (st := []) ky_X12_readSum kl_X12_245 (s_X12_readSum_55 (d := 6) (hPl) (Nat.le_refl _) h_1) rfl rfl rfl (hPl.lt (by decide)) (Nat.le_trans (by decide) hd) (Nat.le_of_ble_eq_true rfl) (Nat.le_refl _) (Nat.le_refl _) dX12_readCompared_1 ?_
  refine g_iconst (pc := 4) (v := (-1 : Int32)) dX12_readCompared_4 (by decide) ?_
  refine g_icmp_ne (pc := 5) (tgt := 10) dX12_readCompared_5 rfl (fun c_4 => ?_) (fun c_4 => ?_)
  · replace hF := am_no c_4 hF
    refine g_aload_n (pc := 10) dX12_readCompared_10 rfl rfl ?_
    refine g_bipush (pc := 11) (v := (60 : Int32)) dX12_readCompared_11 rfl ?_
    obtain ⟨r_6, h_5, hF⟩ := am_b1_el hF
    refine g_cVz (pc := 13) (k := 55) (As := [.int (60 : Int32)]) (st := []) ky_X12_isSign kl_X12_239 (s_X12_isSign_55 (d := 1) (hPl) (Nat.le_refl _) h_5) rfl rfl rfl (hPl.lt (by decide)) (Nat.le_trans (by decide) hd) (Nat.le_of_ble_eq_true rfl) (Nat.le_refl _) (Nat.le_refl _) dX12_readCompared_13 ?_
    intro z_7
    refine g_if_ne (pc := 16) (tgt := 43) dX12_readCompared_16 rfl (fun c_8 => ?_) (fun c_8 => ?_)
    · replace hF := am_no c_8 hF
      refine g_aload_n (pc := 43) dX12_readCompared_43 rfl rfl ?_
      refine g_getI (pc := 44) (k := 55) kf_X12_200.r rfl rfl (hPl.lt (by decide)) dX12_readCompared_44 ?_
      refine g_bipush (pc := 47) (v := (60 : Int32)) dX12_readCompared_47 rfl ?_
      obtain ⟨v_10, hR_11, hF⟩ := am_b1_el hF
      have hJ_12 : G am_sc0 l d 0 0 mX12_readCompared (am_qi r N P I2) 73 [.ref 55, .null] [.int v_10] N P I_3 0 0 := by
        refine n_istore_n (pc := 73) (ls2 := [.ref 55, .int v_10]) rfl rfl dX12_readCompared_73 rfl (Nat.le_of_ble_eq_true rfl) ?_
        refine g_aload_n (pc := 74) dX12_readCompared_74 rfl rfl ?_
        obtain ⟨I_15, h_14, hF⟩ := am_b1_el hF
        refine g_cVv (pc := 75) (k := 55) (As := []) (st := []) ky_X12_reads kl_X12_232 (s_X12_reads_55 (d := 3) (hPl) (Nat.le_refl _) h_14) rfl rfl rfl (hPl.lt (by decide)) (Nat.le_trans (by decide) hd) (Nat.le_of_ble_eq_true rfl) (Nat.le_refl _) (Nat.le_refl _) dX12_readCompared_75 ?_
        refine g_aload_n (pc := 78) dX12_readCompared_78 rfl rfl ?_
        obtain ⟨r_17, I_18, h_16, hF⟩ := am_b2_el hF
        refine g_cVi (pc := 79) (k := 55) (As := []) (st := []) ky_X12_readSum kl_X12_245 (s_X12_readSum_55 (d := 6) (hPl) (Nat.le_refl _) h_16) rfl rfl rfl (hPl.lt (by decide)) (Nat.le_trans (by decide) hd) (Nat.le_of_ble_eq_true rfl) (Nat.le_refl _) (Nat.le_refl _) dX12_readCompared_79 ?_
        refine g_iconst (pc := 82) (v := (-1 : Int32)) dX12_readCompared_82 (by decide) ?_
        refine g_icmp_ne (pc := 83) (tgt := 88) dX12_readCompared_83 rfl (fun c_19 => ?_) (fun c_19 => ?_)
        · replace hF := am_no c_19 hF
          refine g_aload_n (pc := 88) dX12_readCompared_88 rfl rfl ?_
          refine g_iload_n (pc := 89) dX12_readCompared_89 rfl rfl ?_
          refine g_iconst (pc := 90) (v := (0 : Int32)) dX12_readCompared_90 rfl ?_
          obtain ⟨I_21, h_20, hF⟩ := am_b1_el hF
          refine g_cVv (pc := 91) (k := 55) (As := [.int v_10, .int (0 : Int32)]) (st := []) ky_X12_emits kl_X12_228 (s_X12_emits_55 (d := 1) (hPl) (Nat.le_refl _) h_20) rfl rfl rfl (hPl.lt (by decide)) (Nat.le_trans (by decide) hd) (Nat.le_of_ble_eq_true rfl) (Nat.le_refl _) (Nat.le_refl _) dX12_readCompared_91 ?_
          refine g_iconst (pc := 94) (v := (0 : Int32)) dX12_readCompared_94 rfl ?_
          cases hF
          exact g_iret (pc := 95) rfl (Nat.le_refl _) (Nat.le_refl _) dX12_readCompared_95 ⟨rfl, rfl, rfl, rfl⟩
        · replace hF := am_yes c_19 hF
          refine g_iconst (pc := 86) (v := (-1 : Int32)) dX12_readCompared_86 (by decide) ?_
          cases hF
          exact g_iret (pc := 87) rfl (Nat.le_refl _) (Nat.le_refl _) dX12_readCompared_87 ⟨rfl, rfl, rfl, rfl⟩
      clear hF
      have hF := hR_11
      clear hR_11
      refine g_icmp_ne (pc := 49) (tgt := 57) dX12_readCompared_49 rfl (fun c_9 => ?_) (fun c_9 => ?_)
      · replace hF := am_no c_9 hF
        refine g_aload_n (pc := 57) dX12_readCompared_57 rfl rfl ?_
        refine g_getI (pc := 58) (k := 55) kf_X12_200.r rfl rfl (hPl.lt (by decide)) dX12_readCompared_58 ?_
        refine g_bipush (pc := 61) (v := (61 : Int32)) dX12_readCompared_61 rfl ?_
        refine g_icmp_ne (pc := 63) (tgt := 71) dX12_readCompared_63 rfl (fun c_13 => ?_) (fun c_13 => ?_)
        · replace hF := am_no c_13 hF
          refine g_bipush (pc := 71) (v := (8 : Int32)) dX12_readCompared_71 rfl ?_
          cases hF
          exact hJ_12
        · replace hF := am_yes c_13 hF
          refine g_bipush (pc := 66) (v := (7 : Int32)) dX12_readCompared_66 rfl ?_
          refine g_goto (pc := 68) (tgt := 73) dX12_readCompared_68 rfl ?_
          cases hF
          exact hJ_12
      · replace hF := am_yes c_9 hF
        refine g_bipush (pc := 52) (v := (6 : Int32)) dX12_readCompared_52 rfl ?_
        refine g_goto (pc := 54) (tgt := 73) dX12_readCompared_54 rfl ?_
        cases hF
        exact hJ_12
    · replace hF := am_yes c_8 hF
      refine g_aload_n (pc := 19) dX12_readCompared_19 rfl rfl ?_
      refine g_bipush (pc := 20) (v := (61 : Int32)) dX12_readCompared_20 rfl ?_
      obtain ⟨r_23, h_22, hF⟩ := am_b1_el hF
      refine g_cVz (pc := 22) (k := 55) (As := [.int (61 : Int32)]) (st := []) ky_X12_isSign kl_X12_239 (s_X12_isSign_55 (d := 1) (hPl) (Nat.le_refl _) h_22) rfl rfl rfl (hPl.lt (by decide)) (Nat.le_trans (by decide) hd) (Nat.le_of_ble_eq_true rfl) (Nat.le_refl _) (Nat.le_refl _) dX12_readCompared_22 ?_
      intro z_24
      refine g_if_ne (pc := 25) (tgt := 43) dX12_readCompared_25 rfl (fun c_25 => ?_) (fun c_25 => ?_)
      · replace hF := am_no c_25 hF
        refine g_aload_n (pc := 43) dX12_readCompared_43 rfl rfl ?_
        refine g_getI (pc := 44) (k := 55) kf_X12_200.r rfl rfl (hPl.lt (by decide)) dX12_readCompared_44 ?_
        refine g_bipush (pc := 47) (v := (60 : Int32)) dX12_readCompared_47 rfl ?_
        obtain ⟨v_27, hR_28, hF⟩ := am_b1_el hF
        have hJ_29 : G am_sc0 l d 0 0 mX12_readCompared (am_qi r N P I2) 73 [.ref 55, .null] [.int v_27] N P I_3 0 0 := by
          refine n_istore_n (pc := 73) (ls2 := [.ref 55, .int v_27]) rfl rfl dX12_readCompared_73 rfl (Nat.le_of_ble_eq_true rfl) ?_
          refine g_aload_n (pc := 74) dX12_readCompared_74 rfl rfl ?_
          obtain ⟨I_32, h_31, hF⟩ := am_b1_el hF
          refine g_cVv (pc := 75) (k := 55) (As := []) (st := []) ky_X12_reads kl_X12_232 (s_X12_reads_55 (d := 3) (hPl) (Nat.le_refl _) h_31) rfl rfl rfl (hPl.lt (by decide)) (Nat.le_trans (by decide) hd) (Nat.le_of_ble_eq_true rfl) (Nat.le_refl _) (Nat.le_refl _) dX12_readCompared_75 ?_
          refine g_aload_n (pc := 78) dX12_readCompared_78 rfl rfl ?_
          obtain ⟨r_34, I_35, h_33, hF⟩ := am_b2_el hF
          refine g_cVi (pc := 79) (k := 55) (As := []) (st := []) ky_X12_readSum kl_X12_245 (s_X12_readSum_55 (d := 6) (hPl) (Nat.le_refl _) h_33) rfl rfl rfl (hPl.lt (by decide)) (Nat.le_trans (by decide) hd) (Nat.le_of_ble_eq_true rfl) (Nat.le_refl _) (Nat.le_refl _) dX12_readCompared_79 ?_
          refine g_iconst (pc := 82) (v := (-1 : Int32)) dX12_readCompared_82 (by decide) ?_
          refine g_icmp_ne (pc := 83) (tgt := 88) dX12_readCompared_83 rfl (fun c_36 => ?_) (fun c_36 => ?_)
          · replace hF := am_no c_36 hF
            refine g_aload_n (pc := 88) dX12_readCompared_88 rfl rfl ?_
            refine g_iload_n (pc := 89) dX12_readCompared_89 rfl rfl ?_
            refine g_iconst (pc := 90) (v := (0 : Int32)) dX12_readCompared_90 rfl ?_
            obtain ⟨I_38, h_37, hF⟩ := am_b1_el hF
            refine g_cVv (pc := 91) (k := 55) (As := [.int v_27, .int (0 : Int32)]) (st := []) ky_X12_emits kl_X12_228 (s_X12_emits_55 (d := 1) (hPl) (Nat.le_refl _) h_37) rfl rfl rfl (hPl.lt (by decide)) (Nat.le_trans (by decide) hd) (Nat.le_of_ble_eq_true rfl) (Nat.le_refl _) (Nat.le_refl _) dX12_readCompared_91 ?_
            refine g_iconst (pc := 94) (v := (0 : Int32)) dX12_readCompared_94 rfl ?_
            cases hF
            exact g_iret (pc := 95) rfl (Nat.le_refl _) (Nat.le_refl _) dX12_readCompared_95 ⟨rfl, rfl, rfl, rfl⟩
          · replace hF := am_yes c_36 hF
            refine g_iconst (pc := 86) (v := (-1 : Int32)) dX12_readCompared_86 (by decide) ?_
            cases hF
            exact g_iret (pc := 87) rfl (Nat.le_refl _) (Nat.le_refl _) dX12_readCompared_87 ⟨rfl, rfl, rfl, rfl⟩
        clear hF
        have hF := hR_28
        clear hR_28
        refine g_icmp_ne (pc := 49) (tgt := 57) dX12_readCompared_49 rfl (fun c_26 => ?_) (fun c_26 => ?_)
        · replace hF := am_no c_26 hF
          refine g_aload_n (pc := 57) dX12_readCompared_57 rfl rfl ?_
          refine g_getI (pc := 58) (k := 55) kf_X12_200.r rfl rfl (hPl.lt (by decide)) dX12_readCompared_58 ?_
          refine g_bipush (pc := 61) (v := (61 : Int32)) dX12_readCompared_61 rfl ?_
          refine g_icmp_ne (pc := 63) (tgt := 71) dX12_readCompared_63 rfl (fun c_30 => ?_) (fun c_30 => ?_)
          · replace hF := am_no c_30 hF
            refine g_bipush (pc := 71) (v := (8 : Int32)) dX12_readCompared_71 rfl ?_
            cases hF
            exact hJ_29
          · replace hF := am_yes c_30 hF
            refine g_bipush (pc := 66) (v := (7 : Int32)) dX12_readCompared_66 rfl ?_
            refine g_goto (pc := 68) (tgt := 73) dX12_readCompared_68 rfl ?_
            cases hF
            exact hJ_29
        · replace hF := am_yes c_26 hF
          refine g_bipush (pc := 52) (v := (6 : Int32)) dX12_readCompared_52 rfl ?_
          refine g_goto (pc := 54) (tgt := 73) dX12_readCompared_54 rfl ?_
          cases hF
          exact hJ_29
      · replace hF := am_yes c_25 hF
        refine g_aload_n (pc := 28) dX12_readCompared_28 rfl rfl ?_
        refine g_bipush (pc := 29) (v := (62 : Int32)) dX12_readCompared_29 rfl ?_
        obtain ⟨r_40, h_39, hF⟩ := am_b1_el hF
        refine g_cVz (pc := 31) (k := 55) (As := [.int (62 : Int32)]) (st := []) ky_X12_isSign kl_X12_239 (s_X12_isSign_55 (d := 1) (hPl) (Nat.le_refl _) h_39) rfl rfl rfl (hPl.lt (by decide)) (Nat.le_trans (by decide) hd) (Nat.le_of_ble_eq_true rfl) (Nat.le_refl _) (Nat.le_refl _) dX12_readCompared_31 ?_
        intro z_41
        refine g_if_ne (pc := 34) (tgt := 43) dX12_readCompared_34 rfl (fun c_42 => ?_) (fun c_42 => ?_)
        · replace hF := am_no c_42 hF
          refine g_aload_n (pc := 43) dX12_readCompared_43 rfl rfl ?_
          refine g_getI (pc := 44) (k := 55) kf_X12_200.r rfl rfl (hPl.lt (by decide)) dX12_readCompared_44 ?_
          refine g_bipush (pc := 47) (v := (60 : Int32)) dX12_readCompared_47 rfl ?_
          obtain ⟨v_44, hR_45, hF⟩ := am_b1_el hF
          have hJ_46 : G am_sc0 l d 0 0 mX12_readCompared (am_qi r N P I2) 73 [.ref 55, .null] [.int v_44] N P I_3 0 0 := by
            refine n_istore_n (pc := 73) (ls2 := [.ref 55, .int v_44]) rfl rfl dX12_readCompared_73 rfl (Nat.le_of_ble_eq_true rfl) ?_
            refine g_aload_n (pc := 74) dX12_readCompared_74 rfl rfl ?_
            obtain ⟨I_49, h_48, hF⟩ := am_b1_el hF
            refine g_cVv (pc := 75) (k := 55) (As := []) (st := []) ky_X12_reads kl_X12_232 (s_X12_reads_55 (d := 3) (hPl) (Nat.le_refl _) h_48) rfl rfl rfl (hPl.lt (by decide)) (Nat.le_trans (by decide) hd) (Nat.le_of_ble_eq_true rfl) (Nat.le_refl _) (Nat.le_refl _) dX12_readCompared_75 ?_
            refine g_aload_n (pc := 78) dX12_readCompared_78 rfl rfl ?_
            obtain ⟨r_51, I_52, h_50, hF⟩ := am_b2_el hF
            refine g_cVi (pc := 79) (k := 55) (As := []) (st := []) ky_X12_readSum kl_X12_245 (s_X12_readSum_55 (d := 6) (hPl) (Nat.le_refl _) h_50) rfl rfl rfl (hPl.lt (by decide)) (Nat.le_trans (by decide) hd) (Nat.le_of_ble_eq_true rfl) (Nat.le_refl _) (Nat.le_refl _) dX12_readCompared_79 ?_
            refine g_iconst (pc := 82) (v := (-1 : Int32)) dX12_readCompared_82 (by decide) ?_
            refine g_icmp_ne (pc := 83) (tgt := 88) dX12_readCompared_83 rfl (fun c_53 => ?_) (fun c_53 => ?_)
            · replace hF := am_no c_53 hF
              refine g_aload_n (pc := 88) dX12_readCompared_88 rfl rfl ?_
              refine g_iload_n (pc := 89) dX12_readCompared_89 rfl rfl ?_
              refine g_iconst (pc := 90) (v := (0 : Int32)) dX12_readCompared_90 rfl ?_
              obtain ⟨I_55, h_54, hF⟩ := am_b1_el hF
              refine g_cVv (pc := 91) (k := 55) (As := [.int v_44, .int (0 : Int32)]) (st := []) ky_X12_emits kl_X12_228 (s_X12_emits_55 (d := 1) (hPl) (Nat.le_refl _) h_54) rfl rfl rfl (hPl.lt (by decide)) (Nat.le_trans (by decide) hd) (Nat.le_of_ble_eq_true rfl) (Nat.le_refl _) (Nat.le_refl _) dX12_readCompared_91 ?_
              refine g_iconst (pc := 94) (v := (0 : Int32)) dX12_readCompared_94 rfl ?_
              cases hF
              exact g_iret (pc := 95) rfl (Nat.le_refl _) (Nat.le_refl _) dX12_readCompared_95 ⟨rfl, rfl, rfl, rfl⟩
            · replace hF := am_yes c_53 hF
              refine g_iconst (pc := 86) (v := (-1 : Int32)) dX12_readCompared_86 (by decide) ?_
              cases hF
              exact g_iret (pc := 87) rfl (Nat.le_refl _) (Nat.le_refl _) dX12_readCompared_87 ⟨rfl, rfl, rfl, rfl⟩
          clear hF
          have hF := hR_45
          clear hR_45
          refine g_icmp_ne (pc := 49) (tgt := 57) dX12_readCompared_49 rfl (fun c_43 => ?_) (fun c_43 => ?_)
          · replace hF := am_no c_43 hF
            refine g_aload_n (pc := 57) dX12_readCompared_57 rfl rfl ?_
            refine g_getI (pc := 58) (k := 55) kf_X12_200.r rfl rfl (hPl.lt (by decide)) dX12_readCompared_58 ?_
            refine g_bipush (pc := 61) (v := (61 : Int32)) dX12_readCompared_61 rfl ?_
            refine g_icmp_ne (pc := 63) (tgt := 71) dX12_readCompared_63 rfl (fun c_47 => ?_) (fun c_47 => ?_)
            · replace hF := am_no c_47 hF
              refine g_bipush (pc := 71) (v := (8 : Int32)) dX12_readCompared_71 rfl ?_
              cases hF
              exact hJ_46
            · replace hF := am_yes c_47 hF
              refine g_bipush (pc := 66) (v := (7 : Int32)) dX12_readCompared_66 rfl ?_
              refine g_goto (pc := 68) (tgt := 73) dX12_readCompared_68 rfl ?_
              cases hF
              exact hJ_46
          · replace hF := am_yes c_43 hF
            refine g_bipush (pc := 52) (v := (6 : Int32)) dX12_readCompared_52 rfl ?_
            refine g_goto (pc := 54) (tgt := 73) dX12_readCompared_54 rfl ?_
            cases hF
            exact hJ_46
        · replace hF := am_yes c_42 hF
          refine g_aload_n (pc := 37) dX12_readCompared_37 rfl rfl ?_
          refine g_iconst (pc := 38) (v := (1 : Int32)) dX12_readCompared_38 rfl ?_
          obtain ⟨r_57, I_58, h_56, hF⟩ := am_b2_el hF
          refine g_cVi (pc := 39) (k := 55) (As := [.int (1 : Int32)]) (st := []) ky_X12_errs kl_X12_225 (s_X12_errs_55 (d := 1) (hPl) (Nat.le_refl _) h_56) rfl rfl rfl (hPl.lt (by decide)) (Nat.le_trans (by decide) hd) (Nat.le_of_ble_eq_true rfl) (Nat.le_refl _) (Nat.le_refl _) dX12_readCompared_39 ?_
          cases hF
          exact g_iret (pc := 42) rfl (Nat.le_refl _) (Nat.le_refl _) dX12_readCompared_42 ⟨rfl, rfl, rfl, rfl⟩
  · replace hF := am_yes c_4 hF
    refine g_iconst (pc := 8) (v := (-1 : Int32)) dX12_readCompared_8 (by decide) ?_
    cases hF
    exact g_iret (pc := 9) rfl (Nat.le_refl _) (Nat.le_refl _) dX12_readCompared_9 ⟨rfl, rfl, rfl, rfl⟩
def F_X12_waits_55 (I : am_IT) (a1 : Int32) : Option (am_IT) := if am_ix (I 55 41) 40 = true then (am_let (up2 I 80 (I 55 41).toNatClampNeg a1) (fun (I_2 : am_IT) => am_let (up2 I_2 55 41 ((I_2 55 41) + (1 : Int32))) (fun (I_3 : am_IT) => some I_3))) else none
set_option maxRecDepth 100000 in
set_option maxHeartbeats 4000000 in
theorem s_X12_waits_55 {l : Launch} {d N : Nat} {P : am_PT} (hPl : am_Pl 94 N P) (hd : 1 ≤ d) {I : am_IT} {a1 : Int32} {I2 : am_IT} (hF : F_X12_waits_55 I a1 = some (I2)) : am_C l d 0 0 mX12_waits [.ref 55, .int a1] N P I (am_qv N P I2) := by
  refine am_body (sc := am_sc0) (n := 0) (by decide +kernel) (by decide) rfl ?_
  change G am_sc0 l d 0 0 mX12_waits (am_qv N P I2) 0 [.ref 55, .int a1] [] N P I 0 0
  unfold F_X12_waits_55 at hF
  refine g_aload_n (pc := 0) dX12_waits_0 rfl rfl ?_
  refine g_getR (pc := 1) (k := 55) (r := 80) kf_X12_86.r rfl rfl (hPl.get (by decide) rfl) (hPl.lt (by decide)) dX12_waits_1 ?_
  refine g_aload_n (pc := 4) dX12_waits_4 rfl rfl ?_
  refine g_getI (pc := 5) (k := 55) kf_X12_248.r rfl rfl (hPl.lt (by decide)) dX12_waits_5 ?_
  refine g_iload_n (pc := 8) dX12_waits_8 rfl rfl ?_
  obtain ⟨c_1, hF⟩ := am_gd hF
  obtain ⟨I_2, e_I_2, hF⟩ := am_let_el hF
  refine n_iast (pc := 9) (k := 80) e_I_2 rfl (hPl.lt (by decide)) (am_ix_use c_1) dX12_waits_9 ?_
  refine g_aload_n (pc := 10) dX12_waits_10 rfl rfl ?_
  refine g_aload_n (pc := 11) dX12_waits_11 rfl rfl ?_
  refine g_getI (pc := 12) (k := 55) kf_X12_248.r rfl rfl (hPl.lt (by decide)) dX12_waits_12 ?_
  refine g_iconst (pc := 15) (v := (1 : Int32)) dX12_waits_15 rfl ?_
  refine g_iadd (pc := 16) dX12_waits_16 ?_
  obtain ⟨I_3, e_I_3, hF⟩ := am_let_el hF
  refine n_putI (pc := 17) (k := 55) e_I_3 kf_X12_248 rfl rfl (hPl.lt (by decide)) dX12_waits_17 ?_
  cases hF
  exact g_vret (pc := 20) rfl (Nat.le_refl _) (Nat.le_refl _) dX12_waits_20 ⟨rfl, rfl, rfl, rfl⟩
def F_X12_settles_55 (I : am_IT) (a1 : Int32) : Option (am_IT) := am_b1 (am_it am_fu (fun (I_1 : am_IT) => if (I_1 55 41) ≤ 0 then (some (.inr (I_1))) else (if am_ix ((I_1 55 41) - (1 : Int32)) 40 = true then (if (I_1 80 ((I_1 55 41) - (1 : Int32)).toNatClampNeg) = a1 then (am_let (up2 I_1 55 41 ((I_1 55 41) - (1 : Int32))) (fun (I_11 : am_IT) => am_b1 (F_X12_emits_55 I_11 a1 (0 : Int32)) (fun (I_13 : am_IT) => if a1 = (9 : Int32) then (am_let (up2 I_13 55 39 ((I_13 55 39) - (1 : Int32))) (fun (I_15 : am_IT) => some (.inl (I_15)))) else (some (.inl (I_13)))))) else (some (.inr (I_1)))) else none)) I) (fun (I_2 : am_IT) => some I_2)
set_option maxRecDepth 100000 in
set_option maxHeartbeats 4000000 in
theorem s_X12_settles_55 {l : Launch} {d N : Nat} {P : am_PT} (hPl : am_Pl 94 N P) (hd : 2 ≤ d) {I : am_IT} {a1 : Int32} {I2 : am_IT} (hF : F_X12_settles_55 I a1 = some (I2)) : am_C l d 0 0 mX12_settles [.ref 55, .int a1] N P I (am_qv N P I2) := by
  refine am_body (sc := am_sc0) (n := 0) (by decide +kernel) (by decide) rfl ?_
  change G am_sc0 l d 0 0 mX12_settles (am_qv N P I2) 0 [.ref 55, .int a1] [] N P I 0 0
  unfold F_X12_settles_55 at hF
  obtain ⟨I_2, hL_6, hF⟩ := am_b1_el hF
  have hX_3 : G am_sc0 l d 0 0 mX12_settles (am_qv N P I2) 57 [.ref 55, .int a1] [] N P I_2 0 0 := by
    cases hF
    exact g_vret (pc := 57) rfl (Nat.le_refl _) (Nat.le_refl _) dX12_settles_57 ⟨rfl, rfl, rfl, rfl⟩
  clear hF
  have hC := am_loop (C := fun x => G am_sc0 l d 0 0 mX12_settles (am_qv N P I2) 0 [.ref 55, .int a1] [] N P x 0 0) (by
    intro I_1 rr hF ih_4 hE_5
    refine g_aload_n (pc := 0) dX12_settles_0 rfl rfl ?_
    refine g_getI (pc := 1) (k := 55) kf_X12_248.r rfl rfl (hPl.lt (by decide)) dX12_settles_1 ?_
    refine g_if_le (pc := 4) (tgt := 57) dX12_settles_4 rfl (fun c_8 => ?_) (fun c_8 => ?_)
    · replace hF := am_yes c_8 hF
      cases hF
      cases hE_5 _ rfl
      exact hX_3
    · replace hF := am_no c_8 hF
      refine g_aload_n (pc := 7) dX12_settles_7 rfl rfl ?_
      refine g_getR (pc := 8) (k := 55) (r := 80) kf_X12_86.r rfl rfl (hPl.get (by decide) rfl) (hPl.lt (by decide)) dX12_settles_8 ?_
      refine g_aload_n (pc := 11) dX12_settles_11 rfl rfl ?_
      refine g_getI (pc := 12) (k := 55) kf_X12_248.r rfl rfl (hPl.lt (by decide)) dX12_settles_12 ?_
      refine g_iconst (pc := 15) (v := (1 : Int32)) dX12_settles_15 rfl ?_
      refine g_isub (pc := 16) dX12_settles_16 ?_
      obtain ⟨c_9, hF⟩ := am_gd hF
      refine g_iald (pc := 17) (k := 80) rfl (hPl.lt (by decide)) (am_ix_use c_9) dX12_settles_17 ?_
      refine g_iload_n (pc := 18) dX12_settles_18 rfl rfl ?_
      refine g_icmp_ne (pc := 19) (tgt := 57) dX12_settles_19 rfl (fun c_10 => ?_) (fun c_10 => ?_)
      · replace hF := am_no c_10 hF
        cases hF
        cases hE_5 _ rfl
        exact hX_3
      · replace hF := am_yes c_10 hF
        refine g_aload_n (pc := 22) dX12_settles_22 rfl rfl ?_
        refine g_aload_n (pc := 23) dX12_settles_23 rfl rfl ?_
        refine g_getI (pc := 24) (k := 55) kf_X12_248.r rfl rfl (hPl.lt (by decide)) dX12_settles_24 ?_
        refine g_iconst (pc := 27) (v := (1 : Int32)) dX12_settles_27 rfl ?_
        refine g_isub (pc := 28) dX12_settles_28 ?_
        obtain ⟨I_11, e_I_11, hF⟩ := am_let_el hF
        refine n_putI (pc := 29) (k := 55) e_I_11 kf_X12_248 rfl rfl (hPl.lt (by decide)) dX12_settles_29 ?_
        refine g_aload_n (pc := 32) dX12_settles_32 rfl rfl ?_
        refine g_iload_n (pc := 33) dX12_settles_33 rfl rfl ?_
        refine g_iconst (pc := 34) (v := (0 : Int32)) dX12_settles_34 rfl ?_
        obtain ⟨I_13, h_12, hF⟩ := am_b1_el hF
        refine g_cVv (pc := 35) (k := 55) (As := [.int a1, .int (0 : Int32)]) (st := []) ky_X12_emits kl_X12_228 (s_X12_emits_55 (d := 1) (hPl) (Nat.le_refl _) h_12) rfl rfl rfl (hPl.lt (by decide)) (Nat.le_trans (by decide) hd) (Nat.le_of_ble_eq_true rfl) (Nat.le_refl _) (Nat.le_refl _) dX12_settles_35 ?_
        refine g_iload_n (pc := 38) dX12_settles_38 rfl rfl ?_
        refine g_bipush (pc := 39) (v := (9 : Int32)) dX12_settles_39 rfl ?_
        refine g_icmp_ne (pc := 41) (tgt := 0) dX12_settles_41 rfl (fun c_14 => ?_) (fun c_14 => ?_)
        · replace hF := am_no c_14 hF
          cases hF
          exact ih_4 (I_13) rfl
        · replace hF := am_yes c_14 hF
          refine g_aload_n (pc := 44) dX12_settles_44 rfl rfl ?_
          refine g_aload_n (pc := 45) dX12_settles_45 rfl rfl ?_
          refine g_getI (pc := 46) (k := 55) kf_X12_251.r rfl rfl (hPl.lt (by decide)) dX12_settles_46 ?_
          refine g_iconst (pc := 49) (v := (1 : Int32)) dX12_settles_49 rfl ?_
          refine g_isub (pc := 50) dX12_settles_50 ?_
          obtain ⟨I_15, e_I_15, hF⟩ := am_let_el hF
          refine n_putI (pc := 51) (k := 55) e_I_15 kf_X12_251 rfl rfl (hPl.lt (by decide)) dX12_settles_51 ?_
          refine g_goto (pc := 54) (tgt := 0) dX12_settles_54 rfl ?_
          cases hF
          exact ih_4 (I_15) rfl
    ) _ _ hL_6
  exact hC
def F_X12_readAny_55 (I : am_IT) : Option (Int32 × am_IT) := am_let (up2 I 55 41 (0 : Int32)) (fun (I_1 : am_IT) => am_it am_fu (am_u3 (fun (l1_2 : Int32) (l2_3 : Int32) (I_4 : am_IT) => if l2_3 = 0 then (am_b1 (F_X12_isWord_55 I_4 (9 : Int32)) (fun (r_10 : Int32) => if r_10 = 0 then (am_b1 (F_X12_isWord_55 I_4 (8 : Int32)) (fun (r_14 : Int32) => if r_14 = 0 then (am_b1 (F_X12_settles_55 I_4 (10 : Int32)) (fun (I_18 : am_IT) => am_b1 (F_X12_settles_55 I_18 (11 : Int32)) (fun (I_20 : am_IT) => if l1_2 = 0 then (some (.inr ((0 : Int32), I_20))) else (am_b1 (F_X12_isSign_55 I_20 (41 : Int32)) (fun (r_23 : Int32) => if r_23 = 0 then (am_b2 (F_X12_errs_55 I_20 (1 : Int32)) (fun (r_34 : Int32) (I_35 : am_IT) => some (.inr (r_34, I_35)))) else (am_let (up2 I_20 55 41 ((I_20 55 41) - (1 : Int32))) (fun (I_26 : am_IT) => am_let (l1_2 - (1 : Int32)) (fun (l1_27 : Int32) => am_let (up2 I_26 55 39 ((I_26 55 39) - (1 : Int32))) (fun (I_28 : am_IT) => am_b1 (F_X12_settles_55 I_28 (9 : Int32)) (fun (I_30 : am_IT) => am_b1 (F_X12_reads_55 I_30) (fun (I_32 : am_IT) => some (.inl (l1_27, l2_3, I_32))))))))))))) else (am_b1 (F_X12_settles_55 I_4 (10 : Int32)) (fun (I_39 : am_IT) => am_b1 (F_X12_settles_55 I_39 (11 : Int32)) (fun (I_41 : am_IT) => am_b1 (F_X12_waits_55 I_41 (11 : Int32)) (fun (I_43 : am_IT) => am_b1 (F_X12_reads_55 I_43) (fun (I_45 : am_IT) => some (.inl (l1_2, (1 : Int32), I_45))))))))) else (am_b1 (F_X12_settles_55 I_4 (10 : Int32)) (fun (I_47 : am_IT) => am_b1 (F_X12_waits_55 I_47 (10 : Int32)) (fun (I_49 : am_IT) => am_b1 (F_X12_reads_55 I_49) (fun (I_51 : am_IT) => some (.inl (l1_2, (1 : Int32), I_51)))))))) else (am_b1 (F_X12_isWord_55 I_4 (10 : Int32)) (fun (r_53 : Int32) => if r_53 = 0 then (am_b1 (F_X12_isSign_55 I_4 (40 : Int32)) (fun (r_76 : Int32) => if r_76 = 0 then (am_b2 (F_X12_readCompared_55 I_4) (fun (r_80 : Int32) (I_81 : am_IT) => if r_80 = (-1 : Int32) then (some (.inr ((-1 : Int32), I_81))) else (am_b1 (F_X12_settles_55 I_81 (9 : Int32)) (fun (I_84 : am_IT) => some (.inl (l1_2, (0 : Int32), I_84)))))) else (if (I_4 55 39) = (8 : Int32) then (am_b2 (F_X12_errs_55 I_4 (3 : Int32)) (fun (r_102 : Int32) (I_103 : am_IT) => some (.inr (r_102, I_103)))) else (am_let (up2 I_4 55 39 ((I_4 55 39) + (1 : Int32))) (fun (I_87 : am_IT) => am_b1 (if r_53 = 0 then (am_let (l1_2 + (1 : Int32)) (fun (l1_92 : Int32) => some (l1_92))) else (some (l1_2))) (fun (l1_89 : Int32) => am_b1 (if r_53 = 0 then (some ((12 : Int32))) else (some ((9 : Int32)))) (fun (v_94 : Int32) => am_b1 (F_X12_waits_55 I_87 v_94) (fun (I_98 : am_IT) => am_b1 (F_X12_reads_55 I_98) (fun (I_100 : am_IT) => some (.inl (l1_89, l2_3, I_100))))))))))) else (if (I_4 55 39) = (8 : Int32) then (am_b2 (F_X12_errs_55 I_4 (3 : Int32)) (fun (r_72 : Int32) (I_73 : am_IT) => some (.inr (r_72, I_73)))) else (am_let (up2 I_4 55 39 ((I_4 55 39) + (1 : Int32))) (fun (I_57 : am_IT) => am_b1 (if r_53 = 0 then (am_let (l1_2 + (1 : Int32)) (fun (l1_62 : Int32) => some (l1_62))) else (some (l1_2))) (fun (l1_59 : Int32) => am_b1 (if r_53 = 0 then (some ((12 : Int32))) else (some ((9 : Int32)))) (fun (v_64 : Int32) => am_b1 (F_X12_waits_55 I_57 v_64) (fun (I_68 : am_IT) => am_b1 (F_X12_reads_55 I_68) (fun (I_70 : am_IT) => some (.inl (l1_59, l2_3, I_70))))))))))))) ((0 : Int32), (1 : Int32), I_1))
set_option maxRecDepth 100000 in
set_option maxHeartbeats 4000000 in
theorem s_X12_readAny_55 {l : Launch} {d N : Nat} {P : am_PT} (hPl : am_Pl 94 N P) (hd : 8 ≤ d) {I : am_IT} {r : Int32} {I2 : am_IT} (hF : F_X12_readAny_55 I = some (r, I2)) : am_C l d 0 0 mX12_readAny [.ref 55] N P I (am_qi r N P I2) := by
  refine am_body (sc := am_sc0) (n := 3) (by decide +kernel) (by decide) rfl ?_
  change G am_sc0 l d 0 0 mX12_readAny (am_qi r N P I2) 0 [.ref 55, .null, .null, .null] [] N P I 0 0
  unfold F_X12_readAny_55 at hF
  refine g_iconst (pc := 0) (v := (0 : Int32)) dX12_readAny_0 rfl ?_
  refine n_istore_n (pc := 1) (ls2 := [.ref 55, .int (0 : Int32), .null, .null]) rfl rfl dX12_readAny_1 rfl (Nat.le_of_ble_eq_true rfl) ?_
  refine g_aload_n (pc := 2) dX12_readAny_2 rfl rfl ?_
  refine g_iconst (pc := 3) (v := (0 : Int32)) dX12_readAny_3 rfl ?_
  obtain ⟨I_1, e_I_1, hF⟩ := am_let_el hF
  refine n_putI (pc := 4) (k := 55) e_I_1 kf_X12_248 rfl rfl (hPl.lt (by decide)) dX12_readAny_4 ?_
  refine g_iconst (pc := 7) (v := (1 : Int32)) dX12_readAny_7 rfl ?_
  refine n_istore_n (pc := 8) (ls2 := [.ref 55, .int (0 : Int32), .int (1 : Int32), .null]) rfl rfl dX12_readAny_8 rfl (Nat.le_of_ble_eq_true rfl) ?_
  have hL_7 := hF
  clear hF
  have hC := am_loop (C := fun x => G am_sc0 l d 0 0 mX12_readAny (am_qi r N P I2) 9 [.ref 55, .int x.1, .int x.2.1, .null] [] N P x.2.2 0 0) (by
    rintro ⟨l1_2, l2_3, I_4⟩ rr hF ih_5 hE_6
    replace hF := am_u3_ap hF
    change G am_sc0 l d 0 0 mX12_readAny (am_qi r N P I2) 9 [.ref 55, .int l1_2, .int l2_3, .null] [] N P I_4 0 0
    refine g_iload_n (pc := 9) dX12_readAny_9 rfl rfl ?_
    refine g_if_eq (pc := 10) (tgt := 109) dX12_readAny_10 rfl (fun c_8 => ?_) (fun c_8 => ?_)
    · replace hF := am_yes c_8 hF
      refine g_aload_n (pc := 109) dX12_readAny_109 rfl rfl ?_
      refine g_bipush (pc := 110) (v := (9 : Int32)) dX12_readAny_110 rfl ?_
      obtain ⟨r_10, h_9, hF⟩ := am_b1_el hF
      refine g_cVz (pc := 112) (k := 55) (As := [.int (9 : Int32)]) (st := []) ky_X12_isWord kl_X12_254 (s_X12_isWord_55 (d := 1) (hPl) (Nat.le_refl _) h_9) rfl rfl rfl (hPl.lt (by decide)) (Nat.le_trans (by decide) hd) (Nat.le_of_ble_eq_true rfl) (Nat.le_refl _) (Nat.le_refl _) dX12_readAny_112 ?_
      intro z_11
      refine g_if_eq (pc := 115) (tgt := 139) dX12_readAny_115 rfl (fun c_12 => ?_) (fun c_12 => ?_)
      · replace hF := am_yes c_12 hF
        refine g_aload_n (pc := 139) dX12_readAny_139 rfl rfl ?_
        refine g_bipush (pc := 140) (v := (8 : Int32)) dX12_readAny_140 rfl ?_
        obtain ⟨r_14, h_13, hF⟩ := am_b1_el hF
        refine g_cVz (pc := 142) (k := 55) (As := [.int (8 : Int32)]) (st := []) ky_X12_isWord kl_X12_254 (s_X12_isWord_55 (d := 1) (hPl) (Nat.le_refl _) h_13) rfl rfl rfl (hPl.lt (by decide)) (Nat.le_trans (by decide) hd) (Nat.le_of_ble_eq_true rfl) (Nat.le_refl _) (Nat.le_refl _) dX12_readAny_142 ?_
        intro z_15
        refine g_if_eq (pc := 145) (tgt := 175) dX12_readAny_145 rfl (fun c_16 => ?_) (fun c_16 => ?_)
        · replace hF := am_yes c_16 hF
          refine g_aload_n (pc := 175) dX12_readAny_175 rfl rfl ?_
          refine g_bipush (pc := 176) (v := (10 : Int32)) dX12_readAny_176 rfl ?_
          obtain ⟨I_18, h_17, hF⟩ := am_b1_el hF
          refine g_cVv (pc := 178) (k := 55) (As := [.int (10 : Int32)]) (st := []) ky_X12_settles kl_X12_263 (s_X12_settles_55 (d := 2) (hPl) (Nat.le_refl _) h_17) rfl rfl rfl (hPl.lt (by decide)) (Nat.le_trans (by decide) hd) (Nat.le_of_ble_eq_true rfl) (Nat.le_refl _) (Nat.le_refl _) dX12_readAny_178 ?_
          refine g_aload_n (pc := 181) dX12_readAny_181 rfl rfl ?_
          refine g_bipush (pc := 182) (v := (11 : Int32)) dX12_readAny_182 rfl ?_
          obtain ⟨I_20, h_19, hF⟩ := am_b1_el hF
          refine g_cVv (pc := 184) (k := 55) (As := [.int (11 : Int32)]) (st := []) ky_X12_settles kl_X12_263 (s_X12_settles_55 (d := 2) (hPl) (Nat.le_refl _) h_19) rfl rfl rfl (hPl.lt (by decide)) (Nat.le_trans (by decide) hd) (Nat.le_of_ble_eq_true rfl) (Nat.le_refl _) (Nat.le_refl _) dX12_readAny_184 ?_
          refine g_iload_n (pc := 187) dX12_readAny_187 rfl rfl ?_
          refine g_if_ne (pc := 188) (tgt := 193) dX12_readAny_188 rfl (fun c_21 => ?_) (fun c_21 => ?_)
          · replace hF := am_no c_21 hF
            refine g_aload_n (pc := 193) dX12_readAny_193 rfl rfl ?_
            refine g_bipush (pc := 194) (v := (41 : Int32)) dX12_readAny_194 rfl ?_
            obtain ⟨r_23, h_22, hF⟩ := am_b1_el hF
            refine g_cVz (pc := 196) (k := 55) (As := [.int (41 : Int32)]) (st := []) ky_X12_isSign kl_X12_239 (s_X12_isSign_55 (d := 1) (hPl) (Nat.le_refl _) h_22) rfl rfl rfl (hPl.lt (by decide)) (Nat.le_trans (by decide) hd) (Nat.le_of_ble_eq_true rfl) (Nat.le_refl _) (Nat.le_refl _) dX12_readAny_196 ?_
            intro z_24
            refine g_if_ne (pc := 199) (tgt := 208) dX12_readAny_199 rfl (fun c_25 => ?_) (fun c_25 => ?_)
            · replace hF := am_no c_25 hF
              refine g_aload_n (pc := 208) dX12_readAny_208 rfl rfl ?_
              refine g_aload_n (pc := 209) dX12_readAny_209 rfl rfl ?_
              refine g_getI (pc := 210) (k := 55) kf_X12_248.r rfl rfl (hPl.lt (by decide)) dX12_readAny_210 ?_
              refine g_iconst (pc := 213) (v := (1 : Int32)) dX12_readAny_213 rfl ?_
              refine g_isub (pc := 214) dX12_readAny_214 ?_
              obtain ⟨I_26, e_I_26, hF⟩ := am_let_el hF
              refine n_putI (pc := 215) (k := 55) e_I_26 kf_X12_248 rfl rfl (hPl.lt (by decide)) dX12_readAny_215 ?_
              refine g_iload_n (pc := 218) dX12_readAny_218 rfl rfl ?_
              refine g_iconst (pc := 219) (v := (1 : Int32)) dX12_readAny_219 rfl ?_
              refine g_isub (pc := 220) dX12_readAny_220 ?_
              obtain ⟨l1_27, e_l1_27, hF⟩ := am_let_el hF
              refine n_istore_n (pc := 221) (ls2 := [.ref 55, .int l1_27, .int l2_3, .null]) e_l1_27 rfl dX12_readAny_221 rfl (Nat.le_of_ble_eq_true rfl) ?_
              refine g_aload_n (pc := 222) dX12_readAny_222 rfl rfl ?_
              refine g_aload_n (pc := 223) dX12_readAny_223 rfl rfl ?_
              refine g_getI (pc := 224) (k := 55) kf_X12_251.r rfl rfl (hPl.lt (by decide)) dX12_readAny_224 ?_
              refine g_iconst (pc := 227) (v := (1 : Int32)) dX12_readAny_227 rfl ?_
              refine g_isub (pc := 228) dX12_readAny_228 ?_
              obtain ⟨I_28, e_I_28, hF⟩ := am_let_el hF
              refine n_putI (pc := 229) (k := 55) e_I_28 kf_X12_251 rfl rfl (hPl.lt (by decide)) dX12_readAny_229 ?_
              refine g_aload_n (pc := 232) dX12_readAny_232 rfl rfl ?_
              refine g_bipush (pc := 233) (v := (9 : Int32)) dX12_readAny_233 rfl ?_
              obtain ⟨I_30, h_29, hF⟩ := am_b1_el hF
              refine g_cVv (pc := 235) (k := 55) (As := [.int (9 : Int32)]) (st := []) ky_X12_settles kl_X12_263 (s_X12_settles_55 (d := 2) (hPl) (Nat.le_refl _) h_29) rfl rfl rfl (hPl.lt (by decide)) (Nat.le_trans (by decide) hd) (Nat.le_of_ble_eq_true rfl) (Nat.le_refl _) (Nat.le_refl _) dX12_readAny_235 ?_
              refine g_aload_n (pc := 238) dX12_readAny_238 rfl rfl ?_
              obtain ⟨I_32, h_31, hF⟩ := am_b1_el hF
              refine g_cVv (pc := 239) (k := 55) (As := []) (st := []) ky_X12_reads kl_X12_232 (s_X12_reads_55 (d := 3) (hPl) (Nat.le_refl _) h_31) rfl rfl rfl (hPl.lt (by decide)) (Nat.le_trans (by decide) hd) (Nat.le_of_ble_eq_true rfl) (Nat.le_refl _) (Nat.le_refl _) dX12_readAny_239 ?_
              refine g_goto (pc := 242) (tgt := 9) dX12_readAny_242 rfl ?_
              cases hF
              exact ih_5 (l1_27, l2_3, I_32) rfl
            · replace hF := am_yes c_25 hF
              refine g_aload_n (pc := 202) dX12_readAny_202 rfl rfl ?_
              refine g_iconst (pc := 203) (v := (1 : Int32)) dX12_readAny_203 rfl ?_
              obtain ⟨r_34, I_35, h_33, hF⟩ := am_b2_el hF
              refine g_cVi (pc := 204) (k := 55) (As := [.int (1 : Int32)]) (st := []) ky_X12_errs kl_X12_225 (s_X12_errs_55 (d := 1) (hPl) (Nat.le_refl _) h_33) rfl rfl rfl (hPl.lt (by decide)) (Nat.le_trans (by decide) hd) (Nat.le_of_ble_eq_true rfl) (Nat.le_refl _) (Nat.le_refl _) dX12_readAny_204 ?_
              cases hF
              have q_36 := hE_6 _ rfl
              cases q_36
              exact g_iret (pc := 207) rfl (Nat.le_refl _) (Nat.le_refl _) dX12_readAny_207 ⟨rfl, rfl, rfl, rfl⟩
          · replace hF := am_yes c_21 hF
            refine g_iconst (pc := 191) (v := (0 : Int32)) dX12_readAny_191 rfl ?_
            cases hF
            have q_37 := hE_6 _ rfl
            cases q_37
            exact g_iret (pc := 192) rfl (Nat.le_refl _) (Nat.le_refl _) dX12_readAny_192 ⟨rfl, rfl, rfl, rfl⟩
        · replace hF := am_no c_16 hF
          refine g_aload_n (pc := 148) dX12_readAny_148 rfl rfl ?_
          refine g_bipush (pc := 149) (v := (10 : Int32)) dX12_readAny_149 rfl ?_
          obtain ⟨I_39, h_38, hF⟩ := am_b1_el hF
          refine g_cVv (pc := 151) (k := 55) (As := [.int (10 : Int32)]) (st := []) ky_X12_settles kl_X12_263 (s_X12_settles_55 (d := 2) (hPl) (Nat.le_refl _) h_38) rfl rfl rfl (hPl.lt (by decide)) (Nat.le_trans (by decide) hd) (Nat.le_of_ble_eq_true rfl) (Nat.le_refl _) (Nat.le_refl _) dX12_readAny_151 ?_
          refine g_aload_n (pc := 154) dX12_readAny_154 rfl rfl ?_
          refine g_bipush (pc := 155) (v := (11 : Int32)) dX12_readAny_155 rfl ?_
          obtain ⟨I_41, h_40, hF⟩ := am_b1_el hF
          refine g_cVv (pc := 157) (k := 55) (As := [.int (11 : Int32)]) (st := []) ky_X12_settles kl_X12_263 (s_X12_settles_55 (d := 2) (hPl) (Nat.le_refl _) h_40) rfl rfl rfl (hPl.lt (by decide)) (Nat.le_trans (by decide) hd) (Nat.le_of_ble_eq_true rfl) (Nat.le_refl _) (Nat.le_refl _) dX12_readAny_157 ?_
          refine g_aload_n (pc := 160) dX12_readAny_160 rfl rfl ?_
          refine g_bipush (pc := 161) (v := (11 : Int32)) dX12_readAny_161 rfl ?_
          obtain ⟨I_43, h_42, hF⟩ := am_b1_el hF
          refine g_cVv (pc := 163) (k := 55) (As := [.int (11 : Int32)]) (st := []) ky_X12_waits kl_X12_257 (s_X12_waits_55 (d := 1) (hPl) (Nat.le_refl _) h_42) rfl rfl rfl (hPl.lt (by decide)) (Nat.le_trans (by decide) hd) (Nat.le_of_ble_eq_true rfl) (Nat.le_refl _) (Nat.le_refl _) dX12_readAny_163 ?_
          refine g_aload_n (pc := 166) dX12_readAny_166 rfl rfl ?_
          obtain ⟨I_45, h_44, hF⟩ := am_b1_el hF
          refine g_cVv (pc := 167) (k := 55) (As := []) (st := []) ky_X12_reads kl_X12_232 (s_X12_reads_55 (d := 3) (hPl) (Nat.le_refl _) h_44) rfl rfl rfl (hPl.lt (by decide)) (Nat.le_trans (by decide) hd) (Nat.le_of_ble_eq_true rfl) (Nat.le_refl _) (Nat.le_refl _) dX12_readAny_167 ?_
          refine g_iconst (pc := 170) (v := (1 : Int32)) dX12_readAny_170 rfl ?_
          refine n_istore_n (pc := 171) (ls2 := [.ref 55, .int l1_2, .int (1 : Int32), .null]) rfl rfl dX12_readAny_171 rfl (Nat.le_of_ble_eq_true rfl) ?_
          refine g_goto (pc := 172) (tgt := 9) dX12_readAny_172 rfl ?_
          cases hF
          exact ih_5 (l1_2, (1 : Int32), I_45) rfl
      · replace hF := am_no c_12 hF
        refine g_aload_n (pc := 118) dX12_readAny_118 rfl rfl ?_
        refine g_bipush (pc := 119) (v := (10 : Int32)) dX12_readAny_119 rfl ?_
        obtain ⟨I_47, h_46, hF⟩ := am_b1_el hF
        refine g_cVv (pc := 121) (k := 55) (As := [.int (10 : Int32)]) (st := []) ky_X12_settles kl_X12_263 (s_X12_settles_55 (d := 2) (hPl) (Nat.le_refl _) h_46) rfl rfl rfl (hPl.lt (by decide)) (Nat.le_trans (by decide) hd) (Nat.le_of_ble_eq_true rfl) (Nat.le_refl _) (Nat.le_refl _) dX12_readAny_121 ?_
        refine g_aload_n (pc := 124) dX12_readAny_124 rfl rfl ?_
        refine g_bipush (pc := 125) (v := (10 : Int32)) dX12_readAny_125 rfl ?_
        obtain ⟨I_49, h_48, hF⟩ := am_b1_el hF
        refine g_cVv (pc := 127) (k := 55) (As := [.int (10 : Int32)]) (st := []) ky_X12_waits kl_X12_257 (s_X12_waits_55 (d := 1) (hPl) (Nat.le_refl _) h_48) rfl rfl rfl (hPl.lt (by decide)) (Nat.le_trans (by decide) hd) (Nat.le_of_ble_eq_true rfl) (Nat.le_refl _) (Nat.le_refl _) dX12_readAny_127 ?_
        refine g_aload_n (pc := 130) dX12_readAny_130 rfl rfl ?_
        obtain ⟨I_51, h_50, hF⟩ := am_b1_el hF
        refine g_cVv (pc := 131) (k := 55) (As := []) (st := []) ky_X12_reads kl_X12_232 (s_X12_reads_55 (d := 3) (hPl) (Nat.le_refl _) h_50) rfl rfl rfl (hPl.lt (by decide)) (Nat.le_trans (by decide) hd) (Nat.le_of_ble_eq_true rfl) (Nat.le_refl _) (Nat.le_refl _) dX12_readAny_131 ?_
        refine g_iconst (pc := 134) (v := (1 : Int32)) dX12_readAny_134 rfl ?_
        refine n_istore_n (pc := 135) (ls2 := [.ref 55, .int l1_2, .int (1 : Int32), .null]) rfl rfl dX12_readAny_135 rfl (Nat.le_of_ble_eq_true rfl) ?_
        refine g_goto (pc := 136) (tgt := 9) dX12_readAny_136 rfl ?_
        cases hF
        exact ih_5 (l1_2, (1 : Int32), I_51) rfl
    · replace hF := am_no c_8 hF
      refine g_aload_n (pc := 13) dX12_readAny_13 rfl rfl ?_
      refine g_bipush (pc := 14) (v := (10 : Int32)) dX12_readAny_14 rfl ?_
      obtain ⟨r_53, h_52, hF⟩ := am_b1_el hF
      refine g_cVz (pc := 16) (k := 55) (As := [.int (10 : Int32)]) (st := []) ky_X12_isWord kl_X12_254 (s_X12_isWord_55 (d := 1) (hPl) (Nat.le_refl _) h_52) rfl rfl rfl (hPl.lt (by decide)) (Nat.le_trans (by decide) hd) (Nat.le_of_ble_eq_true rfl) (Nat.le_refl _) (Nat.le_refl _) dX12_readAny_16 ?_
      intro z_54
      refine n_istore_n (pc := 19) (ls2 := [.ref 55, .int l1_2, .int l2_3, .int r_53]) rfl rfl dX12_readAny_19 rfl (Nat.le_of_ble_eq_true rfl) ?_
      refine g_iload_n (pc := 20) dX12_readAny_20 rfl rfl ?_
      refine g_if_ne (pc := 21) (tgt := 33) dX12_readAny_21 rfl (fun c_55 => ?_) (fun c_55 => ?_)
      · replace hF := am_no c_55 hF
        refine g_aload_n (pc := 33) dX12_readAny_33 rfl rfl ?_
        refine g_getI (pc := 34) (k := 55) kf_X12_251.r rfl rfl (hPl.lt (by decide)) dX12_readAny_34 ?_
        refine g_bipush (pc := 37) (v := (8 : Int32)) dX12_readAny_37 rfl ?_
        refine g_icmp_ne (pc := 39) (tgt := 48) dX12_readAny_39 rfl (fun c_56 => ?_) (fun c_56 => ?_)
        · replace hF := am_no c_56 hF
          refine g_aload_n (pc := 48) dX12_readAny_48 rfl rfl ?_
          refine g_aload_n (pc := 49) dX12_readAny_49 rfl rfl ?_
          refine g_getI (pc := 50) (k := 55) kf_X12_251.r rfl rfl (hPl.lt (by decide)) dX12_readAny_50 ?_
          refine g_iconst (pc := 53) (v := (1 : Int32)) dX12_readAny_53 rfl ?_
          refine g_iadd (pc := 54) dX12_readAny_54 ?_
          obtain ⟨I_57, e_I_57, hF⟩ := am_let_el hF
          refine n_putI (pc := 55) (k := 55) e_I_57 kf_X12_251 rfl rfl (hPl.lt (by decide)) dX12_readAny_55 ?_
          refine g_iload_n (pc := 58) dX12_readAny_58 rfl rfl ?_
          obtain ⟨l1_59, hR_60, hF⟩ := am_b1_el hF
          have hJ_61 : G am_sc0 l d 0 0 mX12_readAny (am_qi r N P I2) 66 [.ref 55, .int l1_59, .int l2_3, .int r_53] [] N P I_57 0 0 := by
            refine g_aload_n (pc := 66) dX12_readAny_66 rfl rfl ?_
            refine g_iload_n (pc := 67) dX12_readAny_67 rfl rfl ?_
            obtain ⟨v_64, hR_65, hF⟩ := am_b1_el hF
            have hJ_66 : G am_sc0 l d 0 0 mX12_readAny (am_qi r N P I2) 78 [.ref 55, .int l1_59, .int l2_3, .int r_53] [.int v_64, .ref 55] N P I_57 0 0 := by
              obtain ⟨I_68, h_67, hF⟩ := am_b1_el hF
              refine g_cVv (pc := 78) (k := 55) (As := [.int v_64]) (st := []) ky_X12_waits kl_X12_257 (s_X12_waits_55 (d := 1) (hPl) (Nat.le_refl _) h_67) rfl rfl rfl (hPl.lt (by decide)) (Nat.le_trans (by decide) hd) (Nat.le_of_ble_eq_true rfl) (Nat.le_refl _) (Nat.le_refl _) dX12_readAny_78 ?_
              refine g_aload_n (pc := 81) dX12_readAny_81 rfl rfl ?_
              obtain ⟨I_70, h_69, hF⟩ := am_b1_el hF
              refine g_cVv (pc := 82) (k := 55) (As := []) (st := []) ky_X12_reads kl_X12_232 (s_X12_reads_55 (d := 3) (hPl) (Nat.le_refl _) h_69) rfl rfl rfl (hPl.lt (by decide)) (Nat.le_trans (by decide) hd) (Nat.le_of_ble_eq_true rfl) (Nat.le_refl _) (Nat.le_refl _) dX12_readAny_82 ?_
              refine g_goto (pc := 85) (tgt := 9) dX12_readAny_85 rfl ?_
              cases hF
              exact g_weak (ih_5 (l1_59, l2_3, I_70) rfl) ⟨Or.inr rfl, Or.inr rfl, Or.inr rfl, Or.inl rfl, trivial⟩
            clear hF
            have hF := hR_65
            clear hR_65
            refine g_if_eq (pc := 68) (tgt := 76) dX12_readAny_68 rfl (fun c_63 => ?_) (fun c_63 => ?_)
            · replace hF := am_yes c_63 hF
              refine g_bipush (pc := 76) (v := (12 : Int32)) dX12_readAny_76 rfl ?_
              cases hF
              exact hJ_66
            · replace hF := am_no c_63 hF
              refine g_bipush (pc := 71) (v := (9 : Int32)) dX12_readAny_71 rfl ?_
              refine g_goto (pc := 73) (tgt := 78) dX12_readAny_73 rfl ?_
              cases hF
              exact hJ_66
          clear hF
          have hF := hR_60
          clear hR_60
          refine g_if_ne (pc := 59) (tgt := 66) dX12_readAny_59 rfl (fun c_58 => ?_) (fun c_58 => ?_)
          · replace hF := am_no c_58 hF
            cases hF
            exact hJ_61
          · replace hF := am_yes c_58 hF
            refine g_iload_n (pc := 62) dX12_readAny_62 rfl rfl ?_
            refine g_iconst (pc := 63) (v := (1 : Int32)) dX12_readAny_63 rfl ?_
            refine g_iadd (pc := 64) dX12_readAny_64 ?_
            obtain ⟨l1_62, e_l1_62, hF⟩ := am_let_el hF
            refine n_istore_n (pc := 65) (ls2 := [.ref 55, .int l1_62, .int l2_3, .int r_53]) e_l1_62 rfl dX12_readAny_65 rfl (Nat.le_of_ble_eq_true rfl) ?_
            cases hF
            exact hJ_61
        · replace hF := am_yes c_56 hF
          refine g_aload_n (pc := 42) dX12_readAny_42 rfl rfl ?_
          refine g_iconst (pc := 43) (v := (3 : Int32)) dX12_readAny_43 rfl ?_
          obtain ⟨r_72, I_73, h_71, hF⟩ := am_b2_el hF
          refine g_cVi (pc := 44) (k := 55) (As := [.int (3 : Int32)]) (st := []) ky_X12_errs kl_X12_225 (s_X12_errs_55 (d := 1) (hPl) (Nat.le_refl _) h_71) rfl rfl rfl (hPl.lt (by decide)) (Nat.le_trans (by decide) hd) (Nat.le_of_ble_eq_true rfl) (Nat.le_refl _) (Nat.le_refl _) dX12_readAny_44 ?_
          cases hF
          have q_74 := hE_6 _ rfl
          cases q_74
          exact g_iret (pc := 47) rfl (Nat.le_refl _) (Nat.le_refl _) dX12_readAny_47 ⟨rfl, rfl, rfl, rfl⟩
      · replace hF := am_yes c_55 hF
        refine g_aload_n (pc := 24) dX12_readAny_24 rfl rfl ?_
        refine g_bipush (pc := 25) (v := (40 : Int32)) dX12_readAny_25 rfl ?_
        obtain ⟨r_76, h_75, hF⟩ := am_b1_el hF
        refine g_cVz (pc := 27) (k := 55) (As := [.int (40 : Int32)]) (st := []) ky_X12_isSign kl_X12_239 (s_X12_isSign_55 (d := 1) (hPl) (Nat.le_refl _) h_75) rfl rfl rfl (hPl.lt (by decide)) (Nat.le_trans (by decide) hd) (Nat.le_of_ble_eq_true rfl) (Nat.le_refl _) (Nat.le_refl _) dX12_readAny_27 ?_
        intro z_77
        refine g_if_eq (pc := 30) (tgt := 88) dX12_readAny_30 rfl (fun c_78 => ?_) (fun c_78 => ?_)
        · replace hF := am_yes c_78 hF
          refine g_aload_n (pc := 88) dX12_readAny_88 rfl rfl ?_
          obtain ⟨r_80, I_81, h_79, hF⟩ := am_b2_el hF
          refine g_cVi (pc := 89) (k := 55) (As := []) (st := []) ky_X12_readCompared kl_X12_260 (s_X12_readCompared_55 (d := 7) (hPl) (Nat.le_refl _) h_79) rfl rfl rfl (hPl.lt (by decide)) (Nat.le_trans (by decide) hd) (Nat.le_of_ble_eq_true rfl) (Nat.le_refl _) (Nat.le_refl _) dX12_readAny_89 ?_
          refine g_iconst (pc := 92) (v := (-1 : Int32)) dX12_readAny_92 (by decide) ?_
          refine g_icmp_ne (pc := 93) (tgt := 98) dX12_readAny_93 rfl (fun c_82 => ?_) (fun c_82 => ?_)
          · replace hF := am_no c_82 hF
            refine g_aload_n (pc := 98) dX12_readAny_98 rfl rfl ?_
            refine g_bipush (pc := 99) (v := (9 : Int32)) dX12_readAny_99 rfl ?_
            obtain ⟨I_84, h_83, hF⟩ := am_b1_el hF
            refine g_cVv (pc := 101) (k := 55) (As := [.int (9 : Int32)]) (st := []) ky_X12_settles kl_X12_263 (s_X12_settles_55 (d := 2) (hPl) (Nat.le_refl _) h_83) rfl rfl rfl (hPl.lt (by decide)) (Nat.le_trans (by decide) hd) (Nat.le_of_ble_eq_true rfl) (Nat.le_refl _) (Nat.le_refl _) dX12_readAny_101 ?_
            refine g_iconst (pc := 104) (v := (0 : Int32)) dX12_readAny_104 rfl ?_
            refine n_istore_n (pc := 105) (ls2 := [.ref 55, .int l1_2, .int (0 : Int32), .int r_53]) rfl rfl dX12_readAny_105 rfl (Nat.le_of_ble_eq_true rfl) ?_
            refine g_goto (pc := 106) (tgt := 9) dX12_readAny_106 rfl ?_
            cases hF
            exact g_weak (ih_5 (l1_2, (0 : Int32), I_84) rfl) ⟨Or.inr rfl, Or.inr rfl, Or.inr rfl, Or.inl rfl, trivial⟩
          · replace hF := am_yes c_82 hF
            refine g_iconst (pc := 96) (v := (-1 : Int32)) dX12_readAny_96 (by decide) ?_
            cases hF
            have q_85 := hE_6 _ rfl
            cases q_85
            exact g_iret (pc := 97) rfl (Nat.le_refl _) (Nat.le_refl _) dX12_readAny_97 ⟨rfl, rfl, rfl, rfl⟩
        · replace hF := am_no c_78 hF
          refine g_aload_n (pc := 33) dX12_readAny_33 rfl rfl ?_
          refine g_getI (pc := 34) (k := 55) kf_X12_251.r rfl rfl (hPl.lt (by decide)) dX12_readAny_34 ?_
          refine g_bipush (pc := 37) (v := (8 : Int32)) dX12_readAny_37 rfl ?_
          refine g_icmp_ne (pc := 39) (tgt := 48) dX12_readAny_39 rfl (fun c_86 => ?_) (fun c_86 => ?_)
          · replace hF := am_no c_86 hF
            refine g_aload_n (pc := 48) dX12_readAny_48 rfl rfl ?_
            refine g_aload_n (pc := 49) dX12_readAny_49 rfl rfl ?_
            refine g_getI (pc := 50) (k := 55) kf_X12_251.r rfl rfl (hPl.lt (by decide)) dX12_readAny_50 ?_
            refine g_iconst (pc := 53) (v := (1 : Int32)) dX12_readAny_53 rfl ?_
            refine g_iadd (pc := 54) dX12_readAny_54 ?_
            obtain ⟨I_87, e_I_87, hF⟩ := am_let_el hF
            refine n_putI (pc := 55) (k := 55) e_I_87 kf_X12_251 rfl rfl (hPl.lt (by decide)) dX12_readAny_55 ?_
            refine g_iload_n (pc := 58) dX12_readAny_58 rfl rfl ?_
            obtain ⟨l1_89, hR_90, hF⟩ := am_b1_el hF
            have hJ_91 : G am_sc0 l d 0 0 mX12_readAny (am_qi r N P I2) 66 [.ref 55, .int l1_89, .int l2_3, .int r_53] [] N P I_87 0 0 := by
              refine g_aload_n (pc := 66) dX12_readAny_66 rfl rfl ?_
              refine g_iload_n (pc := 67) dX12_readAny_67 rfl rfl ?_
              obtain ⟨v_94, hR_95, hF⟩ := am_b1_el hF
              have hJ_96 : G am_sc0 l d 0 0 mX12_readAny (am_qi r N P I2) 78 [.ref 55, .int l1_89, .int l2_3, .int r_53] [.int v_94, .ref 55] N P I_87 0 0 := by
                obtain ⟨I_98, h_97, hF⟩ := am_b1_el hF
                refine g_cVv (pc := 78) (k := 55) (As := [.int v_94]) (st := []) ky_X12_waits kl_X12_257 (s_X12_waits_55 (d := 1) (hPl) (Nat.le_refl _) h_97) rfl rfl rfl (hPl.lt (by decide)) (Nat.le_trans (by decide) hd) (Nat.le_of_ble_eq_true rfl) (Nat.le_refl _) (Nat.le_refl _) dX12_readAny_78 ?_
                refine g_aload_n (pc := 81) dX12_readAny_81 rfl rfl ?_
                obtain ⟨I_100, h_99, hF⟩ := am_b1_el hF
                refine g_cVv (pc := 82) (k := 55) (As := []) (st := []) ky_X12_reads kl_X12_232 (s_X12_reads_55 (d := 3) (hPl) (Nat.le_refl _) h_99) rfl rfl rfl (hPl.lt (by decide)) (Nat.le_trans (by decide) hd) (Nat.le_of_ble_eq_true rfl) (Nat.le_refl _) (Nat.le_refl _) dX12_readAny_82 ?_
                refine g_goto (pc := 85) (tgt := 9) dX12_readAny_85 rfl ?_
                cases hF
                exact g_weak (ih_5 (l1_89, l2_3, I_100) rfl) ⟨Or.inr rfl, Or.inr rfl, Or.inr rfl, Or.inl rfl, trivial⟩
              clear hF
              have hF := hR_95
              clear hR_95
              refine g_if_eq (pc := 68) (tgt := 76) dX12_readAny_68 rfl (fun c_93 => ?_) (fun c_93 => ?_)
              · replace hF := am_yes c_93 hF
                refine g_bipush (pc := 76) (v := (12 : Int32)) dX12_readAny_76 rfl ?_
                cases hF
                exact hJ_96
              · replace hF := am_no c_93 hF
                refine g_bipush (pc := 71) (v := (9 : Int32)) dX12_readAny_71 rfl ?_
                refine g_goto (pc := 73) (tgt := 78) dX12_readAny_73 rfl ?_
                cases hF
                exact hJ_96
            clear hF
            have hF := hR_90
            clear hR_90
            refine g_if_ne (pc := 59) (tgt := 66) dX12_readAny_59 rfl (fun c_88 => ?_) (fun c_88 => ?_)
            · replace hF := am_no c_88 hF
              cases hF
              exact hJ_91
            · replace hF := am_yes c_88 hF
              refine g_iload_n (pc := 62) dX12_readAny_62 rfl rfl ?_
              refine g_iconst (pc := 63) (v := (1 : Int32)) dX12_readAny_63 rfl ?_
              refine g_iadd (pc := 64) dX12_readAny_64 ?_
              obtain ⟨l1_92, e_l1_92, hF⟩ := am_let_el hF
              refine n_istore_n (pc := 65) (ls2 := [.ref 55, .int l1_92, .int l2_3, .int r_53]) e_l1_92 rfl dX12_readAny_65 rfl (Nat.le_of_ble_eq_true rfl) ?_
              cases hF
              exact hJ_91
          · replace hF := am_yes c_86 hF
            refine g_aload_n (pc := 42) dX12_readAny_42 rfl rfl ?_
            refine g_iconst (pc := 43) (v := (3 : Int32)) dX12_readAny_43 rfl ?_
            obtain ⟨r_102, I_103, h_101, hF⟩ := am_b2_el hF
            refine g_cVi (pc := 44) (k := 55) (As := [.int (3 : Int32)]) (st := []) ky_X12_errs kl_X12_225 (s_X12_errs_55 (d := 1) (hPl) (Nat.le_refl _) h_101) rfl rfl rfl (hPl.lt (by decide)) (Nat.le_trans (by decide) hd) (Nat.le_of_ble_eq_true rfl) (Nat.le_refl _) (Nat.le_refl _) dX12_readAny_44 ?_
            cases hF
            have q_104 := hE_6 _ rfl
            cases q_104
            exact g_iret (pc := 47) rfl (Nat.le_refl _) (Nat.le_refl _) dX12_readAny_47 ⟨rfl, rfl, rfl, rfl⟩
    ) _ _ hL_7
  exact hC
def F_X12_readText_55 (I : am_IT) : Option (Int32 × am_IT) := am_lr (am_it am_fu (am_u2 (fun (l1_1 : Int32) (I_2 : am_IT) => am_b1 (F_X12_isWord_55 I_2 (0 : Int32)) (fun (r_11 : Int32) => if r_11 = 0 then (some (.inr (.inl (l1_1, I_2)))) else (if l1_1 = (16 : Int32) then (am_b2 (F_X12_errs_55 I_2 (3 : Int32)) (fun (r_75 : Int32) (I_76 : am_IT) => some (.inr (.inr (r_75, I_76))))) else (am_let ((16 : Int32) + l1_1) (fun (l2_15 : Int32) => am_b1 (F_X12_reads_55 I_2) (fun (I_17 : am_IT) => if (I_17 55 29) = (2 : Int32) then (am_b1 (F_X12_isIn_55 I_17 (I_17 55 30) (1 : Int32) (6 : Int32)) (fun (r_24 : Int32) => if r_24 = 0 then (am_b2 (F_X12_errs_55 I_17 (1 : Int32)) (fun (r_71 : Int32) (I_72 : am_IT) => some (.inr (.inr (r_71, I_72))))) else (if am_ix l2_15 32 = true then (am_let (up2 I_17 75 l2_15.toNatClampNeg (I_17 55 30)) (fun (I_28 : am_IT) => am_b1 (F_X12_reads_55 I_28) (fun (I_30 : am_IT) => if am_ix l2_15 32 = true then (am_let (up2 I_30 76 l2_15.toNatClampNeg (I_30 55 38)) (fun (I_32 : am_IT) => am_b1 (F_X12_isWord_55 I_32 (7 : Int32)) (fun (r_34 : Int32) => if r_34 = 0 then (if am_ix l2_15 32 = true then (am_let (up2 I_32 77 l2_15.toNatClampNeg (I_32 55 38)) (fun (I_38 : am_IT) => am_b1 (F_X12_isSign_55 I_38 (59 : Int32)) (fun (r_40 : Int32) => if r_40 = 0 then (am_b2 (F_X12_errs_55 I_38 (1 : Int32)) (fun (r_47 : Int32) (I_48 : am_IT) => some (.inr (.inr (r_47, I_48))))) else (am_b1 (F_X12_reads_55 I_38) (fun (I_44 : am_IT) => am_let (l1_1 + (1 : Int32)) (fun (l1_45 : Int32) => some (.inl (l1_45, I_44)))))))) else none) else (am_b1 (F_X12_reads_55 I_32) (fun (I_51 : am_IT) => am_b2 (F_X12_readAny_55 I_51) (fun (r_53 : Int32) (I_54 : am_IT) => if r_53 = (-1 : Int32) then (some (.inr (.inr ((-1 : Int32), I_54)))) else (if am_ix l2_15 32 = true then (am_let (up2 I_54 77 l2_15.toNatClampNeg (I_54 55 38)) (fun (I_57 : am_IT) => am_b1 (F_X12_isSign_55 I_57 (59 : Int32)) (fun (r_59 : Int32) => if r_59 = 0 then (am_b2 (F_X12_errs_55 I_57 (1 : Int32)) (fun (r_66 : Int32) (I_67 : am_IT) => some (.inr (.inr (r_66, I_67))))) else (am_b1 (F_X12_reads_55 I_57) (fun (I_63 : am_IT) => am_let (l1_1 + (1 : Int32)) (fun (l1_64 : Int32) => some (.inl (l1_64, I_63)))))))) else none))))))) else none))) else none))) else (am_b2 (F_X12_errs_55 I_17 (1 : Int32)) (fun (r_20 : Int32) (I_21 : am_IT) => some (.inr (.inr (r_20, I_21)))))))))))) ((0 : Int32), I)) (am_u2 (fun (l1_3 : Int32) (I_4 : am_IT) => if (I_4 55 29) = 0 then (some (l1_3, I_4)) else (am_b2 (F_X12_errs_55 I_4 (1 : Int32)) (fun (r_80 : Int32) (I_81 : am_IT) => some (r_80, I_81)))))
set_option maxRecDepth 100000 in
set_option maxHeartbeats 4000000 in
theorem s_X12_readText_55 {l : Launch} {d N : Nat} {P : am_PT} (hPl : am_Pl 94 N P) (hd : 9 ≤ d) {I : am_IT} {r : Int32} {I2 : am_IT} (hF : F_X12_readText_55 I = some (r, I2)) : am_C l d 0 0 mX12_readText [.ref 55] N P I (am_qi r N P I2) := by
  refine am_body (sc := am_sc0) (n := 2) (by decide +kernel) (by decide) rfl ?_
  change G am_sc0 l d 0 0 mX12_readText (am_qi r N P I2) 0 [.ref 55, .null, .null] [] N P I 0 0
  unfold F_X12_readText_55 at hF
  refine g_iconst (pc := 0) (v := (0 : Int32)) dX12_readText_0 rfl ?_
  refine n_istore_n (pc := 1) (ls2 := [.ref 55, .int (0 : Int32), .null]) rfl rfl dX12_readText_1 rfl (Nat.le_of_ble_eq_true rfl) ?_
  obtain ⟨x_82, hL_8, hF⟩ := am_lr_el hF
  have hX_5 : ∀ (l1_3 : Int32) (I_4 : am_IT), x_82 = .inl (l1_3, I_4) → G am_sc0 l d 0 0 mX12_readText (am_qi r N P I2) 142 [.ref 55, .int l1_3, .null] [] N P I_4 0 0 := by
    intro l1_3 I_4 q
    subst q
    replace hF := am_u2_ap hF
    refine g_aload_n (pc := 142) dX12_readText_142 rfl rfl ?_
    refine g_getI (pc := 143) (k := 55) kf_X12_197.r rfl rfl (hPl.lt (by decide)) dX12_readText_143 ?_
    refine g_if_ne (pc := 146) (tgt := 153) dX12_readText_146 rfl (fun c_78 => ?_) (fun c_78 => ?_)
    · replace hF := am_no c_78 hF
      refine g_aload_n (pc := 153) dX12_readText_153 rfl rfl ?_
      refine g_iconst (pc := 154) (v := (1 : Int32)) dX12_readText_154 rfl ?_
      obtain ⟨r_80, I_81, h_79, hF⟩ := am_b2_el hF
      refine g_cVi (pc := 155) (k := 55) (As := [.int (1 : Int32)]) (st := []) ky_X12_errs kl_X12_225 (s_X12_errs_55 (d := 1) (hPl) (Nat.le_refl _) h_79) rfl rfl rfl (hPl.lt (by decide)) (Nat.le_trans (by decide) hd) (Nat.le_of_ble_eq_true rfl) (Nat.le_refl _) (Nat.le_refl _) dX12_readText_155 ?_
      cases hF
      exact g_iret (pc := 158) rfl (Nat.le_refl _) (Nat.le_refl _) dX12_readText_158 ⟨rfl, rfl, rfl, rfl⟩
    · replace hF := am_yes c_78 hF
      refine g_iload_n (pc := 149) dX12_readText_149 rfl rfl ?_
      refine g_goto (pc := 150) (tgt := 158) dX12_readText_150 rfl ?_
      cases hF
      exact g_iret (pc := 158) rfl (Nat.le_refl _) (Nat.le_refl _) dX12_readText_158 ⟨rfl, rfl, rfl, rfl⟩
  have hZ_9 : ∀ y, x_82 = .inr y → y = _ := fun y q => by subst q; exact hF
  clear hF
  have hC := am_loop (C := fun x => G am_sc0 l d 0 0 mX12_readText (am_qi r N P I2) 2 [.ref 55, .int x.1, .null] [] N P x.2 0 0) (by
    rintro ⟨l1_1, I_2⟩ rr hF ih_6 hE_7
    replace hF := am_u2_ap hF
    change G am_sc0 l d 0 0 mX12_readText (am_qi r N P I2) 2 [.ref 55, .int l1_1, .null] [] N P I_2 0 0
    refine g_aload_n (pc := 2) dX12_readText_2 rfl rfl ?_
    refine g_iconst (pc := 3) (v := (0 : Int32)) dX12_readText_3 rfl ?_
    obtain ⟨r_11, h_10, hF⟩ := am_b1_el hF
    refine g_cVz (pc := 4) (k := 55) (As := [.int (0 : Int32)]) (st := []) ky_X12_isWord kl_X12_254 (s_X12_isWord_55 (d := 1) (hPl) (Nat.le_refl _) h_10) rfl rfl rfl (hPl.lt (by decide)) (Nat.le_trans (by decide) hd) (Nat.le_of_ble_eq_true rfl) (Nat.le_refl _) (Nat.le_refl _) dX12_readText_4 ?_
    intro z_12
    refine g_if_eq (pc := 7) (tgt := 142) dX12_readText_7 rfl (fun c_13 => ?_) (fun c_13 => ?_)
    · replace hF := am_yes c_13 hF
      cases hF
      exact hX_5 _ _ (hE_7 _ rfl).symm
    · replace hF := am_no c_13 hF
      refine g_iload_n (pc := 10) dX12_readText_10 rfl rfl ?_
      refine g_bipush (pc := 11) (v := (16 : Int32)) dX12_readText_11 rfl ?_
      refine g_icmp_ne (pc := 13) (tgt := 22) dX12_readText_13 rfl (fun c_14 => ?_) (fun c_14 => ?_)
      · replace hF := am_no c_14 hF
        refine g_bipush (pc := 22) (v := (16 : Int32)) dX12_readText_22 rfl ?_
        refine g_iload_n (pc := 24) dX12_readText_24 rfl rfl ?_
        refine g_iadd (pc := 25) dX12_readText_25 ?_
        obtain ⟨l2_15, e_l2_15, hF⟩ := am_let_el hF
        refine n_istore_n (pc := 26) (ls2 := [.ref 55, .int l1_1, .int l2_15]) e_l2_15 rfl dX12_readText_26 rfl (Nat.le_of_ble_eq_true rfl) ?_
        refine g_aload_n (pc := 27) dX12_readText_27 rfl rfl ?_
        obtain ⟨I_17, h_16, hF⟩ := am_b1_el hF
        refine g_cVv (pc := 28) (k := 55) (As := []) (st := []) ky_X12_reads kl_X12_232 (s_X12_reads_55 (d := 3) (hPl) (Nat.le_refl _) h_16) rfl rfl rfl (hPl.lt (by decide)) (Nat.le_trans (by decide) hd) (Nat.le_of_ble_eq_true rfl) (Nat.le_refl _) (Nat.le_refl _) dX12_readText_28 ?_
        refine g_aload_n (pc := 31) dX12_readText_31 rfl rfl ?_
        refine g_getI (pc := 32) (k := 55) kf_X12_197.r rfl rfl (hPl.lt (by decide)) dX12_readText_32 ?_
        refine g_iconst (pc := 35) (v := (2 : Int32)) dX12_readText_35 rfl ?_
        refine g_icmp_ne (pc := 36) (tgt := 53) dX12_readText_36 rfl (fun c_18 => ?_) (fun c_18 => ?_)
        · replace hF := am_no c_18 hF
          refine g_aload_n (pc := 53) dX12_readText_53 rfl rfl ?_
          refine g_iconst (pc := 54) (v := (1 : Int32)) dX12_readText_54 rfl ?_
          obtain ⟨r_20, I_21, h_19, hF⟩ := am_b2_el hF
          refine g_cVi (pc := 55) (k := 55) (As := [.int (1 : Int32)]) (st := []) ky_X12_errs kl_X12_225 (s_X12_errs_55 (d := 1) (hPl) (Nat.le_refl _) h_19) rfl rfl rfl (hPl.lt (by decide)) (Nat.le_trans (by decide) hd) (Nat.le_of_ble_eq_true rfl) (Nat.le_refl _) (Nat.le_refl _) dX12_readText_55 ?_
          cases hF
          have q_22 := hZ_9 _ (hE_7 _ rfl).symm
          cases q_22
          exact g_iret (pc := 58) rfl (Nat.le_refl _) (Nat.le_refl _) dX12_readText_58 ⟨rfl, rfl, rfl, rfl⟩
        · replace hF := am_yes c_18 hF
          refine g_aload_n (pc := 39) dX12_readText_39 rfl rfl ?_
          refine g_aload_n (pc := 40) dX12_readText_40 rfl rfl ?_
          refine g_getI (pc := 41) (k := 55) kf_X12_200.r rfl rfl (hPl.lt (by decide)) dX12_readText_41 ?_
          refine g_iconst (pc := 44) (v := (1 : Int32)) dX12_readText_44 rfl ?_
          refine g_bipush (pc := 45) (v := (6 : Int32)) dX12_readText_45 rfl ?_
          obtain ⟨r_24, h_23, hF⟩ := am_b1_el hF
          refine g_cVz (pc := 47) (k := 55) (As := [.int (I_17 55 30), .int (1 : Int32), .int (6 : Int32)]) (st := []) ky_X12_isIn kl_X12_148 (s_X12_isIn_55 (d := 1) (hPl) (Nat.le_refl _) h_23) rfl rfl rfl (hPl.lt (by decide)) (Nat.le_trans (by decide) hd) (Nat.le_of_ble_eq_true rfl) (Nat.le_refl _) (Nat.le_refl _) dX12_readText_47 ?_
          intro z_25
          refine g_if_ne (pc := 50) (tgt := 59) dX12_readText_50 rfl (fun c_26 => ?_) (fun c_26 => ?_)
          · replace hF := am_no c_26 hF
            refine g_aload_n (pc := 59) dX12_readText_59 rfl rfl ?_
            refine g_getR (pc := 60) (k := 55) (r := 75) kf_X12_71.r rfl rfl (hPl.get (by decide) rfl) (hPl.lt (by decide)) dX12_readText_60 ?_
            refine g_iload_n (pc := 63) dX12_readText_63 rfl rfl ?_
            refine g_aload_n (pc := 64) dX12_readText_64 rfl rfl ?_
            refine g_getI (pc := 65) (k := 55) kf_X12_200.r rfl rfl (hPl.lt (by decide)) dX12_readText_65 ?_
            obtain ⟨c_27, hF⟩ := am_gd hF
            obtain ⟨I_28, e_I_28, hF⟩ := am_let_el hF
            refine n_iast (pc := 68) (k := 75) e_I_28 rfl (hPl.lt (by decide)) (am_ix_use c_27) dX12_readText_68 ?_
            refine g_aload_n (pc := 69) dX12_readText_69 rfl rfl ?_
            obtain ⟨I_30, h_29, hF⟩ := am_b1_el hF
            refine g_cVv (pc := 70) (k := 55) (As := []) (st := []) ky_X12_reads kl_X12_232 (s_X12_reads_55 (d := 3) (hPl) (Nat.le_refl _) h_29) rfl rfl rfl (hPl.lt (by decide)) (Nat.le_trans (by decide) hd) (Nat.le_of_ble_eq_true rfl) (Nat.le_refl _) (Nat.le_refl _) dX12_readText_70 ?_
            refine g_aload_n (pc := 73) dX12_readText_73 rfl rfl ?_
            refine g_getR (pc := 74) (k := 55) (r := 76) kf_X12_74.r rfl rfl (hPl.get (by decide) rfl) (hPl.lt (by decide)) dX12_readText_74 ?_
            refine g_iload_n (pc := 77) dX12_readText_77 rfl rfl ?_
            refine g_aload_n (pc := 78) dX12_readText_78 rfl rfl ?_
            refine g_getI (pc := 79) (k := 55) kf_X12_222.r rfl rfl (hPl.lt (by decide)) dX12_readText_79 ?_
            obtain ⟨c_31, hF⟩ := am_gd hF
            obtain ⟨I_32, e_I_32, hF⟩ := am_let_el hF
            refine n_iast (pc := 82) (k := 76) e_I_32 rfl (hPl.lt (by decide)) (am_ix_use c_31) dX12_readText_82 ?_
            refine g_aload_n (pc := 83) dX12_readText_83 rfl rfl ?_
            refine g_bipush (pc := 84) (v := (7 : Int32)) dX12_readText_84 rfl ?_
            obtain ⟨r_34, h_33, hF⟩ := am_b1_el hF
            refine g_cVz (pc := 86) (k := 55) (As := [.int (7 : Int32)]) (st := []) ky_X12_isWord kl_X12_254 (s_X12_isWord_55 (d := 1) (hPl) (Nat.le_refl _) h_33) rfl rfl rfl (hPl.lt (by decide)) (Nat.le_trans (by decide) hd) (Nat.le_of_ble_eq_true rfl) (Nat.le_refl _) (Nat.le_refl _) dX12_readText_86 ?_
            intro z_35
            refine g_if_eq (pc := 89) (tgt := 106) dX12_readText_89 rfl (fun c_36 => ?_) (fun c_36 => ?_)
            · replace hF := am_yes c_36 hF
              refine g_aload_n (pc := 106) dX12_readText_106 rfl rfl ?_
              refine g_getR (pc := 107) (k := 55) (r := 77) kf_X12_77.r rfl rfl (hPl.get (by decide) rfl) (hPl.lt (by decide)) dX12_readText_107 ?_
              refine g_iload_n (pc := 110) dX12_readText_110 rfl rfl ?_
              refine g_aload_n (pc := 111) dX12_readText_111 rfl rfl ?_
              refine g_getI (pc := 112) (k := 55) kf_X12_222.r rfl rfl (hPl.lt (by decide)) dX12_readText_112 ?_
              obtain ⟨c_37, hF⟩ := am_gd hF
              obtain ⟨I_38, e_I_38, hF⟩ := am_let_el hF
              refine n_iast (pc := 115) (k := 77) e_I_38 rfl (hPl.lt (by decide)) (am_ix_use c_37) dX12_readText_115 ?_
              refine g_aload_n (pc := 116) dX12_readText_116 rfl rfl ?_
              refine g_bipush (pc := 117) (v := (59 : Int32)) dX12_readText_117 rfl ?_
              obtain ⟨r_40, h_39, hF⟩ := am_b1_el hF
              refine g_cVz (pc := 119) (k := 55) (As := [.int (59 : Int32)]) (st := []) ky_X12_isSign kl_X12_239 (s_X12_isSign_55 (d := 1) (hPl) (Nat.le_refl _) h_39) rfl rfl rfl (hPl.lt (by decide)) (Nat.le_trans (by decide) hd) (Nat.le_of_ble_eq_true rfl) (Nat.le_refl _) (Nat.le_refl _) dX12_readText_119 ?_
              intro z_41
              refine g_if_ne (pc := 122) (tgt := 131) dX12_readText_122 rfl (fun c_42 => ?_) (fun c_42 => ?_)
              · replace hF := am_no c_42 hF
                refine g_aload_n (pc := 131) dX12_readText_131 rfl rfl ?_
                obtain ⟨I_44, h_43, hF⟩ := am_b1_el hF
                refine g_cVv (pc := 132) (k := 55) (As := []) (st := []) ky_X12_reads kl_X12_232 (s_X12_reads_55 (d := 3) (hPl) (Nat.le_refl _) h_43) rfl rfl rfl (hPl.lt (by decide)) (Nat.le_trans (by decide) hd) (Nat.le_of_ble_eq_true rfl) (Nat.le_refl _) (Nat.le_refl _) dX12_readText_132 ?_
                refine g_iload_n (pc := 135) dX12_readText_135 rfl rfl ?_
                refine g_iconst (pc := 136) (v := (1 : Int32)) dX12_readText_136 rfl ?_
                refine g_iadd (pc := 137) dX12_readText_137 ?_
                obtain ⟨l1_45, e_l1_45, hF⟩ := am_let_el hF
                refine n_istore_n (pc := 138) (ls2 := [.ref 55, .int l1_45, .int l2_15]) e_l1_45 rfl dX12_readText_138 rfl (Nat.le_of_ble_eq_true rfl) ?_
                refine g_goto (pc := 139) (tgt := 2) dX12_readText_139 rfl ?_
                cases hF
                exact g_weak (ih_6 (l1_45, I_44) rfl) ⟨Or.inr rfl, Or.inr rfl, Or.inl rfl, trivial⟩
              · replace hF := am_yes c_42 hF
                refine g_aload_n (pc := 125) dX12_readText_125 rfl rfl ?_
                refine g_iconst (pc := 126) (v := (1 : Int32)) dX12_readText_126 rfl ?_
                obtain ⟨r_47, I_48, h_46, hF⟩ := am_b2_el hF
                refine g_cVi (pc := 127) (k := 55) (As := [.int (1 : Int32)]) (st := []) ky_X12_errs kl_X12_225 (s_X12_errs_55 (d := 1) (hPl) (Nat.le_refl _) h_46) rfl rfl rfl (hPl.lt (by decide)) (Nat.le_trans (by decide) hd) (Nat.le_of_ble_eq_true rfl) (Nat.le_refl _) (Nat.le_refl _) dX12_readText_127 ?_
                cases hF
                have q_49 := hZ_9 _ (hE_7 _ rfl).symm
                cases q_49
                exact g_iret (pc := 130) rfl (Nat.le_refl _) (Nat.le_refl _) dX12_readText_130 ⟨rfl, rfl, rfl, rfl⟩
            · replace hF := am_no c_36 hF
              refine g_aload_n (pc := 92) dX12_readText_92 rfl rfl ?_
              obtain ⟨I_51, h_50, hF⟩ := am_b1_el hF
              refine g_cVv (pc := 93) (k := 55) (As := []) (st := []) ky_X12_reads kl_X12_232 (s_X12_reads_55 (d := 3) (hPl) (Nat.le_refl _) h_50) rfl rfl rfl (hPl.lt (by decide)) (Nat.le_trans (by decide) hd) (Nat.le_of_ble_eq_true rfl) (Nat.le_refl _) (Nat.le_refl _) dX12_readText_93 ?_
              refine g_aload_n (pc := 96) dX12_readText_96 rfl rfl ?_
              obtain ⟨r_53, I_54, h_52, hF⟩ := am_b2_el hF
              refine g_cVi (pc := 97) (k := 55) (As := []) (st := []) ky_X12_readAny kl_X12_266 (s_X12_readAny_55 (d := 8) (hPl) (Nat.le_refl _) h_52) rfl rfl rfl (hPl.lt (by decide)) (Nat.le_trans (by decide) hd) (Nat.le_of_ble_eq_true rfl) (Nat.le_refl _) (Nat.le_refl _) dX12_readText_97 ?_
              refine g_iconst (pc := 100) (v := (-1 : Int32)) dX12_readText_100 (by decide) ?_
              refine g_icmp_ne (pc := 101) (tgt := 106) dX12_readText_101 rfl (fun c_55 => ?_) (fun c_55 => ?_)
              · replace hF := am_no c_55 hF
                refine g_aload_n (pc := 106) dX12_readText_106 rfl rfl ?_
                refine g_getR (pc := 107) (k := 55) (r := 77) kf_X12_77.r rfl rfl (hPl.get (by decide) rfl) (hPl.lt (by decide)) dX12_readText_107 ?_
                refine g_iload_n (pc := 110) dX12_readText_110 rfl rfl ?_
                refine g_aload_n (pc := 111) dX12_readText_111 rfl rfl ?_
                refine g_getI (pc := 112) (k := 55) kf_X12_222.r rfl rfl (hPl.lt (by decide)) dX12_readText_112 ?_
                obtain ⟨c_56, hF⟩ := am_gd hF
                obtain ⟨I_57, e_I_57, hF⟩ := am_let_el hF
                refine n_iast (pc := 115) (k := 77) e_I_57 rfl (hPl.lt (by decide)) (am_ix_use c_56) dX12_readText_115 ?_
                refine g_aload_n (pc := 116) dX12_readText_116 rfl rfl ?_
                refine g_bipush (pc := 117) (v := (59 : Int32)) dX12_readText_117 rfl ?_
                obtain ⟨r_59, h_58, hF⟩ := am_b1_el hF
                refine g_cVz (pc := 119) (k := 55) (As := [.int (59 : Int32)]) (st := []) ky_X12_isSign kl_X12_239 (s_X12_isSign_55 (d := 1) (hPl) (Nat.le_refl _) h_58) rfl rfl rfl (hPl.lt (by decide)) (Nat.le_trans (by decide) hd) (Nat.le_of_ble_eq_true rfl) (Nat.le_refl _) (Nat.le_refl _) dX12_readText_119 ?_
                intro z_60
                refine g_if_ne (pc := 122) (tgt := 131) dX12_readText_122 rfl (fun c_61 => ?_) (fun c_61 => ?_)
                · replace hF := am_no c_61 hF
                  refine g_aload_n (pc := 131) dX12_readText_131 rfl rfl ?_
                  obtain ⟨I_63, h_62, hF⟩ := am_b1_el hF
                  refine g_cVv (pc := 132) (k := 55) (As := []) (st := []) ky_X12_reads kl_X12_232 (s_X12_reads_55 (d := 3) (hPl) (Nat.le_refl _) h_62) rfl rfl rfl (hPl.lt (by decide)) (Nat.le_trans (by decide) hd) (Nat.le_of_ble_eq_true rfl) (Nat.le_refl _) (Nat.le_refl _) dX12_readText_132 ?_
                  refine g_iload_n (pc := 135) dX12_readText_135 rfl rfl ?_
                  refine g_iconst (pc := 136) (v := (1 : Int32)) dX12_readText_136 rfl ?_
                  refine g_iadd (pc := 137) dX12_readText_137 ?_
                  obtain ⟨l1_64, e_l1_64, hF⟩ := am_let_el hF
                  refine n_istore_n (pc := 138) (ls2 := [.ref 55, .int l1_64, .int l2_15]) e_l1_64 rfl dX12_readText_138 rfl (Nat.le_of_ble_eq_true rfl) ?_
                  refine g_goto (pc := 139) (tgt := 2) dX12_readText_139 rfl ?_
                  cases hF
                  exact g_weak (ih_6 (l1_64, I_63) rfl) ⟨Or.inr rfl, Or.inr rfl, Or.inl rfl, trivial⟩
                · replace hF := am_yes c_61 hF
                  refine g_aload_n (pc := 125) dX12_readText_125 rfl rfl ?_
                  refine g_iconst (pc := 126) (v := (1 : Int32)) dX12_readText_126 rfl ?_
                  obtain ⟨r_66, I_67, h_65, hF⟩ := am_b2_el hF
                  refine g_cVi (pc := 127) (k := 55) (As := [.int (1 : Int32)]) (st := []) ky_X12_errs kl_X12_225 (s_X12_errs_55 (d := 1) (hPl) (Nat.le_refl _) h_65) rfl rfl rfl (hPl.lt (by decide)) (Nat.le_trans (by decide) hd) (Nat.le_of_ble_eq_true rfl) (Nat.le_refl _) (Nat.le_refl _) dX12_readText_127 ?_
                  cases hF
                  have q_68 := hZ_9 _ (hE_7 _ rfl).symm
                  cases q_68
                  exact g_iret (pc := 130) rfl (Nat.le_refl _) (Nat.le_refl _) dX12_readText_130 ⟨rfl, rfl, rfl, rfl⟩
              · replace hF := am_yes c_55 hF
                refine g_iconst (pc := 104) (v := (-1 : Int32)) dX12_readText_104 (by decide) ?_
                cases hF
                have q_69 := hZ_9 _ (hE_7 _ rfl).symm
                cases q_69
                exact g_iret (pc := 105) rfl (Nat.le_refl _) (Nat.le_refl _) dX12_readText_105 ⟨rfl, rfl, rfl, rfl⟩
          · replace hF := am_yes c_26 hF
            refine g_aload_n (pc := 53) dX12_readText_53 rfl rfl ?_
            refine g_iconst (pc := 54) (v := (1 : Int32)) dX12_readText_54 rfl ?_
            obtain ⟨r_71, I_72, h_70, hF⟩ := am_b2_el hF
            refine g_cVi (pc := 55) (k := 55) (As := [.int (1 : Int32)]) (st := []) ky_X12_errs kl_X12_225 (s_X12_errs_55 (d := 1) (hPl) (Nat.le_refl _) h_70) rfl rfl rfl (hPl.lt (by decide)) (Nat.le_trans (by decide) hd) (Nat.le_of_ble_eq_true rfl) (Nat.le_refl _) (Nat.le_refl _) dX12_readText_55 ?_
            cases hF
            have q_73 := hZ_9 _ (hE_7 _ rfl).symm
            cases q_73
            exact g_iret (pc := 58) rfl (Nat.le_refl _) (Nat.le_refl _) dX12_readText_58 ⟨rfl, rfl, rfl, rfl⟩
      · replace hF := am_yes c_14 hF
        refine g_aload_n (pc := 16) dX12_readText_16 rfl rfl ?_
        refine g_iconst (pc := 17) (v := (3 : Int32)) dX12_readText_17 rfl ?_
        obtain ⟨r_75, I_76, h_74, hF⟩ := am_b2_el hF
        refine g_cVi (pc := 18) (k := 55) (As := [.int (3 : Int32)]) (st := []) ky_X12_errs kl_X12_225 (s_X12_errs_55 (d := 1) (hPl) (Nat.le_refl _) h_74) rfl rfl rfl (hPl.lt (by decide)) (Nat.le_trans (by decide) hd) (Nat.le_of_ble_eq_true rfl) (Nat.le_refl _) (Nat.le_refl _) dX12_readText_18 ?_
        cases hF
        have q_77 := hZ_9 _ (hE_7 _ rfl).symm
        cases q_77
        exact g_iret (pc := 21) rfl (Nat.le_refl _) (Nat.le_refl _) dX12_readText_21 ⟨rfl, rfl, rfl, rfl⟩
    ) _ _ hL_8
  exact hC
def F_X12_text_55 (I : am_IT) : Option (Int32 × am_IT) := am_let (up2 I 55 0 (0 : Int32)) (fun (I_1 : am_IT) => am_let (up2 I_1 55 44 (0 : Int32)) (fun (I_2 : am_IT) => am_let (up2 I_2 55 45 (-1 : Int32)) (fun (I_3 : am_IT) => am_let (up2 I_3 55 27 (0 : Int32)) (fun (I_4 : am_IT) => am_let (up2 I_4 55 38 (0 : Int32)) (fun (I_5 : am_IT) => am_let (up2 I_5 55 39 (0 : Int32)) (fun (I_6 : am_IT) => am_b1 (F_X12_reads_55 I_6) (fun (I_8 : am_IT) => am_b2 (F_X12_readText_55 I_8) (fun (r_10 : Int32) (I_11 : am_IT) => am_let (up2 I_11 55 26 (0 : Int32)) (fun (I_12 : am_IT) => if r_10 = (-1 : Int32) then (am_let (up2 I_12 55 44 (I_12 55 42)) (fun (I_50 : am_IT) => am_let (up2 I_50 55 45 (I_50 55 43)) (fun (I_51 : am_IT) => some ((-1 : Int32), I_51)))) else (am_b1 (am_it am_fu (am_u2 (fun (l2_14 : Int32) (I_15 : am_IT) => if r_10 ≤ l2_14 then (some (.inr (I_15))) else (if am_ix ((16 : Int32) + l2_14) 32 = true then (if am_ix l2_14 32 = true then (am_let (up2 I_15 75 l2_14.toNatClampNeg (I_15 75 ((16 : Int32) + l2_14).toNatClampNeg)) (fun (I_25 : am_IT) => if am_ix ((16 : Int32) + l2_14) 32 = true then (if am_ix l2_14 32 = true then (am_let (up2 I_25 76 l2_14.toNatClampNeg (I_25 76 ((16 : Int32) + l2_14).toNatClampNeg)) (fun (I_28 : am_IT) => if am_ix ((16 : Int32) + l2_14) 32 = true then (if am_ix l2_14 32 = true then (am_let (up2 I_28 77 l2_14.toNatClampNeg (I_28 77 ((16 : Int32) + l2_14).toNatClampNeg)) (fun (I_31 : am_IT) => am_let (l2_14 + (1 : Int32)) (fun (l2_32 : Int32) => some (.inl (l2_32, I_31))))) else none) else none)) else none) else none)) else none) else none))) ((0 : Int32), I_12)) (fun (I_16 : am_IT) => am_b1 (am_it am_fu (am_u2 (fun (l2_33 : Int32) (I_34 : am_IT) => if (I_34 55 38) ≤ l2_33 then (some (.inr (I_34))) else (if am_ix ((400 : Int32) + l2_33) 800 = true then (if am_ix l2_33 800 = true then (am_let (up2 I_34 78 l2_33.toNatClampNeg (I_34 78 ((400 : Int32) + l2_33).toNatClampNeg)) (fun (I_44 : am_IT) => if am_ix ((400 : Int32) + l2_33) 800 = true then (if am_ix l2_33 800 = true then (am_let (up2 I_44 79 l2_33.toNatClampNeg (I_44 79 ((400 : Int32) + l2_33).toNatClampNeg)) (fun (I_47 : am_IT) => am_let (l2_33 + (1 : Int32)) (fun (l2_48 : Int32) => some (.inl (l2_48, I_47))))) else none) else none)) else none) else none))) ((0 : Int32), I_16)) (fun (I_35 : am_IT) => am_let (up2 I_35 55 32 r_10) (fun (I_49 : am_IT) => some (r_10, I_49))))))))))))))
set_option maxRecDepth 100000 in
set_option maxHeartbeats 4000000 in
theorem s_X12_text_55 {l : Launch} {d N : Nat} {P : am_PT} (hPl : am_Pl 94 N P) (hd : 10 ≤ d) {I : am_IT} {r : Int32} {I2 : am_IT} (hF : F_X12_text_55 I = some (r, I2)) : am_C l d 0 0 mX12_text [.ref 55] N P I (am_qi r N P I2) := by
  refine am_body (sc := am_sc0) (n := 2) (by decide +kernel) (by decide) rfl ?_
  change G am_sc0 l d 0 0 mX12_text (am_qi r N P I2) 0 [.ref 55, .null, .null] [] N P I 0 0
  unfold F_X12_text_55 at hF
  refine g_aload_n (pc := 0) dX12_text_0 rfl rfl ?_
  refine g_iconst (pc := 1) (v := (0 : Int32)) dX12_text_1 rfl ?_
  obtain ⟨I_1, e_I_1, hF⟩ := am_let_el hF
  refine n_putI (pc := 2) (k := 55) e_I_1 kf_X12_134 rfl rfl (hPl.lt (by decide)) dX12_text_2 ?_
  refine g_aload_n (pc := 5) dX12_text_5 rfl rfl ?_
  refine g_iconst (pc := 6) (v := (0 : Int32)) dX12_text_6 rfl ?_
  obtain ⟨I_2, e_I_2, hF⟩ := am_let_el hF
  refine n_putI (pc := 7) (k := 55) e_I_2 kf_X12_269 rfl rfl (hPl.lt (by decide)) dX12_text_7 ?_
  refine g_aload_n (pc := 10) dX12_text_10 rfl rfl ?_
  refine g_iconst (pc := 11) (v := (-1 : Int32)) dX12_text_11 (by decide) ?_
  obtain ⟨I_3, e_I_3, hF⟩ := am_let_el hF
  refine n_putI (pc := 12) (k := 55) e_I_3 kf_X12_89 rfl rfl (hPl.lt (by decide)) dX12_text_12 ?_
  refine g_aload_n (pc := 15) dX12_text_15 rfl rfl ?_
  refine g_iconst (pc := 16) (v := (0 : Int32)) dX12_text_16 rfl ?_
  obtain ⟨I_4, e_I_4, hF⟩ := am_let_el hF
  refine n_putI (pc := 17) (k := 55) e_I_4 kf_X12_188 rfl rfl (hPl.lt (by decide)) dX12_text_17 ?_
  refine g_aload_n (pc := 20) dX12_text_20 rfl rfl ?_
  refine g_iconst (pc := 21) (v := (0 : Int32)) dX12_text_21 rfl ?_
  obtain ⟨I_5, e_I_5, hF⟩ := am_let_el hF
  refine n_putI (pc := 22) (k := 55) e_I_5 kf_X12_222 rfl rfl (hPl.lt (by decide)) dX12_text_22 ?_
  refine g_aload_n (pc := 25) dX12_text_25 rfl rfl ?_
  refine g_iconst (pc := 26) (v := (0 : Int32)) dX12_text_26 rfl ?_
  obtain ⟨I_6, e_I_6, hF⟩ := am_let_el hF
  refine n_putI (pc := 27) (k := 55) e_I_6 kf_X12_251 rfl rfl (hPl.lt (by decide)) dX12_text_27 ?_
  refine g_aload_n (pc := 30) dX12_text_30 rfl rfl ?_
  obtain ⟨I_8, h_7, hF⟩ := am_b1_el hF
  refine g_cVv (pc := 31) (k := 55) (As := []) (st := []) ky_X12_reads kl_X12_232 (s_X12_reads_55 (d := 3) (hPl) (Nat.le_refl _) h_7) rfl rfl rfl (hPl.lt (by decide)) (Nat.le_trans (by decide) hd) (Nat.le_of_ble_eq_true rfl) (Nat.le_refl _) (Nat.le_refl _) dX12_text_31 ?_
  refine g_aload_n (pc := 34) dX12_text_34 rfl rfl ?_
  obtain ⟨r_10, I_11, h_9, hF⟩ := am_b2_el hF
  refine g_cVi (pc := 35) (k := 55) (As := []) (st := []) ky_X12_readText kl_X12_272 (s_X12_readText_55 (d := 9) (hPl) (Nat.le_refl _) h_9) rfl rfl rfl (hPl.lt (by decide)) (Nat.le_trans (by decide) hd) (Nat.le_of_ble_eq_true rfl) (Nat.le_refl _) (Nat.le_refl _) dX12_text_35 ?_
  refine n_istore_n (pc := 38) (ls2 := [.ref 55, .int r_10, .null]) rfl rfl dX12_text_38 rfl (Nat.le_of_ble_eq_true rfl) ?_
  refine g_aload_n (pc := 39) dX12_text_39 rfl rfl ?_
  refine g_iconst (pc := 40) (v := (0 : Int32)) dX12_text_40 rfl ?_
  obtain ⟨I_12, e_I_12, hF⟩ := am_let_el hF
  refine n_putI (pc := 41) (k := 55) e_I_12 kf_X12_181 rfl rfl (hPl.lt (by decide)) dX12_text_41 ?_
  refine g_iload_n (pc := 44) dX12_text_44 rfl rfl ?_
  refine g_iconst (pc := 45) (v := (-1 : Int32)) dX12_text_45 (by decide) ?_
  refine g_icmp_ne (pc := 46) (tgt := 67) dX12_text_46 rfl (fun c_13 => ?_) (fun c_13 => ?_)
  · replace hF := am_no c_13 hF
    refine g_iconst (pc := 67) (v := (0 : Int32)) dX12_text_67 rfl ?_
    refine n_istore_n (pc := 68) (ls2 := [.ref 55, .int r_10, .int (0 : Int32)]) rfl rfl dX12_text_68 rfl (Nat.le_of_ble_eq_true rfl) ?_
    obtain ⟨I_16, hL_20, hF⟩ := am_b1_el hF
    have hX_17 : G am_sc0 l d 0 0 mX12_text (am_qi r N P I2) 125 [.ref 55, .int r_10, .null] [] N P I_16 0 0 := by
      refine g_iconst (pc := 125) (v := (0 : Int32)) dX12_text_125 rfl ?_
      refine n_istore_n (pc := 126) (ls2 := [.ref 55, .int r_10, .int (0 : Int32)]) rfl rfl dX12_text_126 rfl (Nat.le_of_ble_eq_true rfl) ?_
      obtain ⟨I_35, hL_39, hF⟩ := am_b1_el hF
      have hX_36 : G am_sc0 l d 0 0 mX12_text (am_qi r N P I2) 173 [.ref 55, .int r_10, .null] [] N P I_35 0 0 := by
        refine g_aload_n (pc := 173) dX12_text_173 rfl rfl ?_
        refine g_iload_n (pc := 174) dX12_text_174 rfl rfl ?_
        obtain ⟨I_49, e_I_49, hF⟩ := am_let_el hF
        refine n_putI (pc := 175) (k := 55) e_I_49 kf_X12_161 rfl rfl (hPl.lt (by decide)) dX12_text_175 ?_
        refine g_iload_n (pc := 178) dX12_text_178 rfl rfl ?_
        cases hF
        exact g_iret (pc := 179) rfl (Nat.le_refl _) (Nat.le_refl _) dX12_text_179 ⟨rfl, rfl, rfl, rfl⟩
      clear hF
      have hC := am_loop (C := fun x => G am_sc0 l d 0 0 mX12_text (am_qi r N P I2) 127 [.ref 55, .int r_10, .int x.1] [] N P x.2 0 0) (by
        rintro ⟨l2_33, I_34⟩ rr hF ih_37 hE_38
        replace hF := am_u2_ap hF
        change G am_sc0 l d 0 0 mX12_text (am_qi r N P I2) 127 [.ref 55, .int r_10, .int l2_33] [] N P I_34 0 0
        refine g_iload_n (pc := 127) dX12_text_127 rfl rfl ?_
        refine g_aload_n (pc := 128) dX12_text_128 rfl rfl ?_
        refine g_getI (pc := 129) (k := 55) kf_X12_222.r rfl rfl (hPl.lt (by decide)) dX12_text_129 ?_
        refine g_icmp_ge (pc := 132) (tgt := 173) dX12_text_132 rfl (fun c_41 => ?_) (fun c_41 => ?_)
        · replace hF := am_yes c_41 hF
          cases hF
          cases hE_38 _ rfl
          exact g_weak hX_36 ⟨Or.inr rfl, Or.inr rfl, Or.inl rfl, trivial⟩
        · replace hF := am_no c_41 hF
          refine g_aload_n (pc := 135) dX12_text_135 rfl rfl ?_
          refine g_getR (pc := 136) (k := 55) (r := 78) kf_X12_80.r rfl rfl (hPl.get (by decide) rfl) (hPl.lt (by decide)) dX12_text_136 ?_
          refine g_iload_n (pc := 139) dX12_text_139 rfl rfl ?_
          refine g_aload_n (pc := 140) dX12_text_140 rfl rfl ?_
          refine g_getR (pc := 141) (k := 55) (r := 78) kf_X12_80.r rfl rfl (hPl.get (by decide) rfl) (hPl.lt (by decide)) dX12_text_141 ?_
          refine g_sipush (pc := 144) (v := (400 : Int32)) dX12_text_144 rfl ?_
          refine g_iload_n (pc := 147) dX12_text_147 rfl rfl ?_
          refine g_iadd (pc := 148) dX12_text_148 ?_
          obtain ⟨c_42, hF⟩ := am_gd hF
          refine g_iald (pc := 149) (k := 78) rfl (hPl.lt (by decide)) (am_ix_use c_42) dX12_text_149 ?_
          obtain ⟨c_43, hF⟩ := am_gd hF
          obtain ⟨I_44, e_I_44, hF⟩ := am_let_el hF
          refine n_iast (pc := 150) (k := 78) e_I_44 rfl (hPl.lt (by decide)) (am_ix_use c_43) dX12_text_150 ?_
          refine g_aload_n (pc := 151) dX12_text_151 rfl rfl ?_
          refine g_getR (pc := 152) (k := 55) (r := 79) kf_X12_83.r rfl rfl (hPl.get (by decide) rfl) (hPl.lt (by decide)) dX12_text_152 ?_
          refine g_iload_n (pc := 155) dX12_text_155 rfl rfl ?_
          refine g_aload_n (pc := 156) dX12_text_156 rfl rfl ?_
          refine g_getR (pc := 157) (k := 55) (r := 79) kf_X12_83.r rfl rfl (hPl.get (by decide) rfl) (hPl.lt (by decide)) dX12_text_157 ?_
          refine g_sipush (pc := 160) (v := (400 : Int32)) dX12_text_160 rfl ?_
          refine g_iload_n (pc := 163) dX12_text_163 rfl rfl ?_
          refine g_iadd (pc := 164) dX12_text_164 ?_
          obtain ⟨c_45, hF⟩ := am_gd hF
          refine g_iald (pc := 165) (k := 79) rfl (hPl.lt (by decide)) (am_ix_use c_45) dX12_text_165 ?_
          obtain ⟨c_46, hF⟩ := am_gd hF
          obtain ⟨I_47, e_I_47, hF⟩ := am_let_el hF
          refine n_iast (pc := 166) (k := 79) e_I_47 rfl (hPl.lt (by decide)) (am_ix_use c_46) dX12_text_166 ?_
          obtain ⟨l2_48, e_l2_48, hF⟩ := am_let_el hF
          refine n_iinc (pc := 167) (ls2 := [.ref 55, .int r_10, .int l2_48]) e_l2_48 rfl rfl rfl dX12_text_167 (Nat.le_of_ble_eq_true rfl) ?_
          refine g_goto (pc := 170) (tgt := 127) dX12_text_170 rfl ?_
          cases hF
          exact ih_37 (l2_48, I_47) rfl
        ) _ _ hL_39
      exact hC
    clear hF
    have hC := am_loop (C := fun x => G am_sc0 l d 0 0 mX12_text (am_qi r N P I2) 69 [.ref 55, .int r_10, .int x.1] [] N P x.2 0 0) (by
      rintro ⟨l2_14, I_15⟩ rr hF ih_18 hE_19
      replace hF := am_u2_ap hF
      change G am_sc0 l d 0 0 mX12_text (am_qi r N P I2) 69 [.ref 55, .int r_10, .int l2_14] [] N P I_15 0 0
      refine g_iload_n (pc := 69) dX12_text_69 rfl rfl ?_
      refine g_iload_n (pc := 70) dX12_text_70 rfl rfl ?_
      refine g_icmp_ge (pc := 71) (tgt := 125) dX12_text_71 rfl (fun c_22 => ?_) (fun c_22 => ?_)
      · replace hF := am_yes c_22 hF
        cases hF
        cases hE_19 _ rfl
        exact g_weak hX_17 ⟨Or.inr rfl, Or.inr rfl, Or.inl rfl, trivial⟩
      · replace hF := am_no c_22 hF
        refine g_aload_n (pc := 74) dX12_text_74 rfl rfl ?_
        refine g_getR (pc := 75) (k := 55) (r := 75) kf_X12_71.r rfl rfl (hPl.get (by decide) rfl) (hPl.lt (by decide)) dX12_text_75 ?_
        refine g_iload_n (pc := 78) dX12_text_78 rfl rfl ?_
        refine g_aload_n (pc := 79) dX12_text_79 rfl rfl ?_
        refine g_getR (pc := 80) (k := 55) (r := 75) kf_X12_71.r rfl rfl (hPl.get (by decide) rfl) (hPl.lt (by decide)) dX12_text_80 ?_
        refine g_bipush (pc := 83) (v := (16 : Int32)) dX12_text_83 rfl ?_
        refine g_iload_n (pc := 85) dX12_text_85 rfl rfl ?_
        refine g_iadd (pc := 86) dX12_text_86 ?_
        obtain ⟨c_23, hF⟩ := am_gd hF
        refine g_iald (pc := 87) (k := 75) rfl (hPl.lt (by decide)) (am_ix_use c_23) dX12_text_87 ?_
        obtain ⟨c_24, hF⟩ := am_gd hF
        obtain ⟨I_25, e_I_25, hF⟩ := am_let_el hF
        refine n_iast (pc := 88) (k := 75) e_I_25 rfl (hPl.lt (by decide)) (am_ix_use c_24) dX12_text_88 ?_
        refine g_aload_n (pc := 89) dX12_text_89 rfl rfl ?_
        refine g_getR (pc := 90) (k := 55) (r := 76) kf_X12_74.r rfl rfl (hPl.get (by decide) rfl) (hPl.lt (by decide)) dX12_text_90 ?_
        refine g_iload_n (pc := 93) dX12_text_93 rfl rfl ?_
        refine g_aload_n (pc := 94) dX12_text_94 rfl rfl ?_
        refine g_getR (pc := 95) (k := 55) (r := 76) kf_X12_74.r rfl rfl (hPl.get (by decide) rfl) (hPl.lt (by decide)) dX12_text_95 ?_
        refine g_bipush (pc := 98) (v := (16 : Int32)) dX12_text_98 rfl ?_
        refine g_iload_n (pc := 100) dX12_text_100 rfl rfl ?_
        refine g_iadd (pc := 101) dX12_text_101 ?_
        obtain ⟨c_26, hF⟩ := am_gd hF
        refine g_iald (pc := 102) (k := 76) rfl (hPl.lt (by decide)) (am_ix_use c_26) dX12_text_102 ?_
        obtain ⟨c_27, hF⟩ := am_gd hF
        obtain ⟨I_28, e_I_28, hF⟩ := am_let_el hF
        refine n_iast (pc := 103) (k := 76) e_I_28 rfl (hPl.lt (by decide)) (am_ix_use c_27) dX12_text_103 ?_
        refine g_aload_n (pc := 104) dX12_text_104 rfl rfl ?_
        refine g_getR (pc := 105) (k := 55) (r := 77) kf_X12_77.r rfl rfl (hPl.get (by decide) rfl) (hPl.lt (by decide)) dX12_text_105 ?_
        refine g_iload_n (pc := 108) dX12_text_108 rfl rfl ?_
        refine g_aload_n (pc := 109) dX12_text_109 rfl rfl ?_
        refine g_getR (pc := 110) (k := 55) (r := 77) kf_X12_77.r rfl rfl (hPl.get (by decide) rfl) (hPl.lt (by decide)) dX12_text_110 ?_
        refine g_bipush (pc := 113) (v := (16 : Int32)) dX12_text_113 rfl ?_
        refine g_iload_n (pc := 115) dX12_text_115 rfl rfl ?_
        refine g_iadd (pc := 116) dX12_text_116 ?_
        obtain ⟨c_29, hF⟩ := am_gd hF
        refine g_iald (pc := 117) (k := 77) rfl (hPl.lt (by decide)) (am_ix_use c_29) dX12_text_117 ?_
        obtain ⟨c_30, hF⟩ := am_gd hF
        obtain ⟨I_31, e_I_31, hF⟩ := am_let_el hF
        refine n_iast (pc := 118) (k := 77) e_I_31 rfl (hPl.lt (by decide)) (am_ix_use c_30) dX12_text_118 ?_
        obtain ⟨l2_32, e_l2_32, hF⟩ := am_let_el hF
        refine n_iinc (pc := 119) (ls2 := [.ref 55, .int r_10, .int l2_32]) e_l2_32 rfl rfl rfl dX12_text_119 (Nat.le_of_ble_eq_true rfl) ?_
        refine g_goto (pc := 122) (tgt := 69) dX12_text_122 rfl ?_
        cases hF
        exact ih_18 (l2_32, I_31) rfl
      ) _ _ hL_20
    exact hC
  · replace hF := am_yes c_13 hF
    refine g_aload_n (pc := 49) dX12_text_49 rfl rfl ?_
    refine g_aload_n (pc := 50) dX12_text_50 rfl rfl ?_
    refine g_getI (pc := 51) (k := 55) kf_X12_216.r rfl rfl (hPl.lt (by decide)) dX12_text_51 ?_
    obtain ⟨I_50, e_I_50, hF⟩ := am_let_el hF
    refine n_putI (pc := 54) (k := 55) e_I_50 kf_X12_269 rfl rfl (hPl.lt (by decide)) dX12_text_54 ?_
    refine g_aload_n (pc := 57) dX12_text_57 rfl rfl ?_
    refine g_aload_n (pc := 58) dX12_text_58 rfl rfl ?_
    refine g_getI (pc := 59) (k := 55) kf_X12_219.r rfl rfl (hPl.lt (by decide)) dX12_text_59 ?_
    obtain ⟨I_51, e_I_51, hF⟩ := am_let_el hF
    refine n_putI (pc := 62) (k := 55) e_I_51 kf_X12_89 rfl rfl (hPl.lt (by decide)) dX12_text_62 ?_
    refine g_iconst (pc := 65) (v := (-1 : Int32)) dX12_text_65 (by decide) ?_
    cases hF
    exact g_iret (pc := 66) rfl (Nat.le_refl _) (Nat.le_refl _) dX12_text_66 ⟨rfl, rfl, rfl, rfl⟩
def F_X12_fault_55 (I : am_IT) (a1 : Int32) : Option (Int32 × am_IT) := am_let (up2 I 55 0 (0 : Int32)) (fun (I_1 : am_IT) => if a1 = 0 then (some (I_1 55 44, I_1)) else (if a1 = (1 : Int32) then (some (I_1 55 45, I_1)) else (some ((-1 : Int32), I_1))))
set_option maxRecDepth 100000 in
set_option maxHeartbeats 4000000 in
theorem s_X12_fault_55 {l : Launch} {d N : Nat} {P : am_PT} (hPl : am_Pl 94 N P) (hd : 1 ≤ d) {I : am_IT} {a1 : Int32} {r : Int32} {I2 : am_IT} (hF : F_X12_fault_55 I a1 = some (r, I2)) : am_C l d 0 0 mX12_fault [.ref 55, .int a1] N P I (am_qi r N P I2) := by
  refine am_body (sc := am_sc0) (n := 0) (by decide +kernel) (by decide) rfl ?_
  change G am_sc0 l d 0 0 mX12_fault (am_qi r N P I2) 0 [.ref 55, .int a1] [] N P I 0 0
  unfold F_X12_fault_55 at hF
  refine g_aload_n (pc := 0) dX12_fault_0 rfl rfl ?_
  refine g_iconst (pc := 1) (v := (0 : Int32)) dX12_fault_1 rfl ?_
  obtain ⟨I_1, e_I_1, hF⟩ := am_let_el hF
  refine n_putI (pc := 2) (k := 55) e_I_1 kf_X12_134 rfl rfl (hPl.lt (by decide)) dX12_fault_2 ?_
  refine g_iload_n (pc := 5) dX12_fault_5 rfl rfl ?_
  refine g_if_ne (pc := 6) (tgt := 16) dX12_fault_6 rfl (fun c_2 => ?_) (fun c_2 => ?_)
  · replace hF := am_no c_2 hF
    refine g_iload_n (pc := 16) dX12_fault_16 rfl rfl ?_
    refine g_iconst (pc := 17) (v := (1 : Int32)) dX12_fault_17 rfl ?_
    refine g_icmp_ne (pc := 18) (tgt := 28) dX12_fault_18 rfl (fun c_3 => ?_) (fun c_3 => ?_)
    · replace hF := am_no c_3 hF
      refine g_iconst (pc := 28) (v := (-1 : Int32)) dX12_fault_28 (by decide) ?_
      cases hF
      exact g_iret (pc := 29) rfl (Nat.le_refl _) (Nat.le_refl _) dX12_fault_29 ⟨rfl, rfl, rfl, rfl⟩
    · replace hF := am_yes c_3 hF
      refine g_aload_n (pc := 21) dX12_fault_21 rfl rfl ?_
      refine g_getI (pc := 22) (k := 55) kf_X12_89.r rfl rfl (hPl.lt (by decide)) dX12_fault_22 ?_
      refine g_goto (pc := 25) (tgt := 29) dX12_fault_25 rfl ?_
      cases hF
      exact g_iret (pc := 29) rfl (Nat.le_refl _) (Nat.le_refl _) dX12_fault_29 ⟨rfl, rfl, rfl, rfl⟩
  · replace hF := am_yes c_2 hF
    refine g_aload_n (pc := 9) dX12_fault_9 rfl rfl ?_
    refine g_getI (pc := 10) (k := 55) kf_X12_269.r rfl rfl (hPl.lt (by decide)) dX12_fault_10 ?_
    refine g_goto (pc := 13) (tgt := 29) dX12_fault_13 rfl ?_
    cases hF
    exact g_iret (pc := 29) rfl (Nat.le_refl _) (Nat.le_refl _) dX12_fault_29 ⟨rfl, rfl, rfl, rfl⟩
def F_X12_twoOf_55 (I : am_IT) (a1 : Int32) (a2 : Int32) (a3 : Int32) : Option (Int32) := if a1 = (2 : Int32) then (some (a2 + a3)) else (if a1 = (3 : Int32) then (some (a2 - a3)) else (if a1 = (4 : Int32) then (some (a2 * a3)) else (if a1 = (5 : Int32) then (if ¬ a3 = (0 : Int32) then (some (a2 / a3)) else none) else (if a1 = (6 : Int32) then (if a3 ≤ a2 then (some (0 : Int32)) else (some (1 : Int32))) else (if a1 = (7 : Int32) then (if a2 = a3 then (some (1 : Int32)) else (some (0 : Int32))) else (if a1 = (8 : Int32) then (if a2 ≤ a3 then (some (0 : Int32)) else (some (1 : Int32))) else (if a1 = (10 : Int32) then (some (a2 * a3)) else (if (a2 + a3) ≤ 0 then (some (0 : Int32)) else (some (1 : Int32))))))))))
set_option maxRecDepth 100000 in
set_option maxHeartbeats 4000000 in
theorem s_X12_twoOf_55 {l : Launch} {d N : Nat} {P : am_PT} (hPl : am_Pl 94 N P) (hd : 1 ≤ d) {I : am_IT} {a1 : Int32} {a2 : Int32} {a3 : Int32} {r : Int32} (hF : F_X12_twoOf_55 I a1 a2 a3 = some (r)) : am_C l d 0 0 mX12_twoOf [.ref 55, .int a1, .int a2, .int a3] N P I (am_qi r N P I) := by
  refine am_body (sc := am_sc0) (n := 0) (by decide +kernel) (by decide) rfl ?_
  change G am_sc0 l d 0 0 mX12_twoOf (am_qi r N P I) 0 [.ref 55, .int a1, .int a2, .int a3] [] N P I 0 0
  unfold F_X12_twoOf_55 at hF
  refine g_iload_n (pc := 0) dX12_twoOf_0 rfl rfl ?_
  refine g_iconst (pc := 1) (v := (2 : Int32)) dX12_twoOf_1 rfl ?_
  refine g_icmp_ne (pc := 2) (tgt := 9) dX12_twoOf_2 rfl (fun c_1 => ?_) (fun c_1 => ?_)
  · replace hF := am_no c_1 hF
    refine g_iload_n (pc := 9) dX12_twoOf_9 rfl rfl ?_
    refine g_iconst (pc := 10) (v := (3 : Int32)) dX12_twoOf_10 rfl ?_
    refine g_icmp_ne (pc := 11) (tgt := 18) dX12_twoOf_11 rfl (fun c_2 => ?_) (fun c_2 => ?_)
    · replace hF := am_no c_2 hF
      refine g_iload_n (pc := 18) dX12_twoOf_18 rfl rfl ?_
      refine g_iconst (pc := 19) (v := (4 : Int32)) dX12_twoOf_19 rfl ?_
      refine g_icmp_ne (pc := 20) (tgt := 27) dX12_twoOf_20 rfl (fun c_3 => ?_) (fun c_3 => ?_)
      · replace hF := am_no c_3 hF
        refine g_iload_n (pc := 27) dX12_twoOf_27 rfl rfl ?_
        refine g_iconst (pc := 28) (v := (5 : Int32)) dX12_twoOf_28 rfl ?_
        refine g_icmp_ne (pc := 29) (tgt := 36) dX12_twoOf_29 rfl (fun c_4 => ?_) (fun c_4 => ?_)
        · replace hF := am_no c_4 hF
          refine g_iload_n (pc := 36) dX12_twoOf_36 rfl rfl ?_
          refine g_bipush (pc := 37) (v := (6 : Int32)) dX12_twoOf_37 rfl ?_
          refine g_icmp_ne (pc := 39) (tgt := 53) dX12_twoOf_39 rfl (fun c_5 => ?_) (fun c_5 => ?_)
          · replace hF := am_no c_5 hF
            refine g_iload_n (pc := 53) dX12_twoOf_53 rfl rfl ?_
            refine g_bipush (pc := 54) (v := (7 : Int32)) dX12_twoOf_54 rfl ?_
            refine g_icmp_ne (pc := 56) (tgt := 70) dX12_twoOf_56 rfl (fun c_6 => ?_) (fun c_6 => ?_)
            · replace hF := am_no c_6 hF
              refine g_iload_n (pc := 70) dX12_twoOf_70 rfl rfl ?_
              refine g_bipush (pc := 71) (v := (8 : Int32)) dX12_twoOf_71 rfl ?_
              refine g_icmp_ne (pc := 73) (tgt := 87) dX12_twoOf_73 rfl (fun c_7 => ?_) (fun c_7 => ?_)
              · replace hF := am_no c_7 hF
                refine g_iload_n (pc := 87) dX12_twoOf_87 rfl rfl ?_
                refine g_bipush (pc := 88) (v := (10 : Int32)) dX12_twoOf_88 rfl ?_
                refine g_icmp_ne (pc := 90) (tgt := 99) dX12_twoOf_90 rfl (fun c_8 => ?_) (fun c_8 => ?_)
                · replace hF := am_no c_8 hF
                  refine g_iload_n (pc := 99) dX12_twoOf_99 rfl rfl ?_
                  refine g_iload_n (pc := 100) dX12_twoOf_100 rfl rfl ?_
                  refine g_iadd (pc := 101) dX12_twoOf_101 ?_
                  refine g_if_le (pc := 102) (tgt := 109) dX12_twoOf_102 rfl (fun c_9 => ?_) (fun c_9 => ?_)
                  · replace hF := am_yes c_9 hF
                    refine g_iconst (pc := 109) (v := (0 : Int32)) dX12_twoOf_109 rfl ?_
                    cases hF
                    exact g_iret (pc := 110) rfl (Nat.le_refl _) (Nat.le_refl _) dX12_twoOf_110 ⟨rfl, rfl, rfl, rfl⟩
                  · replace hF := am_no c_9 hF
                    refine g_iconst (pc := 105) (v := (1 : Int32)) dX12_twoOf_105 rfl ?_
                    refine g_goto (pc := 106) (tgt := 110) dX12_twoOf_106 rfl ?_
                    cases hF
                    exact g_iret (pc := 110) rfl (Nat.le_refl _) (Nat.le_refl _) dX12_twoOf_110 ⟨rfl, rfl, rfl, rfl⟩
                · replace hF := am_yes c_8 hF
                  refine g_iload_n (pc := 93) dX12_twoOf_93 rfl rfl ?_
                  refine g_iload_n (pc := 94) dX12_twoOf_94 rfl rfl ?_
                  refine g_imul (pc := 95) dX12_twoOf_95 ?_
                  refine g_goto (pc := 96) (tgt := 110) dX12_twoOf_96 rfl ?_
                  cases hF
                  exact g_iret (pc := 110) rfl (Nat.le_refl _) (Nat.le_refl _) dX12_twoOf_110 ⟨rfl, rfl, rfl, rfl⟩
              · replace hF := am_yes c_7 hF
                refine g_iload_n (pc := 76) dX12_twoOf_76 rfl rfl ?_
                refine g_iload_n (pc := 77) dX12_twoOf_77 rfl rfl ?_
                refine g_icmp_le (pc := 78) (tgt := 85) dX12_twoOf_78 rfl (fun c_10 => ?_) (fun c_10 => ?_)
                · replace hF := am_yes c_10 hF
                  refine g_iconst (pc := 85) (v := (0 : Int32)) dX12_twoOf_85 rfl ?_
                  cases hF
                  exact g_iret (pc := 86) rfl (Nat.le_refl _) (Nat.le_refl _) dX12_twoOf_86 ⟨rfl, rfl, rfl, rfl⟩
                · replace hF := am_no c_10 hF
                  refine g_iconst (pc := 81) (v := (1 : Int32)) dX12_twoOf_81 rfl ?_
                  refine g_goto (pc := 82) (tgt := 86) dX12_twoOf_82 rfl ?_
                  cases hF
                  exact g_iret (pc := 86) rfl (Nat.le_refl _) (Nat.le_refl _) dX12_twoOf_86 ⟨rfl, rfl, rfl, rfl⟩
            · replace hF := am_yes c_6 hF
              refine g_iload_n (pc := 59) dX12_twoOf_59 rfl rfl ?_
              refine g_iload_n (pc := 60) dX12_twoOf_60 rfl rfl ?_
              refine g_icmp_ne (pc := 61) (tgt := 68) dX12_twoOf_61 rfl (fun c_11 => ?_) (fun c_11 => ?_)
              · replace hF := am_no c_11 hF
                refine g_iconst (pc := 68) (v := (0 : Int32)) dX12_twoOf_68 rfl ?_
                cases hF
                exact g_iret (pc := 69) rfl (Nat.le_refl _) (Nat.le_refl _) dX12_twoOf_69 ⟨rfl, rfl, rfl, rfl⟩
              · replace hF := am_yes c_11 hF
                refine g_iconst (pc := 64) (v := (1 : Int32)) dX12_twoOf_64 rfl ?_
                refine g_goto (pc := 65) (tgt := 69) dX12_twoOf_65 rfl ?_
                cases hF
                exact g_iret (pc := 69) rfl (Nat.le_refl _) (Nat.le_refl _) dX12_twoOf_69 ⟨rfl, rfl, rfl, rfl⟩
          · replace hF := am_yes c_5 hF
            refine g_iload_n (pc := 42) dX12_twoOf_42 rfl rfl ?_
            refine g_iload_n (pc := 43) dX12_twoOf_43 rfl rfl ?_
            refine g_icmp_ge (pc := 44) (tgt := 51) dX12_twoOf_44 rfl (fun c_12 => ?_) (fun c_12 => ?_)
            · replace hF := am_yes c_12 hF
              refine g_iconst (pc := 51) (v := (0 : Int32)) dX12_twoOf_51 rfl ?_
              cases hF
              exact g_iret (pc := 52) rfl (Nat.le_refl _) (Nat.le_refl _) dX12_twoOf_52 ⟨rfl, rfl, rfl, rfl⟩
            · replace hF := am_no c_12 hF
              refine g_iconst (pc := 47) (v := (1 : Int32)) dX12_twoOf_47 rfl ?_
              refine g_goto (pc := 48) (tgt := 52) dX12_twoOf_48 rfl ?_
              cases hF
              exact g_iret (pc := 52) rfl (Nat.le_refl _) (Nat.le_refl _) dX12_twoOf_52 ⟨rfl, rfl, rfl, rfl⟩
        · replace hF := am_yes c_4 hF
          refine g_iload_n (pc := 32) dX12_twoOf_32 rfl rfl ?_
          refine g_iload_n (pc := 33) dX12_twoOf_33 rfl rfl ?_
          obtain ⟨c_13, hF⟩ := am_gd hF
          refine g_idiv (pc := 34) dX12_twoOf_34 c_13 ?_
          cases hF
          exact g_iret (pc := 35) rfl (Nat.le_refl _) (Nat.le_refl _) dX12_twoOf_35 ⟨rfl, rfl, rfl, rfl⟩
      · replace hF := am_yes c_3 hF
        refine g_iload_n (pc := 23) dX12_twoOf_23 rfl rfl ?_
        refine g_iload_n (pc := 24) dX12_twoOf_24 rfl rfl ?_
        refine g_imul (pc := 25) dX12_twoOf_25 ?_
        cases hF
        exact g_iret (pc := 26) rfl (Nat.le_refl _) (Nat.le_refl _) dX12_twoOf_26 ⟨rfl, rfl, rfl, rfl⟩
    · replace hF := am_yes c_2 hF
      refine g_iload_n (pc := 14) dX12_twoOf_14 rfl rfl ?_
      refine g_iload_n (pc := 15) dX12_twoOf_15 rfl rfl ?_
      refine g_isub (pc := 16) dX12_twoOf_16 ?_
      cases hF
      exact g_iret (pc := 17) rfl (Nat.le_refl _) (Nat.le_refl _) dX12_twoOf_17 ⟨rfl, rfl, rfl, rfl⟩
  · replace hF := am_yes c_1 hF
    refine g_iload_n (pc := 5) dX12_twoOf_5 rfl rfl ?_
    refine g_iload_n (pc := 6) dX12_twoOf_6 rfl rfl ?_
    refine g_iadd (pc := 7) dX12_twoOf_7 ?_
    cases hF
    exact g_iret (pc := 8) rfl (Nat.le_refl _) (Nat.le_refl _) dX12_twoOf_8 ⟨rfl, rfl, rfl, rfl⟩
def F_X12_isSo_55 (I : am_IT) (a1 : Int32) (a2 : Int32) : Option (Int32 × am_IT) := if am_ix a2 32 = true then (if am_ix a2 32 = true then (if (I 76 a2.toNatClampNeg) = (I 77 a2.toNatClampNeg) then (some ((1 : Int32), I)) else (if am_ix a2 32 = true then (am_let (((400 : Int32) * a1) + (I 76 a2.toNatClampNeg)) (fun (l4_5 : Int32) => am_b1 (am_it am_fu (am_u3 (fun (l3_6 : Int32) (l4_7 : Int32) (I_8 : am_IT) => if am_ix a2 32 = true then (if (((400 : Int32) * a1) + (I_8 77 a2.toNatClampNeg)) ≤ l4_7 then (some (.inr (I_8))) else (if am_ix l4_7 800 = true then (if (I_8 78 l4_7.toNatClampNeg) = 0 then (if am_ix l4_7 800 = true then (am_b1 (if (I_8 78 l4_7.toNatClampNeg) = 0 then (if am_ix l4_7 800 = true then (some (I_8 79 l4_7.toNatClampNeg)) else none) else (if am_ix l4_7 800 = true then (if am_ix (I_8 79 l4_7.toNatClampNeg) 6 = true then (some (I_8 81 (I_8 79 l4_7.toNatClampNeg).toNatClampNeg)) else none) else none)) (fun (v_21 : Int32) => if am_ix l3_6 420 = true then (am_let (up2 I_8 82 l3_6.toNatClampNeg v_21) (fun (I_28 : am_IT) => am_let (l3_6 + (1 : Int32)) (fun (l3_29 : Int32) => am_let (l4_7 + (1 : Int32)) (fun (l4_30 : Int32) => some (.inl (l3_29, l4_30, I_28)))))) else none)) else none) else (if am_ix l4_7 800 = true then (if (I_8 78 l4_7.toNatClampNeg) = (1 : Int32) then (if am_ix l4_7 800 = true then (am_b1 (if (I_8 78 l4_7.toNatClampNeg) = 0 then (if am_ix l4_7 800 = true then (some (I_8 79 l4_7.toNatClampNeg)) else none) else (if am_ix l4_7 800 = true then (if am_ix (I_8 79 l4_7.toNatClampNeg) 6 = true then (some (I_8 81 (I_8 79 l4_7.toNatClampNeg).toNatClampNeg)) else none) else none)) (fun (v_50 : Int32) => if am_ix l3_6 420 = true then (am_let (up2 I_8 82 l3_6.toNatClampNeg v_50) (fun (I_57 : am_IT) => am_let (l3_6 + (1 : Int32)) (fun (l3_58 : Int32) => am_let (l4_7 + (1 : Int32)) (fun (l4_59 : Int32) => some (.inl (l3_58, l4_59, I_57)))))) else none)) else none) else (if am_ix l4_7 800 = true then (if (I_8 78 l4_7.toNatClampNeg) = (9 : Int32) then (if am_ix (l3_6 - (1 : Int32)) 420 = true then (if am_ix (l3_6 - (1 : Int32)) 420 = true then (am_let (up2 I_8 82 (l3_6 - (1 : Int32)).toNatClampNeg ((1 : Int32) - (I_8 82 (l3_6 - (1 : Int32)).toNatClampNeg))) (fun (I_46 : am_IT) => am_let (l4_7 + (1 : Int32)) (fun (l4_47 : Int32) => some (.inl (l3_6, l4_47, I_46))))) else none) else none) else (am_let (l3_6 - (1 : Int32)) (fun (l3_35 : Int32) => if am_ix l4_7 800 = true then (if am_ix (l3_35 - (1 : Int32)) 420 = true then (if am_ix l3_35 420 = true then (am_b1 (F_X12_twoOf_55 I_8 (I_8 78 l4_7.toNatClampNeg) (I_8 82 (l3_35 - (1 : Int32)).toNatClampNeg) (I_8 82 l3_35.toNatClampNeg)) (fun (r_40 : Int32) => if am_ix (l3_35 - (1 : Int32)) 420 = true then (am_let (up2 I_8 82 (l3_35 - (1 : Int32)).toNatClampNeg r_40) (fun (I_42 : am_IT) => am_let (l4_7 + (1 : Int32)) (fun (l4_43 : Int32) => some (.inl (l3_35, l4_43, I_42))))) else none)) else none) else none) else none))) else none)) else none)) else none)) else none)) ((0 : Int32), l4_5, I)) (fun (I_9 : am_IT) => if am_ix (0 : Int32) 420 = true then (if (I_9 82 (0 : Int32).toNatClampNeg) = 0 then (some ((0 : Int32), I_9)) else (some ((1 : Int32), I_9))) else none))) else none)) else none) else none
set_option maxRecDepth 100000 in
set_option maxHeartbeats 4000000 in
theorem s_X12_isSo_55 {l : Launch} {d N : Nat} {P : am_PT} (hPl : am_Pl 94 N P) (hd : 2 ≤ d) {I : am_IT} {a1 : Int32} {a2 : Int32} {r : Int32} {I2 : am_IT} (hF : F_X12_isSo_55 I a1 a2 = some (r, I2)) : am_C l d 0 0 mX12_isSo [.ref 55, .int a1, .int a2] N P I (am_qz r N P I2) := by
  refine am_body (sc := am_sc0) (n := 2) (by decide +kernel) (by decide) rfl ?_
  change G am_sc0 l d 0 0 mX12_isSo (am_qz r N P I2) 0 [.ref 55, .int a1, .int a2, .null, .null] [] N P I 0 0
  unfold F_X12_isSo_55 at hF
  refine g_aload_n (pc := 0) dX12_isSo_0 rfl rfl ?_
  refine g_getR (pc := 1) (k := 55) (r := 76) kf_X12_74.r rfl rfl (hPl.get (by decide) rfl) (hPl.lt (by decide)) dX12_isSo_1 ?_
  refine g_iload_n (pc := 4) dX12_isSo_4 rfl rfl ?_
  obtain ⟨c_1, hF⟩ := am_gd hF
  refine g_iald (pc := 5) (k := 76) rfl (hPl.lt (by decide)) (am_ix_use c_1) dX12_isSo_5 ?_
  refine g_aload_n (pc := 6) dX12_isSo_6 rfl rfl ?_
  refine g_getR (pc := 7) (k := 55) (r := 77) kf_X12_77.r rfl rfl (hPl.get (by decide) rfl) (hPl.lt (by decide)) dX12_isSo_7 ?_
  refine g_iload_n (pc := 10) dX12_isSo_10 rfl rfl ?_
  obtain ⟨c_2, hF⟩ := am_gd hF
  refine g_iald (pc := 11) (k := 77) rfl (hPl.lt (by decide)) (am_ix_use c_2) dX12_isSo_11 ?_
  refine g_icmp_ne (pc := 12) (tgt := 17) dX12_isSo_12 rfl (fun c_3 => ?_) (fun c_3 => ?_)
  · replace hF := am_no c_3 hF
    refine g_iconst (pc := 17) (v := (0 : Int32)) dX12_isSo_17 rfl ?_
    refine n_istore_n (pc := 18) (ls2 := [.ref 55, .int a1, .int a2, .int (0 : Int32), .null]) rfl rfl dX12_isSo_18 rfl (Nat.le_of_ble_eq_true rfl) ?_
    refine g_sipush (pc := 19) (v := (400 : Int32)) dX12_isSo_19 rfl ?_
    refine g_iload_n (pc := 22) dX12_isSo_22 rfl rfl ?_
    refine g_imul (pc := 23) dX12_isSo_23 ?_
    refine g_aload_n (pc := 24) dX12_isSo_24 rfl rfl ?_
    refine g_getR (pc := 25) (k := 55) (r := 76) kf_X12_74.r rfl rfl (hPl.get (by decide) rfl) (hPl.lt (by decide)) dX12_isSo_25 ?_
    refine g_iload_n (pc := 28) dX12_isSo_28 rfl rfl ?_
    obtain ⟨c_4, hF⟩ := am_gd hF
    refine g_iald (pc := 29) (k := 76) rfl (hPl.lt (by decide)) (am_ix_use c_4) dX12_isSo_29 ?_
    refine g_iadd (pc := 30) dX12_isSo_30 ?_
    obtain ⟨l4_5, e_l4_5, hF⟩ := am_let_el hF
    refine n_istore (pc := 31) (ls2 := [.ref 55, .int a1, .int a2, .int (0 : Int32), .int l4_5]) e_l4_5 rfl dX12_isSo_31 (Nat.le_of_ble_eq_true rfl) ?_
    obtain ⟨I_9, hL_13, hF⟩ := am_b1_el hF
    have hX_10 : G am_sc0 l d 0 0 mX12_isSo (am_qz r N P I2) 192 [.ref 55, .int a1, .int a2, .null, .null] [] N P I_9 0 0 := by
      refine g_aload_n (pc := 192) dX12_isSo_192 rfl rfl ?_
      refine g_getR (pc := 193) (k := 55) (r := 82) kf_X12_95.r rfl rfl (hPl.get (by decide) rfl) (hPl.lt (by decide)) dX12_isSo_193 ?_
      refine g_iconst (pc := 196) (v := (0 : Int32)) dX12_isSo_196 rfl ?_
      obtain ⟨c_60, hF⟩ := am_gd hF
      refine g_iald (pc := 197) (k := 82) rfl (hPl.lt (by decide)) (am_ix_use c_60) dX12_isSo_197 ?_
      refine g_if_eq (pc := 198) (tgt := 205) dX12_isSo_198 rfl (fun c_61 => ?_) (fun c_61 => ?_)
      · replace hF := am_yes c_61 hF
        refine g_iconst (pc := 205) (v := (0 : Int32)) dX12_isSo_205 rfl ?_
        cases hF
        exact g_zret (pc := 206) rfl (Or.inl rfl) (Nat.le_refl _) (Nat.le_refl _) dX12_isSo_206 ⟨(Or.inl rfl), rfl, rfl, rfl, rfl⟩
      · replace hF := am_no c_61 hF
        refine g_iconst (pc := 201) (v := (1 : Int32)) dX12_isSo_201 rfl ?_
        refine g_goto (pc := 202) (tgt := 206) dX12_isSo_202 rfl ?_
        cases hF
        exact g_zret (pc := 206) rfl (Or.inr rfl) (Nat.le_refl _) (Nat.le_refl _) dX12_isSo_206 ⟨(Or.inr rfl), rfl, rfl, rfl, rfl⟩
    clear hF
    have hC := am_loop (C := fun x => G am_sc0 l d 0 0 mX12_isSo (am_qz r N P I2) 33 [.ref 55, .int a1, .int a2, .int x.1, .int x.2.1] [] N P x.2.2 0 0) (by
      rintro ⟨l3_6, l4_7, I_8⟩ rr hF ih_11 hE_12
      replace hF := am_u3_ap hF
      change G am_sc0 l d 0 0 mX12_isSo (am_qz r N P I2) 33 [.ref 55, .int a1, .int a2, .int l3_6, .int l4_7] [] N P I_8 0 0
      refine g_iload (pc := 33) dX12_isSo_33 rfl ?_
      refine g_sipush (pc := 35) (v := (400 : Int32)) dX12_isSo_35 rfl ?_
      refine g_iload_n (pc := 38) dX12_isSo_38 rfl rfl ?_
      refine g_imul (pc := 39) dX12_isSo_39 ?_
      refine g_aload_n (pc := 40) dX12_isSo_40 rfl rfl ?_
      refine g_getR (pc := 41) (k := 55) (r := 77) kf_X12_77.r rfl rfl (hPl.get (by decide) rfl) (hPl.lt (by decide)) dX12_isSo_41 ?_
      refine g_iload_n (pc := 44) dX12_isSo_44 rfl rfl ?_
      obtain ⟨c_15, hF⟩ := am_gd hF
      refine g_iald (pc := 45) (k := 77) rfl (hPl.lt (by decide)) (am_ix_use c_15) dX12_isSo_45 ?_
      refine g_iadd (pc := 46) dX12_isSo_46 ?_
      refine g_icmp_ge (pc := 47) (tgt := 192) dX12_isSo_47 rfl (fun c_16 => ?_) (fun c_16 => ?_)
      · replace hF := am_yes c_16 hF
        cases hF
        cases hE_12 _ rfl
        exact g_weak hX_10 ⟨Or.inr rfl, Or.inr rfl, Or.inr rfl, Or.inl rfl, Or.inl rfl, trivial⟩
      · replace hF := am_no c_16 hF
        refine g_aload_n (pc := 50) dX12_isSo_50 rfl rfl ?_
        refine g_getR (pc := 51) (k := 55) (r := 78) kf_X12_80.r rfl rfl (hPl.get (by decide) rfl) (hPl.lt (by decide)) dX12_isSo_51 ?_
        refine g_iload (pc := 54) dX12_isSo_54 rfl ?_
        obtain ⟨c_17, hF⟩ := am_gd hF
        refine g_iald (pc := 56) (k := 78) rfl (hPl.lt (by decide)) (am_ix_use c_17) dX12_isSo_56 ?_
        refine g_if_eq (pc := 57) (tgt := 71) dX12_isSo_57 rfl (fun c_18 => ?_) (fun c_18 => ?_)
        · replace hF := am_yes c_18 hF
          refine g_aload_n (pc := 71) dX12_isSo_71 rfl rfl ?_
          refine g_getR (pc := 72) (k := 55) (r := 82) kf_X12_95.r rfl rfl (hPl.get (by decide) rfl) (hPl.lt (by decide)) dX12_isSo_72 ?_
          refine g_iload_n (pc := 75) dX12_isSo_75 rfl rfl ?_
          refine g_aload_n (pc := 76) dX12_isSo_76 rfl rfl ?_
          refine g_getR (pc := 77) (k := 55) (r := 78) kf_X12_80.r rfl rfl (hPl.get (by decide) rfl) (hPl.lt (by decide)) dX12_isSo_77 ?_
          refine g_iload (pc := 80) dX12_isSo_80 rfl ?_
          obtain ⟨c_19, hF⟩ := am_gd hF
          refine g_iald (pc := 82) (k := 78) rfl (hPl.lt (by decide)) (am_ix_use c_19) dX12_isSo_82 ?_
          obtain ⟨v_21, hR_22, hF⟩ := am_b1_el hF
          have hJ_23 : G am_sc0 l d 0 0 mX12_isSo (am_qz r N P I2) 108 [.ref 55, .int a1, .int a2, .int l3_6, .int l4_7] [.int v_21, .int l3_6, .ref 82] N P I_8 0 0 := by
            obtain ⟨c_27, hF⟩ := am_gd hF
            obtain ⟨I_28, e_I_28, hF⟩ := am_let_el hF
            refine n_iast (pc := 108) (k := 82) e_I_28 rfl (hPl.lt (by decide)) (am_ix_use c_27) dX12_isSo_108 ?_
            refine g_iload_n (pc := 109) dX12_isSo_109 rfl rfl ?_
            refine g_iconst (pc := 110) (v := (1 : Int32)) dX12_isSo_110 rfl ?_
            refine g_iadd (pc := 111) dX12_isSo_111 ?_
            obtain ⟨l3_29, e_l3_29, hF⟩ := am_let_el hF
            refine n_istore_n (pc := 112) (ls2 := [.ref 55, .int a1, .int a2, .int l3_29, .int l4_7]) e_l3_29 rfl dX12_isSo_112 rfl (Nat.le_of_ble_eq_true rfl) ?_
            refine g_goto (pc := 113) (tgt := 186) dX12_isSo_113 rfl ?_
            obtain ⟨l4_30, e_l4_30, hF⟩ := am_let_el hF
            refine n_iinc (pc := 186) (ls2 := [.ref 55, .int a1, .int a2, .int l3_29, .int l4_30]) e_l4_30 rfl rfl rfl dX12_isSo_186 (Nat.le_of_ble_eq_true rfl) ?_
            refine g_goto (pc := 189) (tgt := 33) dX12_isSo_189 rfl ?_
            cases hF
            exact ih_11 (l3_29, l4_30, I_28) rfl
          clear hF
          have hF := hR_22
          clear hR_22
          refine g_if_ne (pc := 83) (tgt := 96) dX12_isSo_83 rfl (fun c_20 => ?_) (fun c_20 => ?_)
          · replace hF := am_no c_20 hF
            refine g_aload_n (pc := 96) dX12_isSo_96 rfl rfl ?_
            refine g_getR (pc := 97) (k := 55) (r := 81) kf_X12_92.r rfl rfl (hPl.get (by decide) rfl) (hPl.lt (by decide)) dX12_isSo_97 ?_
            refine g_aload_n (pc := 100) dX12_isSo_100 rfl rfl ?_
            refine g_getR (pc := 101) (k := 55) (r := 79) kf_X12_83.r rfl rfl (hPl.get (by decide) rfl) (hPl.lt (by decide)) dX12_isSo_101 ?_
            refine g_iload (pc := 104) dX12_isSo_104 rfl ?_
            obtain ⟨c_24, hF⟩ := am_gd hF
            refine g_iald (pc := 106) (k := 79) rfl (hPl.lt (by decide)) (am_ix_use c_24) dX12_isSo_106 ?_
            obtain ⟨c_25, hF⟩ := am_gd hF
            refine g_iald (pc := 107) (k := 81) rfl (hPl.lt (by decide)) (am_ix_use c_25) dX12_isSo_107 ?_
            cases hF
            exact hJ_23
          · replace hF := am_yes c_20 hF
            refine g_aload_n (pc := 86) dX12_isSo_86 rfl rfl ?_
            refine g_getR (pc := 87) (k := 55) (r := 79) kf_X12_83.r rfl rfl (hPl.get (by decide) rfl) (hPl.lt (by decide)) dX12_isSo_87 ?_
            refine g_iload (pc := 90) dX12_isSo_90 rfl ?_
            obtain ⟨c_26, hF⟩ := am_gd hF
            refine g_iald (pc := 92) (k := 79) rfl (hPl.lt (by decide)) (am_ix_use c_26) dX12_isSo_92 ?_
            refine g_goto (pc := 93) (tgt := 108) dX12_isSo_93 rfl ?_
            cases hF
            exact hJ_23
        · replace hF := am_no c_18 hF
          refine g_aload_n (pc := 60) dX12_isSo_60 rfl rfl ?_
          refine g_getR (pc := 61) (k := 55) (r := 78) kf_X12_80.r rfl rfl (hPl.get (by decide) rfl) (hPl.lt (by decide)) dX12_isSo_61 ?_
          refine g_iload (pc := 64) dX12_isSo_64 rfl ?_
          obtain ⟨c_31, hF⟩ := am_gd hF
          refine g_iald (pc := 66) (k := 78) rfl (hPl.lt (by decide)) (am_ix_use c_31) dX12_isSo_66 ?_
          refine g_iconst (pc := 67) (v := (1 : Int32)) dX12_isSo_67 rfl ?_
          refine g_icmp_ne (pc := 68) (tgt := 116) dX12_isSo_68 rfl (fun c_32 => ?_) (fun c_32 => ?_)
          · replace hF := am_no c_32 hF
            refine g_aload_n (pc := 116) dX12_isSo_116 rfl rfl ?_
            refine g_getR (pc := 117) (k := 55) (r := 78) kf_X12_80.r rfl rfl (hPl.get (by decide) rfl) (hPl.lt (by decide)) dX12_isSo_117 ?_
            refine g_iload (pc := 120) dX12_isSo_120 rfl ?_
            obtain ⟨c_33, hF⟩ := am_gd hF
            refine g_iald (pc := 122) (k := 78) rfl (hPl.lt (by decide)) (am_ix_use c_33) dX12_isSo_122 ?_
            refine g_bipush (pc := 123) (v := (9 : Int32)) dX12_isSo_123 rfl ?_
            refine g_icmp_ne (pc := 125) (tgt := 149) dX12_isSo_125 rfl (fun c_34 => ?_) (fun c_34 => ?_)
            · replace hF := am_no c_34 hF
              refine g_iload_n (pc := 149) dX12_isSo_149 rfl rfl ?_
              refine g_iconst (pc := 150) (v := (1 : Int32)) dX12_isSo_150 rfl ?_
              refine g_isub (pc := 151) dX12_isSo_151 ?_
              obtain ⟨l3_35, e_l3_35, hF⟩ := am_let_el hF
              refine n_istore_n (pc := 152) (ls2 := [.ref 55, .int a1, .int a2, .int l3_35, .int l4_7]) e_l3_35 rfl dX12_isSo_152 rfl (Nat.le_of_ble_eq_true rfl) ?_
              refine g_aload_n (pc := 153) dX12_isSo_153 rfl rfl ?_
              refine g_getR (pc := 154) (k := 55) (r := 82) kf_X12_95.r rfl rfl (hPl.get (by decide) rfl) (hPl.lt (by decide)) dX12_isSo_154 ?_
              refine g_iload_n (pc := 157) dX12_isSo_157 rfl rfl ?_
              refine g_iconst (pc := 158) (v := (1 : Int32)) dX12_isSo_158 rfl ?_
              refine g_isub (pc := 159) dX12_isSo_159 ?_
              refine g_aload_n (pc := 160) dX12_isSo_160 rfl rfl ?_
              refine g_aload_n (pc := 161) dX12_isSo_161 rfl rfl ?_
              refine g_getR (pc := 162) (k := 55) (r := 78) kf_X12_80.r rfl rfl (hPl.get (by decide) rfl) (hPl.lt (by decide)) dX12_isSo_162 ?_
              refine g_iload (pc := 165) dX12_isSo_165 rfl ?_
              obtain ⟨c_36, hF⟩ := am_gd hF
              refine g_iald (pc := 167) (k := 78) rfl (hPl.lt (by decide)) (am_ix_use c_36) dX12_isSo_167 ?_
              refine g_aload_n (pc := 168) dX12_isSo_168 rfl rfl ?_
              refine g_getR (pc := 169) (k := 55) (r := 82) kf_X12_95.r rfl rfl (hPl.get (by decide) rfl) (hPl.lt (by decide)) dX12_isSo_169 ?_
              refine g_iload_n (pc := 172) dX12_isSo_172 rfl rfl ?_
              refine g_iconst (pc := 173) (v := (1 : Int32)) dX12_isSo_173 rfl ?_
              refine g_isub (pc := 174) dX12_isSo_174 ?_
              obtain ⟨c_37, hF⟩ := am_gd hF
              refine g_iald (pc := 175) (k := 82) rfl (hPl.lt (by decide)) (am_ix_use c_37) dX12_isSo_175 ?_
              refine g_aload_n (pc := 176) dX12_isSo_176 rfl rfl ?_
              refine g_getR (pc := 177) (k := 55) (r := 82) kf_X12_95.r rfl rfl (hPl.get (by decide) rfl) (hPl.lt (by decide)) dX12_isSo_177 ?_
              refine g_iload_n (pc := 180) dX12_isSo_180 rfl rfl ?_
              obtain ⟨c_38, hF⟩ := am_gd hF
              refine g_iald (pc := 181) (k := 82) rfl (hPl.lt (by decide)) (am_ix_use c_38) dX12_isSo_181 ?_
              obtain ⟨r_40, h_39, hF⟩ := am_b1_el hF
              refine g_cVi (pc := 182) (k := 55) (As := [.int (I_8 78 l4_7.toNatClampNeg), .int (I_8 82 (l3_35 - (1 : Int32)).toNatClampNeg), .int (I_8 82 l3_35.toNatClampNeg)]) (st := [.int (l3_35 - (1 : Int32)), .ref 82]) ky_X12_twoOf kl_X12_275 (s_X12_twoOf_55 (d := 1) (hPl) (Nat.le_refl _) h_39) rfl rfl rfl (hPl.lt (by decide)) (Nat.le_trans (by decide) hd) (Nat.le_of_ble_eq_true rfl) (Nat.le_refl _) (Nat.le_refl _) dX12_isSo_182 ?_
              obtain ⟨c_41, hF⟩ := am_gd hF
              obtain ⟨I_42, e_I_42, hF⟩ := am_let_el hF
              refine n_iast (pc := 185) (k := 82) e_I_42 rfl (hPl.lt (by decide)) (am_ix_use c_41) dX12_isSo_185 ?_
              obtain ⟨l4_43, e_l4_43, hF⟩ := am_let_el hF
              refine n_iinc (pc := 186) (ls2 := [.ref 55, .int a1, .int a2, .int l3_35, .int l4_43]) e_l4_43 rfl rfl rfl dX12_isSo_186 (Nat.le_of_ble_eq_true rfl) ?_
              refine g_goto (pc := 189) (tgt := 33) dX12_isSo_189 rfl ?_
              cases hF
              exact ih_11 (l3_35, l4_43, I_42) rfl
            · replace hF := am_yes c_34 hF
              refine g_aload_n (pc := 128) dX12_isSo_128 rfl rfl ?_
              refine g_getR (pc := 129) (k := 55) (r := 82) kf_X12_95.r rfl rfl (hPl.get (by decide) rfl) (hPl.lt (by decide)) dX12_isSo_129 ?_
              refine g_iload_n (pc := 132) dX12_isSo_132 rfl rfl ?_
              refine g_iconst (pc := 133) (v := (1 : Int32)) dX12_isSo_133 rfl ?_
              refine g_isub (pc := 134) dX12_isSo_134 ?_
              refine g_iconst (pc := 135) (v := (1 : Int32)) dX12_isSo_135 rfl ?_
              refine g_aload_n (pc := 136) dX12_isSo_136 rfl rfl ?_
              refine g_getR (pc := 137) (k := 55) (r := 82) kf_X12_95.r rfl rfl (hPl.get (by decide) rfl) (hPl.lt (by decide)) dX12_isSo_137 ?_
              refine g_iload_n (pc := 140) dX12_isSo_140 rfl rfl ?_
              refine g_iconst (pc := 141) (v := (1 : Int32)) dX12_isSo_141 rfl ?_
              refine g_isub (pc := 142) dX12_isSo_142 ?_
              obtain ⟨c_44, hF⟩ := am_gd hF
              refine g_iald (pc := 143) (k := 82) rfl (hPl.lt (by decide)) (am_ix_use c_44) dX12_isSo_143 ?_
              refine g_isub (pc := 144) dX12_isSo_144 ?_
              obtain ⟨c_45, hF⟩ := am_gd hF
              obtain ⟨I_46, e_I_46, hF⟩ := am_let_el hF
              refine n_iast (pc := 145) (k := 82) e_I_46 rfl (hPl.lt (by decide)) (am_ix_use c_45) dX12_isSo_145 ?_
              refine g_goto (pc := 146) (tgt := 186) dX12_isSo_146 rfl ?_
              obtain ⟨l4_47, e_l4_47, hF⟩ := am_let_el hF
              refine n_iinc (pc := 186) (ls2 := [.ref 55, .int a1, .int a2, .int l3_6, .int l4_47]) e_l4_47 rfl rfl rfl dX12_isSo_186 (Nat.le_of_ble_eq_true rfl) ?_
              refine g_goto (pc := 189) (tgt := 33) dX12_isSo_189 rfl ?_
              cases hF
              exact ih_11 (l3_6, l4_47, I_46) rfl
          · replace hF := am_yes c_32 hF
            refine g_aload_n (pc := 71) dX12_isSo_71 rfl rfl ?_
            refine g_getR (pc := 72) (k := 55) (r := 82) kf_X12_95.r rfl rfl (hPl.get (by decide) rfl) (hPl.lt (by decide)) dX12_isSo_72 ?_
            refine g_iload_n (pc := 75) dX12_isSo_75 rfl rfl ?_
            refine g_aload_n (pc := 76) dX12_isSo_76 rfl rfl ?_
            refine g_getR (pc := 77) (k := 55) (r := 78) kf_X12_80.r rfl rfl (hPl.get (by decide) rfl) (hPl.lt (by decide)) dX12_isSo_77 ?_
            refine g_iload (pc := 80) dX12_isSo_80 rfl ?_
            obtain ⟨c_48, hF⟩ := am_gd hF
            refine g_iald (pc := 82) (k := 78) rfl (hPl.lt (by decide)) (am_ix_use c_48) dX12_isSo_82 ?_
            obtain ⟨v_50, hR_51, hF⟩ := am_b1_el hF
            have hJ_52 : G am_sc0 l d 0 0 mX12_isSo (am_qz r N P I2) 108 [.ref 55, .int a1, .int a2, .int l3_6, .int l4_7] [.int v_50, .int l3_6, .ref 82] N P I_8 0 0 := by
              obtain ⟨c_56, hF⟩ := am_gd hF
              obtain ⟨I_57, e_I_57, hF⟩ := am_let_el hF
              refine n_iast (pc := 108) (k := 82) e_I_57 rfl (hPl.lt (by decide)) (am_ix_use c_56) dX12_isSo_108 ?_
              refine g_iload_n (pc := 109) dX12_isSo_109 rfl rfl ?_
              refine g_iconst (pc := 110) (v := (1 : Int32)) dX12_isSo_110 rfl ?_
              refine g_iadd (pc := 111) dX12_isSo_111 ?_
              obtain ⟨l3_58, e_l3_58, hF⟩ := am_let_el hF
              refine n_istore_n (pc := 112) (ls2 := [.ref 55, .int a1, .int a2, .int l3_58, .int l4_7]) e_l3_58 rfl dX12_isSo_112 rfl (Nat.le_of_ble_eq_true rfl) ?_
              refine g_goto (pc := 113) (tgt := 186) dX12_isSo_113 rfl ?_
              obtain ⟨l4_59, e_l4_59, hF⟩ := am_let_el hF
              refine n_iinc (pc := 186) (ls2 := [.ref 55, .int a1, .int a2, .int l3_58, .int l4_59]) e_l4_59 rfl rfl rfl dX12_isSo_186 (Nat.le_of_ble_eq_true rfl) ?_
              refine g_goto (pc := 189) (tgt := 33) dX12_isSo_189 rfl ?_
              cases hF
              exact ih_11 (l3_58, l4_59, I_57) rfl
            clear hF
            have hF := hR_51
            clear hR_51
            refine g_if_ne (pc := 83) (tgt := 96) dX12_isSo_83 rfl (fun c_49 => ?_) (fun c_49 => ?_)
            · replace hF := am_no c_49 hF
              refine g_aload_n (pc := 96) dX12_isSo_96 rfl rfl ?_
              refine g_getR (pc := 97) (k := 55) (r := 81) kf_X12_92.r rfl rfl (hPl.get (by decide) rfl) (hPl.lt (by decide)) dX12_isSo_97 ?_
              refine g_aload_n (pc := 100) dX12_isSo_100 rfl rfl ?_
              refine g_getR (pc := 101) (k := 55) (r := 79) kf_X12_83.r rfl rfl (hPl.get (by decide) rfl) (hPl.lt (by decide)) dX12_isSo_101 ?_
              refine g_iload (pc := 104) dX12_isSo_104 rfl ?_
              obtain ⟨c_53, hF⟩ := am_gd hF
              refine g_iald (pc := 106) (k := 79) rfl (hPl.lt (by decide)) (am_ix_use c_53) dX12_isSo_106 ?_
              obtain ⟨c_54, hF⟩ := am_gd hF
              refine g_iald (pc := 107) (k := 81) rfl (hPl.lt (by decide)) (am_ix_use c_54) dX12_isSo_107 ?_
              cases hF
              exact hJ_52
            · replace hF := am_yes c_49 hF
              refine g_aload_n (pc := 86) dX12_isSo_86 rfl rfl ?_
              refine g_getR (pc := 87) (k := 55) (r := 79) kf_X12_83.r rfl rfl (hPl.get (by decide) rfl) (hPl.lt (by decide)) dX12_isSo_87 ?_
              refine g_iload (pc := 90) dX12_isSo_90 rfl ?_
              obtain ⟨c_55, hF⟩ := am_gd hF
              refine g_iald (pc := 92) (k := 79) rfl (hPl.lt (by decide)) (am_ix_use c_55) dX12_isSo_92 ?_
              refine g_goto (pc := 93) (tgt := 108) dX12_isSo_93 rfl ?_
              cases hF
              exact hJ_52
      ) _ _ hL_13
    exact hC
  · replace hF := am_yes c_3 hF
    refine g_iconst (pc := 15) (v := (1 : Int32)) dX12_isSo_15 rfl ?_
    cases hF
    exact g_zret (pc := 16) rfl (Or.inr rfl) (Nat.le_refl _) (Nat.le_refl _) dX12_isSo_16 ⟨(Or.inr rfl), rfl, rfl, rfl, rfl⟩
def F_X12_seenFrom_55 (I : am_IT) (a1 : Int32) (a2 : Int32) : Option (Int32) := if am_ix (((7 : Int32) * a1) + a2) 56 = true then (am_let (I 58 (((7 : Int32) * a1) + a2).toNatClampNeg) (fun (l3_2 : Int32) => am_b1 (am_it am_fu (am_u2 (fun (l3_3 : Int32) (l4_4 : Int32) => if (I 55 8) ≤ l4_4 then (some (.inr (l3_3))) else (if am_ix l4_4 20 = true then (if (I 59 l4_4.toNatClampNeg) = a1 then (if am_ix l4_4 20 = true then (if (I 60 l4_4.toNatClampNeg) = a2 then (if am_ix l4_4 20 = true then (if am_ix l4_4 20 = true then (am_let (l3_3 - (((I 55 13) - (I 62 l4_4.toNatClampNeg)) * (I 61 l4_4.toNatClampNeg))) (fun (l3_20 : Int32) => am_let (l4_4 + (1 : Int32)) (fun (l4_21 : Int32) => some (.inl (l3_20, l4_21))))) else none) else none) else (am_let (l4_4 + (1 : Int32)) (fun (l4_17 : Int32) => some (.inl (l3_3, l4_17))))) else none) else (am_let (l4_4 + (1 : Int32)) (fun (l4_14 : Int32) => some (.inl (l3_3, l4_14))))) else none))) (l3_2, (0 : Int32))) (fun (l3_5 : Int32) => if 0 ≤ l3_5 then (some l3_5) else (some (0 : Int32))))) else none
set_option maxRecDepth 100000 in
set_option maxHeartbeats 4000000 in
theorem s_X12_seenFrom_55 {l : Launch} {d N : Nat} {P : am_PT} (hPl : am_Pl 94 N P) (hd : 1 ≤ d) {I : am_IT} {a1 : Int32} {a2 : Int32} {r : Int32} (hF : F_X12_seenFrom_55 I a1 a2 = some (r)) : am_C l d 0 0 mX12_seenFrom [.ref 55, .int a1, .int a2] N P I (am_qi r N P I) := by
  refine am_body (sc := am_sc0) (n := 2) (by decide +kernel) (by decide) rfl ?_
  change G am_sc0 l d 0 0 mX12_seenFrom (am_qi r N P I) 0 [.ref 55, .int a1, .int a2, .null, .null] [] N P I 0 0
  unfold F_X12_seenFrom_55 at hF
  refine g_aload_n (pc := 0) dX12_seenFrom_0 rfl rfl ?_
  refine g_getR (pc := 1) (k := 55) (r := 58) kf_X12_20.r rfl rfl (hPl.get (by decide) rfl) (hPl.lt (by decide)) dX12_seenFrom_1 ?_
  refine g_bipush (pc := 4) (v := (7 : Int32)) dX12_seenFrom_4 rfl ?_
  refine g_iload_n (pc := 6) dX12_seenFrom_6 rfl rfl ?_
  refine g_imul (pc := 7) dX12_seenFrom_7 ?_
  refine g_iload_n (pc := 8) dX12_seenFrom_8 rfl rfl ?_
  refine g_iadd (pc := 9) dX12_seenFrom_9 ?_
  obtain ⟨c_1, hF⟩ := am_gd hF
  refine g_iald (pc := 10) (k := 58) rfl (hPl.lt (by decide)) (am_ix_use c_1) dX12_seenFrom_10 ?_
  obtain ⟨l3_2, e_l3_2, hF⟩ := am_let_el hF
  refine n_istore_n (pc := 11) (ls2 := [.ref 55, .int a1, .int a2, .int l3_2, .null]) e_l3_2 rfl dX12_seenFrom_11 rfl (Nat.le_of_ble_eq_true rfl) ?_
  refine g_iconst (pc := 12) (v := (0 : Int32)) dX12_seenFrom_12 rfl ?_
  refine n_istore (pc := 13) (ls2 := [.ref 55, .int a1, .int a2, .int l3_2, .int (0 : Int32)]) rfl rfl dX12_seenFrom_13 (Nat.le_of_ble_eq_true rfl) ?_
  obtain ⟨l3_5, hL_9, hF⟩ := am_b1_el hF
  have hX_6 : G am_sc0 l d 0 0 mX12_seenFrom (am_qi r N P I) 75 [.ref 55, .int a1, .int a2, .int l3_5, .null] [] N P I 0 0 := by
    refine g_iload_n (pc := 75) dX12_seenFrom_75 rfl rfl ?_
    refine g_if_ge (pc := 76) (tgt := 83) dX12_seenFrom_76 rfl (fun c_22 => ?_) (fun c_22 => ?_)
    · replace hF := am_yes c_22 hF
      refine g_iload_n (pc := 83) dX12_seenFrom_83 rfl rfl ?_
      cases hF
      exact g_iret (pc := 84) rfl (Nat.le_refl _) (Nat.le_refl _) dX12_seenFrom_84 ⟨rfl, rfl, rfl, rfl⟩
    · replace hF := am_no c_22 hF
      refine g_iconst (pc := 79) (v := (0 : Int32)) dX12_seenFrom_79 rfl ?_
      refine g_goto (pc := 80) (tgt := 84) dX12_seenFrom_80 rfl ?_
      cases hF
      exact g_iret (pc := 84) rfl (Nat.le_refl _) (Nat.le_refl _) dX12_seenFrom_84 ⟨rfl, rfl, rfl, rfl⟩
  clear hF
  have hC := am_loop (C := fun x => G am_sc0 l d 0 0 mX12_seenFrom (am_qi r N P I) 15 [.ref 55, .int a1, .int a2, .int x.1, .int x.2] [] N P I 0 0) (by
    rintro ⟨l3_3, l4_4⟩ rr hF ih_7 hE_8
    replace hF := am_u2_ap hF
    change G am_sc0 l d 0 0 mX12_seenFrom (am_qi r N P I) 15 [.ref 55, .int a1, .int a2, .int l3_3, .int l4_4] [] N P I 0 0
    refine g_iload (pc := 15) dX12_seenFrom_15 rfl ?_
    refine g_aload_n (pc := 17) dX12_seenFrom_17 rfl rfl ?_
    refine g_getI (pc := 18) (k := 55) kf_X12_152.r rfl rfl (hPl.lt (by decide)) dX12_seenFrom_18 ?_
    refine g_icmp_ge (pc := 21) (tgt := 75) dX12_seenFrom_21 rfl (fun c_11 => ?_) (fun c_11 => ?_)
    · replace hF := am_yes c_11 hF
      cases hF
      cases hE_8 _ rfl
      exact g_weak hX_6 ⟨Or.inr rfl, Or.inr rfl, Or.inr rfl, Or.inr rfl, Or.inl rfl, trivial⟩
    · replace hF := am_no c_11 hF
      refine g_aload_n (pc := 24) dX12_seenFrom_24 rfl rfl ?_
      refine g_getR (pc := 25) (k := 55) (r := 59) kf_X12_23.r rfl rfl (hPl.get (by decide) rfl) (hPl.lt (by decide)) dX12_seenFrom_25 ?_
      refine g_iload (pc := 28) dX12_seenFrom_28 rfl ?_
      obtain ⟨c_12, hF⟩ := am_gd hF
      refine g_iald (pc := 30) (k := 59) rfl (hPl.lt (by decide)) (am_ix_use c_12) dX12_seenFrom_30 ?_
      refine g_iload_n (pc := 31) dX12_seenFrom_31 rfl rfl ?_
      refine g_icmp_ne (pc := 32) (tgt := 69) dX12_seenFrom_32 rfl (fun c_13 => ?_) (fun c_13 => ?_)
      · replace hF := am_no c_13 hF
        obtain ⟨l4_14, e_l4_14, hF⟩ := am_let_el hF
        refine n_iinc (pc := 69) (ls2 := [.ref 55, .int a1, .int a2, .int l3_3, .int l4_14]) e_l4_14 rfl rfl rfl dX12_seenFrom_69 (Nat.le_of_ble_eq_true rfl) ?_
        refine g_goto (pc := 72) (tgt := 15) dX12_seenFrom_72 rfl ?_
        cases hF
        exact ih_7 (l3_3, l4_14) rfl
      · replace hF := am_yes c_13 hF
        refine g_aload_n (pc := 35) dX12_seenFrom_35 rfl rfl ?_
        refine g_getR (pc := 36) (k := 55) (r := 60) kf_X12_26.r rfl rfl (hPl.get (by decide) rfl) (hPl.lt (by decide)) dX12_seenFrom_36 ?_
        refine g_iload (pc := 39) dX12_seenFrom_39 rfl ?_
        obtain ⟨c_15, hF⟩ := am_gd hF
        refine g_iald (pc := 41) (k := 60) rfl (hPl.lt (by decide)) (am_ix_use c_15) dX12_seenFrom_41 ?_
        refine g_iload_n (pc := 42) dX12_seenFrom_42 rfl rfl ?_
        refine g_icmp_ne (pc := 43) (tgt := 69) dX12_seenFrom_43 rfl (fun c_16 => ?_) (fun c_16 => ?_)
        · replace hF := am_no c_16 hF
          obtain ⟨l4_17, e_l4_17, hF⟩ := am_let_el hF
          refine n_iinc (pc := 69) (ls2 := [.ref 55, .int a1, .int a2, .int l3_3, .int l4_17]) e_l4_17 rfl rfl rfl dX12_seenFrom_69 (Nat.le_of_ble_eq_true rfl) ?_
          refine g_goto (pc := 72) (tgt := 15) dX12_seenFrom_72 rfl ?_
          cases hF
          exact ih_7 (l3_3, l4_17) rfl
        · replace hF := am_yes c_16 hF
          refine g_iload_n (pc := 46) dX12_seenFrom_46 rfl rfl ?_
          refine g_aload_n (pc := 47) dX12_seenFrom_47 rfl rfl ?_
          refine g_getI (pc := 48) (k := 55) kf_X12_155.r rfl rfl (hPl.lt (by decide)) dX12_seenFrom_48 ?_
          refine g_aload_n (pc := 51) dX12_seenFrom_51 rfl rfl ?_
          refine g_getR (pc := 52) (k := 55) (r := 62) kf_X12_32.r rfl rfl (hPl.get (by decide) rfl) (hPl.lt (by decide)) dX12_seenFrom_52 ?_
          refine g_iload (pc := 55) dX12_seenFrom_55 rfl ?_
          obtain ⟨c_18, hF⟩ := am_gd hF
          refine g_iald (pc := 57) (k := 62) rfl (hPl.lt (by decide)) (am_ix_use c_18) dX12_seenFrom_57 ?_
          refine g_isub (pc := 58) dX12_seenFrom_58 ?_
          refine g_aload_n (pc := 59) dX12_seenFrom_59 rfl rfl ?_
          refine g_getR (pc := 60) (k := 55) (r := 61) kf_X12_29.r rfl rfl (hPl.get (by decide) rfl) (hPl.lt (by decide)) dX12_seenFrom_60 ?_
          refine g_iload (pc := 63) dX12_seenFrom_63 rfl ?_
          obtain ⟨c_19, hF⟩ := am_gd hF
          refine g_iald (pc := 65) (k := 61) rfl (hPl.lt (by decide)) (am_ix_use c_19) dX12_seenFrom_65 ?_
          refine g_imul (pc := 66) dX12_seenFrom_66 ?_
          refine g_isub (pc := 67) dX12_seenFrom_67 ?_
          obtain ⟨l3_20, e_l3_20, hF⟩ := am_let_el hF
          refine n_istore_n (pc := 68) (ls2 := [.ref 55, .int a1, .int a2, .int l3_20, .int l4_4]) e_l3_20 rfl dX12_seenFrom_68 rfl (Nat.le_of_ble_eq_true rfl) ?_
          obtain ⟨l4_21, e_l4_21, hF⟩ := am_let_el hF
          refine n_iinc (pc := 69) (ls2 := [.ref 55, .int a1, .int a2, .int l3_20, .int l4_21]) e_l4_21 rfl rfl rfl dX12_seenFrom_69 (Nat.le_of_ble_eq_true rfl) ?_
          refine g_goto (pc := 72) (tgt := 15) dX12_seenFrom_72 rfl ?_
          cases hF
          exact ih_7 (l3_20, l4_21) rfl
    ) _ _ hL_9
  exact hC
def F_X12_sees_55 (I : am_IT) (a1 : Int32) (a2 : Int32) : Option (Int32 × am_IT) := am_let (up2 I 55 0 (0 : Int32)) (fun (I_1 : am_IT) => am_b1 (F_X12_isOne_55 I_1 a1) (fun (r_3 : Int32) => if r_3 = 0 then (some ((-1 : Int32), I_1)) else (am_b1 (F_X12_isWall_55 I_1 a2) (fun (r_7 : Int32) => if r_7 = 0 then (some ((-1 : Int32), I_1)) else (if am_ix a1 7 = true then (am_b1 (F_X12_seenFrom_55 I_1 (I_1 57 a1.toNatClampNeg) a2) (fun (r_12 : Int32) => some (r_12, I_1))) else none)))))
set_option maxRecDepth 100000 in
set_option maxHeartbeats 4000000 in
theorem s_X12_sees_55 {l : Launch} {d N : Nat} {P : am_PT} (hPl : am_Pl 94 N P) (hd : 2 ≤ d) {I : am_IT} {a1 : Int32} {a2 : Int32} {r : Int32} {I2 : am_IT} (hF : F_X12_sees_55 I a1 a2 = some (r, I2)) : am_C l d 0 0 mX12_sees [.ref 55, .int a1, .int a2] N P I (am_qi r N P I2) := by
  refine am_body (sc := am_sc0) (n := 0) (by decide +kernel) (by decide) rfl ?_
  change G am_sc0 l d 0 0 mX12_sees (am_qi r N P I2) 0 [.ref 55, .int a1, .int a2] [] N P I 0 0
  unfold F_X12_sees_55 at hF
  refine g_aload_n (pc := 0) dX12_sees_0 rfl rfl ?_
  refine g_iconst (pc := 1) (v := (0 : Int32)) dX12_sees_1 rfl ?_
  obtain ⟨I_1, e_I_1, hF⟩ := am_let_el hF
  refine n_putI (pc := 2) (k := 55) e_I_1 kf_X12_134 rfl rfl (hPl.lt (by decide)) dX12_sees_2 ?_
  refine g_aload_n (pc := 5) dX12_sees_5 rfl rfl ?_
  refine g_iload_n (pc := 6) dX12_sees_6 rfl rfl ?_
  obtain ⟨r_3, h_2, hF⟩ := am_b1_el hF
  refine g_cVz (pc := 7) (k := 55) (As := [.int a1]) (st := []) ky_X12_isOne kl_X12_175 (s_X12_isOne_55 (d := 1) (hPl) (Nat.le_refl _) h_2) rfl rfl rfl (hPl.lt (by decide)) (Nat.le_trans (by decide) hd) (Nat.le_of_ble_eq_true rfl) (Nat.le_refl _) (Nat.le_refl _) dX12_sees_7 ?_
  intro z_4
  refine g_if_eq (pc := 10) (tgt := 35) dX12_sees_10 rfl (fun c_5 => ?_) (fun c_5 => ?_)
  · replace hF := am_yes c_5 hF
    refine g_iconst (pc := 35) (v := (-1 : Int32)) dX12_sees_35 (by decide) ?_
    cases hF
    exact g_iret (pc := 36) rfl (Nat.le_refl _) (Nat.le_refl _) dX12_sees_36 ⟨rfl, rfl, rfl, rfl⟩
  · replace hF := am_no c_5 hF
    refine g_aload_n (pc := 13) dX12_sees_13 rfl rfl ?_
    refine g_iload_n (pc := 14) dX12_sees_14 rfl rfl ?_
    obtain ⟨r_7, h_6, hF⟩ := am_b1_el hF
    refine g_cVz (pc := 15) (k := 55) (As := [.int a2]) (st := []) ky_X12_isWall kl_X12_178 (s_X12_isWall_55 (d := 1) (hPl) (Nat.le_refl _) h_6) rfl rfl rfl (hPl.lt (by decide)) (Nat.le_trans (by decide) hd) (Nat.le_of_ble_eq_true rfl) (Nat.le_refl _) (Nat.le_refl _) dX12_sees_15 ?_
    intro z_8
    refine g_if_eq (pc := 18) (tgt := 35) dX12_sees_18 rfl (fun c_9 => ?_) (fun c_9 => ?_)
    · replace hF := am_yes c_9 hF
      refine g_iconst (pc := 35) (v := (-1 : Int32)) dX12_sees_35 (by decide) ?_
      cases hF
      exact g_iret (pc := 36) rfl (Nat.le_refl _) (Nat.le_refl _) dX12_sees_36 ⟨rfl, rfl, rfl, rfl⟩
    · replace hF := am_no c_9 hF
      refine g_aload_n (pc := 21) dX12_sees_21 rfl rfl ?_
      refine g_aload_n (pc := 22) dX12_sees_22 rfl rfl ?_
      refine g_getR (pc := 23) (k := 55) (r := 57) kf_X12_17.r rfl rfl (hPl.get (by decide) rfl) (hPl.lt (by decide)) dX12_sees_23 ?_
      refine g_iload_n (pc := 26) dX12_sees_26 rfl rfl ?_
      obtain ⟨c_10, hF⟩ := am_gd hF
      refine g_iald (pc := 27) (k := 57) rfl (hPl.lt (by decide)) (am_ix_use c_10) dX12_sees_27 ?_
      refine g_iload_n (pc := 28) dX12_sees_28 rfl rfl ?_
      obtain ⟨r_12, h_11, hF⟩ := am_b1_el hF
      refine g_cVi (pc := 29) (k := 55) (As := [.int (I_1 57 a1.toNatClampNeg), .int a2]) (st := []) ky_X12_seenFrom kl_X12_279 (s_X12_seenFrom_55 (d := 1) (hPl) (Nat.le_refl _) h_11) rfl rfl rfl (hPl.lt (by decide)) (Nat.le_trans (by decide) hd) (Nat.le_of_ble_eq_true rfl) (Nat.le_refl _) (Nat.le_refl _) dX12_sees_29 ?_
      refine g_goto (pc := 32) (tgt := 36) dX12_sees_32 rfl ?_
      cases hF
      exact g_iret (pc := 36) rfl (Nat.le_refl _) (Nat.le_refl _) dX12_sees_36 ⟨rfl, rfl, rfl, rfl⟩
