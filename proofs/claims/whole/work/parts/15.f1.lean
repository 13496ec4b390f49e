def F_X7_advance_47 (I : am_IT) : Option (am_IT) := am_b1 (if (I 47 5) ≤ ((I 47 6) + (1 : Int32)) then (some (I)) else (am_let (up2 I 47 6 ((I 47 6) + (1 : Int32))) (fun (I_5 : am_IT) => some (I_5)))) (fun (I_2 : am_IT) => if am_ix (I_2 47 6) 401 = true then (am_let (up2 I_2 47 7 (I_2 52 (I_2 47 6).toNatClampNeg)) (fun (I_7 : am_IT) => some I_7)) else none)
set_option maxRecDepth 100000 in
set_option maxHeartbeats 4000000 in
theorem s_X7_advance_47 {l : Launch} {d N : Nat} {P : am_PT} (hPl : am_Pl 94 N P) (hd : 1 ≤ d) {I : am_IT} {I2 : am_IT} (hF : F_X7_advance_47 I = some (I2)) : am_C l d 0 0 mX7_advance [.ref 47] N P I (am_qv N P I2) := by
  refine am_body (sc := am_sc0) (n := 0) (by decide +kernel) (by decide) rfl ?_
  change G am_sc0 l d 0 0 mX7_advance (am_qv N P I2) 0 [.ref 47] [] N P I 0 0
  unfold F_X7_advance_47 at hF
  refine g_aload_n (pc := 0) dX7_advance_0 rfl rfl ?_
  refine g_getI (pc := 1) (k := 47) kf_X7_35.r rfl rfl (hPl.lt (by decide)) dX7_advance_1 ?_
  refine g_iconst (pc := 4) (v := (1 : Int32)) dX7_advance_4 rfl ?_
  refine g_iadd (pc := 5) dX7_advance_5 ?_
  refine g_aload_n (pc := 6) dX7_advance_6 rfl rfl ?_
  refine g_getI (pc := 7) (k := 47) kf_X7_32.r rfl rfl (hPl.lt (by decide)) dX7_advance_7 ?_
  obtain ⟨I_2, hR_3, hF⟩ := am_b1_el hF
  have hJ_4 : G am_sc0 l d 0 0 mX7_advance (am_qv N P I2) 23 [.ref 47] [] N P I_2 0 0 := by
    refine g_aload_n (pc := 23) dX7_advance_23 rfl rfl ?_
    refine g_aload_n (pc := 24) dX7_advance_24 rfl rfl ?_
    refine g_getR (pc := 25) (k := 47) (r := 52) kf_X7_25.r rfl rfl (hPl.get (by decide) rfl) (hPl.lt (by decide)) dX7_advance_25 ?_
    refine g_aload_n (pc := 28) dX7_advance_28 rfl rfl ?_
    refine g_getI (pc := 29) (k := 47) kf_X7_35.r rfl rfl (hPl.lt (by decide)) dX7_advance_29 ?_
    obtain ⟨c_6, hF⟩ := am_gd hF
    refine g_iald (pc := 32) (k := 52) rfl (hPl.lt (by decide)) (am_ix_use c_6) dX7_advance_32 ?_
    obtain ⟨I_7, e_I_7, hF⟩ := am_let_el hF
    refine n_putI (pc := 33) (k := 47) e_I_7 kf_X7_38 rfl rfl (hPl.lt (by decide)) dX7_advance_33 ?_
    cases hF
    exact g_vret (pc := 36) rfl (Nat.le_refl _) (Nat.le_refl _) dX7_advance_36 ⟨rfl, rfl, rfl, rfl⟩
  clear hF
  have hF := hR_3
  clear hR_3
  refine g_icmp_ge (pc := 10) (tgt := 23) dX7_advance_10 rfl (fun c_1 => ?_) (fun c_1 => ?_)
  · replace hF := am_yes c_1 hF
    cases hF
    exact hJ_4
  · replace hF := am_no c_1 hF
    refine g_aload_n (pc := 13) dX7_advance_13 rfl rfl ?_
    refine g_dup (pc := 14) dX7_advance_14 ?_
    refine g_getI (pc := 15) (k := 47) kf_X7_35.r rfl rfl (hPl.lt (by decide)) dX7_advance_15 ?_
    refine g_iconst (pc := 18) (v := (1 : Int32)) dX7_advance_18 rfl ?_
    refine g_iadd (pc := 19) dX7_advance_19 ?_
    obtain ⟨I_5, e_I_5, hF⟩ := am_let_el hF
    refine n_putI (pc := 20) (k := 47) e_I_5 kf_X7_35 rfl rfl (hPl.lt (by decide)) dX7_advance_20 ?_
    cases hF
    exact hJ_4
def F_X7_refuse_47 (I : am_IT) (a1 : Int32) : Option (Int32 × am_IT) := am_let (up2 I 47 1 a1) (fun (I_1 : am_IT) => if am_ix (I_1 47 6) 401 = true then (am_let (up2 I_1 47 2 (I_1 53 (I_1 47 6).toNatClampNeg)) (fun (I_3 : am_IT) => some ((0 : Int32), I_3))) else none)
set_option maxRecDepth 100000 in
set_option maxHeartbeats 4000000 in
theorem s_X7_refuse_47 {l : Launch} {d N : Nat} {P : am_PT} (hPl : am_Pl 94 N P) (hd : 1 ≤ d) {I : am_IT} {a1 : Int32} {r : Int32} {I2 : am_IT} (hF : F_X7_refuse_47 I a1 = some (r, I2)) : am_C l d 0 0 mX7_refuse [.ref 47, .int a1] N P I (am_qz r N P I2) := by
  refine am_body (sc := am_sc0) (n := 0) (by decide +kernel) (by decide) rfl ?_
  change G am_sc0 l d 0 0 mX7_refuse (am_qz r N P I2) 0 [.ref 47, .int a1] [] N P I 0 0
  unfold F_X7_refuse_47 at hF
  refine g_aload_n (pc := 0) dX7_refuse_0 rfl rfl ?_
  refine g_iload_n (pc := 1) dX7_refuse_1 rfl rfl ?_
  obtain ⟨I_1, e_I_1, hF⟩ := am_let_el hF
  refine n_putI (pc := 2) (k := 47) e_I_1 kf_X7_18 rfl rfl (hPl.lt (by decide)) dX7_refuse_2 ?_
  refine g_aload_n (pc := 5) dX7_refuse_5 rfl rfl ?_
  refine g_aload_n (pc := 6) dX7_refuse_6 rfl rfl ?_
  refine g_getR (pc := 7) (k := 47) (r := 53) kf_X7_29.r rfl rfl (hPl.get (by decide) rfl) (hPl.lt (by decide)) dX7_refuse_7 ?_
  refine g_aload_n (pc := 10) dX7_refuse_10 rfl rfl ?_
  refine g_getI (pc := 11) (k := 47) kf_X7_35.r rfl rfl (hPl.lt (by decide)) dX7_refuse_11 ?_
  obtain ⟨c_2, hF⟩ := am_gd hF
  refine g_iald (pc := 14) (k := 53) rfl (hPl.lt (by decide)) (am_ix_use c_2) dX7_refuse_14 ?_
  obtain ⟨I_3, e_I_3, hF⟩ := am_let_el hF
  refine n_putI (pc := 15) (k := 47) e_I_3 kf_X7_22 rfl rfl (hPl.lt (by decide)) dX7_refuse_15 ?_
  refine g_iconst (pc := 18) (v := (0 : Int32)) dX7_refuse_18 rfl ?_
  cases hF
  exact g_zret (pc := 19) rfl (Or.inl rfl) (Nat.le_refl _) (Nat.le_refl _) dX7_refuse_19 ⟨(Or.inl rfl), rfl, rfl, rfl, rfl⟩
def F_X6_addLine_48 (I : am_IT) (a1 : Int32) : Option (am_IT) := if (16 : Int32) ≤ (I 48 0) then (some I) else (if am_ix (I 48 0) 16 = true then (am_let (up2 I 49 (I 48 0).toNatClampNeg a1) (fun (I_3 : am_IT) => if am_ix (I_3 48 0) 16 = true then (am_let (up2 I_3 50 (I_3 48 0).toNatClampNeg (I_3 48 1)) (fun (I_5 : am_IT) => am_let (up2 I_5 48 0 ((I_5 48 0) + (1 : Int32))) (fun (I_6 : am_IT) => some I_6))) else none)) else none)
set_option maxRecDepth 100000 in
set_option maxHeartbeats 4000000 in
theorem s_X6_addLine_48 {l : Launch} {d N : Nat} {P : am_PT} (hPl : am_Pl 94 N P) (hd : 1 ≤ d) {I : am_IT} {a1 : Int32} {I2 : am_IT} (hF : F_X6_addLine_48 I a1 = some (I2)) : am_C l d 0 0 mX6_addLine [.ref 48, .int a1] N P I (am_qv N P I2) := by
  refine am_body (sc := am_sc0) (n := 0) (by decide +kernel) (by decide) rfl ?_
  change G am_sc0 l d 0 0 mX6_addLine (am_qv N P I2) 0 [.ref 48, .int a1] [] N P I 0 0
  unfold F_X6_addLine_48 at hF
  refine g_aload_n (pc := 0) dX6_addLine_0 rfl rfl ?_
  refine g_getI (pc := 1) (k := 48) kf_X6_9.r rfl rfl (hPl.lt (by decide)) dX6_addLine_1 ?_
  refine g_bipush (pc := 4) (v := (16 : Int32)) dX6_addLine_4 rfl ?_
  refine g_icmp_ge (pc := 6) (tgt := 42) dX6_addLine_6 rfl (fun c_1 => ?_) (fun c_1 => ?_)
  · replace hF := am_yes c_1 hF
    cases hF
    exact g_vret (pc := 42) rfl (Nat.le_refl _) (Nat.le_refl _) dX6_addLine_42 ⟨rfl, rfl, rfl, rfl⟩
  · replace hF := am_no c_1 hF
    refine g_aload_n (pc := 9) dX6_addLine_9 rfl rfl ?_
    refine g_getR (pc := 10) (k := 48) (r := 49) kf_X6_18.r rfl rfl (hPl.get (by decide) rfl) (hPl.lt (by decide)) dX6_addLine_10 ?_
    refine g_aload_n (pc := 13) dX6_addLine_13 rfl rfl ?_
    refine g_getI (pc := 14) (k := 48) kf_X6_9.r rfl rfl (hPl.lt (by decide)) dX6_addLine_14 ?_
    refine g_iload_n (pc := 17) dX6_addLine_17 rfl rfl ?_
    obtain ⟨c_2, hF⟩ := am_gd hF
    obtain ⟨I_3, e_I_3, hF⟩ := am_let_el hF
    refine n_iast (pc := 18) (k := 49) e_I_3 rfl (hPl.lt (by decide)) (am_ix_use c_2) dX6_addLine_18 ?_
    refine g_aload_n (pc := 19) dX6_addLine_19 rfl rfl ?_
    refine g_getR (pc := 20) (k := 48) (r := 50) kf_X6_22.r rfl rfl (hPl.get (by decide) rfl) (hPl.lt (by decide)) dX6_addLine_20 ?_
    refine g_aload_n (pc := 23) dX6_addLine_23 rfl rfl ?_
    refine g_getI (pc := 24) (k := 48) kf_X6_9.r rfl rfl (hPl.lt (by decide)) dX6_addLine_24 ?_
    refine g_aload_n (pc := 27) dX6_addLine_27 rfl rfl ?_
    refine g_getI (pc := 28) (k := 48) kf_X6_15.r rfl rfl (hPl.lt (by decide)) dX6_addLine_28 ?_
    obtain ⟨c_4, hF⟩ := am_gd hF
    obtain ⟨I_5, e_I_5, hF⟩ := am_let_el hF
    refine n_iast (pc := 31) (k := 50) e_I_5 rfl (hPl.lt (by decide)) (am_ix_use c_4) dX6_addLine_31 ?_
    refine g_aload_n (pc := 32) dX6_addLine_32 rfl rfl ?_
    refine g_dup (pc := 33) dX6_addLine_33 ?_
    refine g_getI (pc := 34) (k := 48) kf_X6_9.r rfl rfl (hPl.lt (by decide)) dX6_addLine_34 ?_
    refine g_iconst (pc := 37) (v := (1 : Int32)) dX6_addLine_37 rfl ?_
    refine g_iadd (pc := 38) dX6_addLine_38 ?_
    obtain ⟨I_6, e_I_6, hF⟩ := am_let_el hF
    refine n_putI (pc := 39) (k := 48) e_I_6 kf_X6_9 rfl rfl (hPl.lt (by decide)) dX6_addLine_39 ?_
    cases hF
    exact g_vret (pc := 42) rfl (Nat.le_refl _) (Nat.le_refl _) dX6_addLine_42 ⟨rfl, rfl, rfl, rfl⟩
def F_X6_addStep_48 (I : am_IT) (a1 : Int32) (a2 : Int32) : Option (am_IT) := if a1 = (15 : Int32) then (some I) else (if (400 : Int32) ≤ (I 48 1) then (some I) else (if am_ix (I 48 1) 400 = true then (am_let (up2 I 51 (I 48 1).toNatClampNeg ((a2 <<< ((4 : Int32) &&& 31)) ||| a1)) (fun (I_4 : am_IT) => am_let (up2 I_4 48 1 ((I_4 48 1) + (1 : Int32))) (fun (I_5 : am_IT) => some I_5))) else none))
set_option maxRecDepth 100000 in
set_option maxHeartbeats 4000000 in
theorem s_X6_addStep_48 {l : Launch} {d N : Nat} {P : am_PT} (hPl : am_Pl 94 N P) (hd : 1 ≤ d) {I : am_IT} {a1 : Int32} {a2 : Int32} {I2 : am_IT} (hF : F_X6_addStep_48 I a1 a2 = some (I2)) : am_C l d 0 0 mX6_addStep [.ref 48, .int a1, .int a2] N P I (am_qv N P I2) := by
  refine am_body (sc := am_sc0) (n := 0) (by decide +kernel) (by decide) rfl ?_
  change G am_sc0 l d 0 0 mX6_addStep (am_qv N P I2) 0 [.ref 48, .int a1, .int a2] [] N P I 0 0
  unfold F_X6_addStep_48 at hF
  refine g_iload_n (pc := 0) dX6_addStep_0 rfl rfl ?_
  refine g_bipush (pc := 1) (v := (15 : Int32)) dX6_addStep_1 rfl ?_
  refine g_icmp_eq (pc := 3) (tgt := 42) dX6_addStep_3 rfl (fun c_1 => ?_) (fun c_1 => ?_)
  · replace hF := am_yes c_1 hF
    cases hF
    exact g_vret (pc := 42) rfl (Nat.le_refl _) (Nat.le_refl _) dX6_addStep_42 ⟨rfl, rfl, rfl, rfl⟩
  · replace hF := am_no c_1 hF
    refine g_aload_n (pc := 6) dX6_addStep_6 rfl rfl ?_
    refine g_getI (pc := 7) (k := 48) kf_X6_15.r rfl rfl (hPl.lt (by decide)) dX6_addStep_7 ?_
    refine g_aload_n (pc := 10) dX6_addStep_10 rfl rfl ?_
    refine g_getR (pc := 11) (k := 48) (r := 51) kf_X6_25.r rfl rfl (hPl.get (by decide) rfl) (hPl.lt (by decide)) dX6_addStep_11 ?_
    refine g_alen (pc := 14) (k := 51) (v := 400) rfl (hPl.lt (by decide)) rfl dX6_addStep_14 ?_
    refine g_icmp_ge (pc := 15) (tgt := 42) dX6_addStep_15 rfl (fun c_2 => ?_) (fun c_2 => ?_)
    · replace hF := am_yes c_2 hF
      cases hF
      exact g_vret (pc := 42) rfl (Nat.le_refl _) (Nat.le_refl _) dX6_addStep_42 ⟨rfl, rfl, rfl, rfl⟩
    · replace hF := am_no c_2 hF
      refine g_aload_n (pc := 18) dX6_addStep_18 rfl rfl ?_
      refine g_getR (pc := 19) (k := 48) (r := 51) kf_X6_25.r rfl rfl (hPl.get (by decide) rfl) (hPl.lt (by decide)) dX6_addStep_19 ?_
      refine g_aload_n (pc := 22) dX6_addStep_22 rfl rfl ?_
      refine g_getI (pc := 23) (k := 48) kf_X6_15.r rfl rfl (hPl.lt (by decide)) dX6_addStep_23 ?_
      refine g_iload_n (pc := 26) dX6_addStep_26 rfl rfl ?_
      refine g_iconst (pc := 27) (v := (4 : Int32)) dX6_addStep_27 rfl ?_
      refine g_ishl (pc := 28) dX6_addStep_28 ?_
      refine g_iload_n (pc := 29) dX6_addStep_29 rfl rfl ?_
      refine g_ior (pc := 30) dX6_addStep_30 ?_
      obtain ⟨c_3, hF⟩ := am_gd hF
      obtain ⟨I_4, e_I_4, hF⟩ := am_let_el hF
      refine n_iast (pc := 31) (k := 51) e_I_4 rfl (hPl.lt (by decide)) (am_ix_use c_3) dX6_addStep_31 ?_
      refine g_aload_n (pc := 32) dX6_addStep_32 rfl rfl ?_
      refine g_dup (pc := 33) dX6_addStep_33 ?_
      refine g_getI (pc := 34) (k := 48) kf_X6_15.r rfl rfl (hPl.lt (by decide)) dX6_addStep_34 ?_
      refine g_iconst (pc := 37) (v := (1 : Int32)) dX6_addStep_37 rfl ?_
      refine g_iadd (pc := 38) dX6_addStep_38 ?_
      obtain ⟨I_5, e_I_5, hF⟩ := am_let_el hF
      refine n_putI (pc := 39) (k := 48) e_I_5 kf_X6_15 rfl rfl (hPl.lt (by decide)) dX6_addStep_39 ?_
      cases hF
      exact g_vret (pc := 42) rfl (Nat.le_refl _) (Nat.le_refl _) dX6_addStep_42 ⟨rfl, rfl, rfl, rfl⟩
def F_X7_readUnit_47 (I : am_IT) : Option (Int32 × am_IT) := if (I 47 7) < (1000 : Int32) then (if (I 47 7) < (267 : Int32) then (am_b2 (F_X7_refuse_47 I (1 : Int32)) (fun (r_4 : Int32) (I_5 : am_IT) => some (r_4, I_5))) else (if (272 : Int32) < (I 47 7) then (am_b2 (F_X7_refuse_47 I (1 : Int32)) (fun (r_9 : Int32) (I_10 : am_IT) => some (r_9, I_10))) else (am_b1 (F_X6_addStep_48 I (1 : Int32) ((I 47 7) - (267 : Int32))) (fun (I_13 : am_IT) => am_b1 (F_X7_advance_47 I_13) (fun (I_15 : am_IT) => some ((1 : Int32), I_15)))))) else (am_b1 (F_X6_addStep_48 I (0 : Int32) ((I 47 7) - (1000 : Int32))) (fun (I_17 : am_IT) => am_b1 (F_X7_advance_47 I_17) (fun (I_19 : am_IT) => some ((1 : Int32), I_19))))
set_option maxRecDepth 100000 in
set_option maxHeartbeats 4000000 in
theorem s_X7_readUnit_47 {l : Launch} {d N : Nat} {P : am_PT} (hPl : am_Pl 94 N P) (hd : 2 ≤ d) {I : am_IT} {r : Int32} {I2 : am_IT} (hF : F_X7_readUnit_47 I = some (r, I2)) : am_C l d 0 0 mX7_readUnit [.ref 47] N P I (am_qz r N P I2) := by
  refine am_body (sc := am_sc0) (n := 0) (by decide +kernel) (by decide) rfl ?_
  change G am_sc0 l d 0 0 mX7_readUnit (am_qz r N P I2) 0 [.ref 47] [] N P I 0 0
  unfold F_X7_readUnit_47 at hF
  refine g_aload_n (pc := 0) dX7_readUnit_0 rfl rfl ?_
  refine g_getI (pc := 1) (k := 47) kf_X7_38.r rfl rfl (hPl.lt (by decide)) dX7_readUnit_1 ?_
  refine g_sipush (pc := 4) (v := (1000 : Int32)) dX7_readUnit_4 rfl ?_
  refine g_icmp_lt (pc := 7) (tgt := 29) dX7_readUnit_7 rfl (fun c_1 => ?_) (fun c_1 => ?_)
  · replace hF := am_yes c_1 hF
    refine g_aload_n (pc := 29) dX7_readUnit_29 rfl rfl ?_
    refine g_getI (pc := 30) (k := 47) kf_X7_38.r rfl rfl (hPl.lt (by decide)) dX7_readUnit_30 ?_
    refine g_sipush (pc := 33) (v := (267 : Int32)) dX7_readUnit_33 rfl ?_
    refine g_icmp_lt (pc := 36) (tgt := 68) dX7_readUnit_36 rfl (fun c_2 => ?_) (fun c_2 => ?_)
    · replace hF := am_yes c_2 hF
      refine g_aload_n (pc := 68) dX7_readUnit_68 rfl rfl ?_
      refine g_iconst (pc := 69) (v := (1 : Int32)) dX7_readUnit_69 rfl ?_
      obtain ⟨r_4, I_5, h_3, hF⟩ := am_b2_el hF
      refine g_cVz (pc := 70) (k := 47) (As := [.int (1 : Int32)]) (st := []) ky_X7_refuse kl_X7_58 (s_X7_refuse_47 (d := 1) (hPl) (Nat.le_refl _) h_3) rfl rfl rfl (hPl.lt (by decide)) (Nat.le_trans (by decide) hd) (Nat.le_of_ble_eq_true rfl) (Nat.le_refl _) (Nat.le_refl _) dX7_readUnit_70 ?_
      intro z_6
      cases hF
      exact g_zret (pc := 73) rfl z_6 (Nat.le_refl _) (Nat.le_refl _) dX7_readUnit_73 ⟨z_6, rfl, rfl, rfl, rfl⟩
    · replace hF := am_no c_2 hF
      refine g_aload_n (pc := 39) dX7_readUnit_39 rfl rfl ?_
      refine g_getI (pc := 40) (k := 47) kf_X7_38.r rfl rfl (hPl.lt (by decide)) dX7_readUnit_40 ?_
      refine g_sipush (pc := 43) (v := (272 : Int32)) dX7_readUnit_43 rfl ?_
      refine g_icmp_gt (pc := 46) (tgt := 68) dX7_readUnit_46 rfl (fun c_7 => ?_) (fun c_7 => ?_)
      · replace hF := am_yes c_7 hF
        refine g_aload_n (pc := 68) dX7_readUnit_68 rfl rfl ?_
        refine g_iconst (pc := 69) (v := (1 : Int32)) dX7_readUnit_69 rfl ?_
        obtain ⟨r_9, I_10, h_8, hF⟩ := am_b2_el hF
        refine g_cVz (pc := 70) (k := 47) (As := [.int (1 : Int32)]) (st := []) ky_X7_refuse kl_X7_58 (s_X7_refuse_47 (d := 1) (hPl) (Nat.le_refl _) h_8) rfl rfl rfl (hPl.lt (by decide)) (Nat.le_trans (by decide) hd) (Nat.le_of_ble_eq_true rfl) (Nat.le_refl _) (Nat.le_refl _) dX7_readUnit_70 ?_
        intro z_11
        cases hF
        exact g_zret (pc := 73) rfl z_11 (Nat.le_refl _) (Nat.le_refl _) dX7_readUnit_73 ⟨z_11, rfl, rfl, rfl, rfl⟩
      · replace hF := am_no c_7 hF
        refine g_aload_n (pc := 49) dX7_readUnit_49 rfl rfl ?_
        refine g_getR (pc := 50) (k := 47) (r := 48) kf_X7_12.r rfl rfl (hPl.get (by decide) rfl) (hPl.lt (by decide)) dX7_readUnit_50 ?_
        refine g_iconst (pc := 53) (v := (1 : Int32)) dX7_readUnit_53 rfl ?_
        refine g_aload_n (pc := 54) dX7_readUnit_54 rfl rfl ?_
        refine g_getI (pc := 55) (k := 47) kf_X7_38.r rfl rfl (hPl.lt (by decide)) dX7_readUnit_55 ?_
        refine g_sipush (pc := 58) (v := (267 : Int32)) dX7_readUnit_58 rfl ?_
        refine g_isub (pc := 61) dX7_readUnit_61 ?_
        obtain ⟨I_13, h_12, hF⟩ := am_b1_el hF
        refine g_cVv (pc := 62) (k := 48) (As := [.int (1 : Int32), .int ((I 47 7) - (267 : Int32))]) (st := []) ky_X6_addStep kl_X7_74 (s_X6_addStep_48 (d := 1) (hPl) (Nat.le_refl _) h_12) rfl rfl rfl (hPl.lt (by decide)) (Nat.le_trans (by decide) hd) (Nat.le_of_ble_eq_true rfl) (Nat.le_refl _) (Nat.le_refl _) dX7_readUnit_62 ?_
        refine g_goto (pc := 65) (tgt := 74) dX7_readUnit_65 rfl ?_
        refine g_aload_n (pc := 74) dX7_readUnit_74 rfl rfl ?_
        obtain ⟨I_15, h_14, hF⟩ := am_b1_el hF
        refine g_cVv (pc := 75) (k := 47) (As := []) (st := []) ky_X7_advance kl_X7_61 (s_X7_advance_47 (d := 1) (hPl) (Nat.le_refl _) h_14) rfl rfl rfl (hPl.lt (by decide)) (Nat.le_trans (by decide) hd) (Nat.le_of_ble_eq_true rfl) (Nat.le_refl _) (Nat.le_refl _) dX7_readUnit_75 ?_
        refine g_iconst (pc := 78) (v := (1 : Int32)) dX7_readUnit_78 rfl ?_
        cases hF
        exact g_zret (pc := 79) rfl (Or.inr rfl) (Nat.le_refl _) (Nat.le_refl _) dX7_readUnit_79 ⟨(Or.inr rfl), rfl, rfl, rfl, rfl⟩
  · replace hF := am_no c_1 hF
    refine g_aload_n (pc := 10) dX7_readUnit_10 rfl rfl ?_
    refine g_getR (pc := 11) (k := 47) (r := 48) kf_X7_12.r rfl rfl (hPl.get (by decide) rfl) (hPl.lt (by decide)) dX7_readUnit_11 ?_
    refine g_iconst (pc := 14) (v := (0 : Int32)) dX7_readUnit_14 rfl ?_
    refine g_aload_n (pc := 15) dX7_readUnit_15 rfl rfl ?_
    refine g_getI (pc := 16) (k := 47) kf_X7_38.r rfl rfl (hPl.lt (by decide)) dX7_readUnit_16 ?_
    refine g_sipush (pc := 19) (v := (1000 : Int32)) dX7_readUnit_19 rfl ?_
    refine g_isub (pc := 22) dX7_readUnit_22 ?_
    obtain ⟨I_17, h_16, hF⟩ := am_b1_el hF
    refine g_cVv (pc := 23) (k := 48) (As := [.int (0 : Int32), .int ((I 47 7) - (1000 : Int32))]) (st := []) ky_X6_addStep kl_X7_74 (s_X6_addStep_48 (d := 1) (hPl) (Nat.le_refl _) h_16) rfl rfl rfl (hPl.lt (by decide)) (Nat.le_trans (by decide) hd) (Nat.le_of_ble_eq_true rfl) (Nat.le_refl _) (Nat.le_refl _) dX7_readUnit_23 ?_
    refine g_goto (pc := 26) (tgt := 74) dX7_readUnit_26 rfl ?_
    refine g_aload_n (pc := 74) dX7_readUnit_74 rfl rfl ?_
    obtain ⟨I_19, h_18, hF⟩ := am_b1_el hF
    refine g_cVv (pc := 75) (k := 47) (As := []) (st := []) ky_X7_advance kl_X7_61 (s_X7_advance_47 (d := 1) (hPl) (Nat.le_refl _) h_18) rfl rfl rfl (hPl.lt (by decide)) (Nat.le_trans (by decide) hd) (Nat.le_of_ble_eq_true rfl) (Nat.le_refl _) (Nat.le_refl _) dX7_readUnit_75 ?_
    refine g_iconst (pc := 78) (v := (1 : Int32)) dX7_readUnit_78 rfl ?_
    cases hF
    exact g_zret (pc := 79) rfl (Or.inr rfl) (Nat.le_refl _) (Nat.le_refl _) dX7_readUnit_79 ⟨(Or.inr rfl), rfl, rfl, rfl, rfl⟩
def F_X7_isJoining (I : am_IT) (a1 : Int32) : Option (Int32) := if a1 = (43 : Int32) then (some (1 : Int32)) else (if a1 = (45 : Int32) then (some (1 : Int32)) else (if a1 = (42 : Int32) then (some (1 : Int32)) else (if a1 = (47 : Int32) then (some (1 : Int32)) else (some (0 : Int32)))))
set_option maxRecDepth 100000 in
set_option maxHeartbeats 4000000 in
theorem s_X7_isJoining {l : Launch} {d N : Nat} {P : am_PT} (hPl : am_Pl 94 N P) (hd : 1 ≤ d) {I : am_IT} {a1 : Int32} {r : Int32} (hF : F_X7_isJoining I a1 = some (r)) : am_C l d 0 0 mX7_isJoining [.int a1] N P I (am_qz r N P I) := by
  refine am_body (sc := am_sc0) (n := 0) (by decide +kernel) (by decide) rfl ?_
  change G am_sc0 l d 0 0 mX7_isJoining (am_qz r N P I) 0 [.int a1] [] N P I 0 0
  unfold F_X7_isJoining at hF
  refine g_iload_n (pc := 0) dX7_isJoining_0 rfl rfl ?_
  refine g_bipush (pc := 1) (v := (43 : Int32)) dX7_isJoining_1 rfl ?_
  refine g_icmp_eq (pc := 3) (tgt := 24) dX7_isJoining_3 rfl (fun c_1 => ?_) (fun c_1 => ?_)
  · replace hF := am_yes c_1 hF
    refine g_iconst (pc := 24) (v := (1 : Int32)) dX7_isJoining_24 rfl ?_
    refine g_goto (pc := 25) (tgt := 29) dX7_isJoining_25 rfl ?_
    cases hF
    exact g_zret (pc := 29) rfl (Or.inr rfl) (Nat.le_refl _) (Nat.le_refl _) dX7_isJoining_29 ⟨(Or.inr rfl), rfl, rfl, rfl, rfl⟩
  · replace hF := am_no c_1 hF
    refine g_iload_n (pc := 6) dX7_isJoining_6 rfl rfl ?_
    refine g_bipush (pc := 7) (v := (45 : Int32)) dX7_isJoining_7 rfl ?_
    refine g_icmp_eq (pc := 9) (tgt := 24) dX7_isJoining_9 rfl (fun c_2 => ?_) (fun c_2 => ?_)
    · replace hF := am_yes c_2 hF
      refine g_iconst (pc := 24) (v := (1 : Int32)) dX7_isJoining_24 rfl ?_
      refine g_goto (pc := 25) (tgt := 29) dX7_isJoining_25 rfl ?_
      cases hF
      exact g_zret (pc := 29) rfl (Or.inr rfl) (Nat.le_refl _) (Nat.le_refl _) dX7_isJoining_29 ⟨(Or.inr rfl), rfl, rfl, rfl, rfl⟩
    · replace hF := am_no c_2 hF
      refine g_iload_n (pc := 12) dX7_isJoining_12 rfl rfl ?_
      refine g_bipush (pc := 13) (v := (42 : Int32)) dX7_isJoining_13 rfl ?_
      refine g_icmp_eq (pc := 15) (tgt := 24) dX7_isJoining_15 rfl (fun c_3 => ?_) (fun c_3 => ?_)
      · replace hF := am_yes c_3 hF
        refine g_iconst (pc := 24) (v := (1 : Int32)) dX7_isJoining_24 rfl ?_
        refine g_goto (pc := 25) (tgt := 29) dX7_isJoining_25 rfl ?_
        cases hF
        exact g_zret (pc := 29) rfl (Or.inr rfl) (Nat.le_refl _) (Nat.le_refl _) dX7_isJoining_29 ⟨(Or.inr rfl), rfl, rfl, rfl, rfl⟩
      · replace hF := am_no c_3 hF
        refine g_iload_n (pc := 18) dX7_isJoining_18 rfl rfl ?_
        refine g_bipush (pc := 19) (v := (47 : Int32)) dX7_isJoining_19 rfl ?_
        refine g_icmp_ne (pc := 21) (tgt := 28) dX7_isJoining_21 rfl (fun c_4 => ?_) (fun c_4 => ?_)
        · replace hF := am_no c_4 hF
          refine g_iconst (pc := 28) (v := (0 : Int32)) dX7_isJoining_28 rfl ?_
          cases hF
          exact g_zret (pc := 29) rfl (Or.inl rfl) (Nat.le_refl _) (Nat.le_refl _) dX7_isJoining_29 ⟨(Or.inl rfl), rfl, rfl, rfl, rfl⟩
        · replace hF := am_yes c_4 hF
          refine g_iconst (pc := 24) (v := (1 : Int32)) dX7_isJoining_24 rfl ?_
          refine g_goto (pc := 25) (tgt := 29) dX7_isJoining_25 rfl ?_
          cases hF
          exact g_zret (pc := 29) rfl (Or.inr rfl) (Nat.le_refl _) (Nat.le_refl _) dX7_isJoining_29 ⟨(Or.inr rfl), rfl, rfl, rfl, rfl⟩
def F_X7_readPart_47 (I : am_IT) : Option (Int32 × am_IT) := if (1000 : Int32) ≤ (I 47 7) then (if (I 47 7) = (1000 : Int32) then (am_b2 (F_X7_refuse_47 I (2 : Int32)) (fun (r_8 : Int32) (I_9 : am_IT) => some (r_8, I_9))) else (am_b1 (F_X6_addStep_48 I (2 : Int32) ((I 47 7) - (1000 : Int32))) (fun (I_4 : am_IT) => am_b1 (F_X7_advance_47 I_4) (fun (I_6 : am_IT) => some ((1 : Int32), I_6))))) else (am_b2 (F_X7_refuse_47 I (1 : Int32)) (fun (r_12 : Int32) (I_13 : am_IT) => some (r_12, I_13)))
set_option maxRecDepth 100000 in
set_option maxHeartbeats 4000000 in
theorem s_X7_readPart_47 {l : Launch} {d N : Nat} {P : am_PT} (hPl : am_Pl 94 N P) (hd : 2 ≤ d) {I : am_IT} {r : Int32} {I2 : am_IT} (hF : F_X7_readPart_47 I = some (r, I2)) : am_C l d 0 0 mX7_readPart [.ref 47] N P I (am_qz r N P I2) := by
  refine am_body (sc := am_sc0) (n := 0) (by decide +kernel) (by decide) rfl ?_
  change G am_sc0 l d 0 0 mX7_readPart (am_qz r N P I2) 0 [.ref 47] [] N P I 0 0
  unfold F_X7_readPart_47 at hF
  refine g_aload_n (pc := 0) dX7_readPart_0 rfl rfl ?_
  refine g_getI (pc := 1) (k := 47) kf_X7_38.r rfl rfl (hPl.lt (by decide)) dX7_readPart_1 ?_
  refine g_sipush (pc := 4) (v := (1000 : Int32)) dX7_readPart_4 rfl ?_
  refine g_icmp_ge (pc := 7) (tgt := 16) dX7_readPart_7 rfl (fun c_1 => ?_) (fun c_1 => ?_)
  · replace hF := am_yes c_1 hF
    refine g_aload_n (pc := 16) dX7_readPart_16 rfl rfl ?_
    refine g_getI (pc := 17) (k := 47) kf_X7_38.r rfl rfl (hPl.lt (by decide)) dX7_readPart_17 ?_
    refine g_sipush (pc := 20) (v := (1000 : Int32)) dX7_readPart_20 rfl ?_
    refine g_icmp_ne (pc := 23) (tgt := 32) dX7_readPart_23 rfl (fun c_2 => ?_) (fun c_2 => ?_)
    · replace hF := am_no c_2 hF
      refine g_aload_n (pc := 32) dX7_readPart_32 rfl rfl ?_
      refine g_getR (pc := 33) (k := 47) (r := 48) kf_X7_12.r rfl rfl (hPl.get (by decide) rfl) (hPl.lt (by decide)) dX7_readPart_33 ?_
      refine g_iconst (pc := 36) (v := (2 : Int32)) dX7_readPart_36 rfl ?_
      refine g_aload_n (pc := 37) dX7_readPart_37 rfl rfl ?_
      refine g_getI (pc := 38) (k := 47) kf_X7_38.r rfl rfl (hPl.lt (by decide)) dX7_readPart_38 ?_
      refine g_sipush (pc := 41) (v := (1000 : Int32)) dX7_readPart_41 rfl ?_
      refine g_isub (pc := 44) dX7_readPart_44 ?_
      obtain ⟨I_4, h_3, hF⟩ := am_b1_el hF
      refine g_cVv (pc := 45) (k := 48) (As := [.int (2 : Int32), .int ((I 47 7) - (1000 : Int32))]) (st := []) ky_X6_addStep kl_X7_74 (s_X6_addStep_48 (d := 1) (hPl) (Nat.le_refl _) h_3) rfl rfl rfl (hPl.lt (by decide)) (Nat.le_trans (by decide) hd) (Nat.le_of_ble_eq_true rfl) (Nat.le_refl _) (Nat.le_refl _) dX7_readPart_45 ?_
      refine g_aload_n (pc := 48) dX7_readPart_48 rfl rfl ?_
      obtain ⟨I_6, h_5, hF⟩ := am_b1_el hF
      refine g_cVv (pc := 49) (k := 47) (As := []) (st := []) ky_X7_advance kl_X7_61 (s_X7_advance_47 (d := 1) (hPl) (Nat.le_refl _) h_5) rfl rfl rfl (hPl.lt (by decide)) (Nat.le_trans (by decide) hd) (Nat.le_of_ble_eq_true rfl) (Nat.le_refl _) (Nat.le_refl _) dX7_readPart_49 ?_
      refine g_iconst (pc := 52) (v := (1 : Int32)) dX7_readPart_52 rfl ?_
      cases hF
      exact g_zret (pc := 53) rfl (Or.inr rfl) (Nat.le_refl _) (Nat.le_refl _) dX7_readPart_53 ⟨(Or.inr rfl), rfl, rfl, rfl, rfl⟩
    · replace hF := am_yes c_2 hF
      refine g_aload_n (pc := 26) dX7_readPart_26 rfl rfl ?_
      refine g_iconst (pc := 27) (v := (2 : Int32)) dX7_readPart_27 rfl ?_
      obtain ⟨r_8, I_9, h_7, hF⟩ := am_b2_el hF
      refine g_cVz (pc := 28) (k := 47) (As := [.int (2 : Int32)]) (st := []) ky_X7_refuse kl_X7_58 (s_X7_refuse_47 (d := 1) (hPl) (Nat.le_refl _) h_7) rfl rfl rfl (hPl.lt (by decide)) (Nat.le_trans (by decide) hd) (Nat.le_of_ble_eq_true rfl) (Nat.le_refl _) (Nat.le_refl _) dX7_readPart_28 ?_
      intro z_10
      cases hF
      exact g_zret (pc := 31) rfl z_10 (Nat.le_refl _) (Nat.le_refl _) dX7_readPart_31 ⟨z_10, rfl, rfl, rfl, rfl⟩
  · replace hF := am_no c_1 hF
    refine g_aload_n (pc := 10) dX7_readPart_10 rfl rfl ?_
    refine g_iconst (pc := 11) (v := (1 : Int32)) dX7_readPart_11 rfl ?_
    obtain ⟨r_12, I_13, h_11, hF⟩ := am_b2_el hF
    refine g_cVz (pc := 12) (k := 47) (As := [.int (1 : Int32)]) (st := []) ky_X7_refuse kl_X7_58 (s_X7_refuse_47 (d := 1) (hPl) (Nat.le_refl _) h_11) rfl rfl rfl (hPl.lt (by decide)) (Nat.le_trans (by decide) hd) (Nat.le_of_ble_eq_true rfl) (Nat.le_refl _) (Nat.le_refl _) dX7_readPart_12 ?_
    intro z_14
    cases hF
    exact g_zret (pc := 15) rfl z_14 (Nat.le_refl _) (Nat.le_refl _) dX7_readPart_15 ⟨z_14, rfl, rfl, rfl, rfl⟩
def F_X7_readSum_47 (I : am_IT) : Option (Int32 × am_IT) := am_b2 (F_X7_readUnit_47 I) (fun (r_2 : Int32) (I_3 : am_IT) => if r_2 = 0 then (some ((0 : Int32), I_3)) else (am_lr (am_it am_fu (am_u3 (fun (l1_6 : Int32) (l2_7 : Int32) (I_8 : am_IT) => if (I_8 47 5) ≤ l2_7 then (some (.inr (.inl (l1_6, I_8)))) else (am_b1 (F_X7_isJoining I_8 (I_8 47 7)) (fun (r_18 : Int32) => if r_18 = 0 then (some (.inr (.inl (l1_6, I_8)))) else (am_let (I_8 47 7) (fun (l3_21 : Int32) => am_b2 (if l3_21 = (43 : Int32) then (am_b1 (F_X6_addStep_48 I_8 l1_6 (0 : Int32)) (fun (I_28 : am_IT) => if l3_21 = (43 : Int32) then (some ((4 : Int32), I_28)) else (some ((5 : Int32), I_28)))) else (if l3_21 = (45 : Int32) then (am_b1 (F_X6_addStep_48 I_8 l1_6 (0 : Int32)) (fun (I_32 : am_IT) => if l3_21 = (43 : Int32) then (some ((4 : Int32), I_32)) else (some ((5 : Int32), I_32)))) else (some (l1_6, I_8)))) (fun (l1_23 : Int32) (I_24 : am_IT) => am_b1 (F_X7_advance_47 I_24) (fun (I_35 : am_IT) => if l3_21 = (47 : Int32) then (am_b2 (F_X7_readPart_47 I_35) (fun (r_49 : Int32) (I_50 : am_IT) => if r_49 = 0 then (some (.inr (.inr ((0 : Int32), I_50)))) else (if l3_21 = (42 : Int32) then (am_b1 (F_X6_addStep_48 I_50 (6 : Int32) (0 : Int32)) (fun (I_56 : am_IT) => am_let (l2_7 + (1 : Int32)) (fun (l2_57 : Int32) => some (.inl (l1_23, l2_57, I_56))))) else (am_let (l2_7 + (1 : Int32)) (fun (l2_54 : Int32) => some (.inl (l1_23, l2_54, I_50))))))) else (am_b2 (F_X7_readUnit_47 I_35) (fun (r_38 : Int32) (I_39 : am_IT) => if r_38 = 0 then (some (.inr (.inr ((0 : Int32), I_39)))) else (if l3_21 = (42 : Int32) then (am_b1 (F_X6_addStep_48 I_39 (6 : Int32) (0 : Int32)) (fun (I_45 : am_IT) => am_let (l2_7 + (1 : Int32)) (fun (l2_46 : Int32) => some (.inl (l1_23, l2_46, I_45))))) else (am_let (l2_7 + (1 : Int32)) (fun (l2_43 : Int32) => some (.inl (l1_23, l2_43, I_39))))))))))))))) ((15 : Int32), (0 : Int32), I_3)) (am_u2 (fun (l1_9 : Int32) (I_10 : am_IT) => am_b1 (F_X6_addStep_48 I_10 l1_9 (0 : Int32)) (fun (I_60 : am_IT) => some ((1 : Int32), I_60))))))
set_option maxRecDepth 100000 in
set_option maxHeartbeats 4000000 in
theorem s_X7_readSum_47 {l : Launch} {d N : Nat} {P : am_PT} (hPl : am_Pl 94 N P) (hd : 3 ≤ d) {I : am_IT} {r : Int32} {I2 : am_IT} (hF : F_X7_readSum_47 I = some (r, I2)) : am_C l d 0 0 mX7_readSum [.ref 47] N P I (am_qz r N P I2) := by
  refine am_body (sc := am_sc0) (n := 3) (by decide +kernel) (by decide) rfl ?_
  change G am_sc0 l d 0 0 mX7_readSum (am_qz r N P I2) 0 [.ref 47, .null, .null, .null] [] N P I 0 0
  unfold F_X7_readSum_47 at hF
  refine g_aload_n (pc := 0) dX7_readSum_0 rfl rfl ?_
  obtain ⟨r_2, I_3, h_1, hF⟩ := am_b2_el hF
  refine g_cVz (pc := 1) (k := 47) (As := []) (st := []) ky_X7_readUnit kl_X7_94 (s_X7_readUnit_47 (d := 2) (hPl) (Nat.le_refl _) h_1) rfl rfl rfl (hPl.lt (by decide)) (Nat.le_trans (by decide) hd) (Nat.le_of_ble_eq_true rfl) (Nat.le_refl _) (Nat.le_refl _) dX7_readSum_1 ?_
  intro z_4
  refine g_if_ne (pc := 4) (tgt := 9) dX7_readSum_4 rfl (fun c_5 => ?_) (fun c_5 => ?_)
  · replace hF := am_no c_5 hF
    refine g_bipush (pc := 9) (v := (15 : Int32)) dX7_readSum_9 rfl ?_
    refine n_istore_n (pc := 11) (ls2 := [.ref 47, .int (15 : Int32), .null, .null]) rfl rfl dX7_readSum_11 rfl (Nat.le_of_ble_eq_true rfl) ?_
    refine g_iconst (pc := 12) (v := (0 : Int32)) dX7_readSum_12 rfl ?_
    refine n_istore_n (pc := 13) (ls2 := [.ref 47, .int (15 : Int32), .int (0 : Int32), .null]) rfl rfl dX7_readSum_13 rfl (Nat.le_of_ble_eq_true rfl) ?_
    obtain ⟨x_61, hL_14, hF⟩ := am_lr_el hF
    have hX_11 : ∀ (l1_9 : Int32) (I_10 : am_IT), x_61 = .inl (l1_9, I_10) → G am_sc0 l d 0 0 mX7_readSum (am_qz r N P I2) 121 [.ref 47, .int l1_9, .null, .null] [] N P I_10 0 0 := by
      intro l1_9 I_10 q
      subst q
      replace hF := am_u2_ap hF
      refine g_aload_n (pc := 121) dX7_readSum_121 rfl rfl ?_
      refine g_getR (pc := 122) (k := 47) (r := 48) kf_X7_12.r rfl rfl (hPl.get (by decide) rfl) (hPl.lt (by decide)) dX7_readSum_122 ?_
      refine g_iload_n (pc := 125) dX7_readSum_125 rfl rfl ?_
      refine g_iconst (pc := 126) (v := (0 : Int32)) dX7_readSum_126 rfl ?_
      obtain ⟨I_60, h_59, hF⟩ := am_b1_el hF
      refine g_cVv (pc := 127) (k := 48) (As := [.int l1_9, .int (0 : Int32)]) (st := []) ky_X6_addStep kl_X7_74 (s_X6_addStep_48 (d := 1) (hPl) (Nat.le_refl _) h_59) rfl rfl rfl (hPl.lt (by decide)) (Nat.le_trans (by decide) hd) (Nat.le_of_ble_eq_true rfl) (Nat.le_refl _) (Nat.le_refl _) dX7_readSum_127 ?_
      refine g_iconst (pc := 130) (v := (1 : Int32)) dX7_readSum_130 rfl ?_
      cases hF
      exact g_zret (pc := 131) rfl (Or.inr rfl) (Nat.le_refl _) (Nat.le_refl _) dX7_readSum_131 ⟨(Or.inr rfl), rfl, rfl, rfl, rfl⟩
    have hZ_15 : ∀ y, x_61 = .inr y → y = _ := fun y q => by subst q; exact hF
    clear hF
    have hC := am_loop (C := fun x => G am_sc0 l d 0 0 mX7_readSum (am_qz r N P I2) 14 [.ref 47, .int x.1, .int x.2.1, .null] [] N P x.2.2 0 0) (by
      rintro ⟨l1_6, l2_7, I_8⟩ rr hF ih_12 hE_13
      replace hF := am_u3_ap hF
      change G am_sc0 l d 0 0 mX7_readSum (am_qz r N P I2) 14 [.ref 47, .int l1_6, .int l2_7, .null] [] N P I_8 0 0
      refine g_iload_n (pc := 14) dX7_readSum_14 rfl rfl ?_
      refine g_aload_n (pc := 15) dX7_readSum_15 rfl rfl ?_
      refine g_getI (pc := 16) (k := 47) kf_X7_32.r rfl rfl (hPl.lt (by decide)) dX7_readSum_16 ?_
      refine g_icmp_ge (pc := 19) (tgt := 121) dX7_readSum_19 rfl (fun c_16 => ?_) (fun c_16 => ?_)
      · replace hF := am_yes c_16 hF
        cases hF
        exact g_weak (hX_11 _ _ (hE_13 _ rfl).symm) ⟨Or.inr rfl, Or.inr rfl, Or.inl rfl, Or.inl rfl, trivial⟩
      · replace hF := am_no c_16 hF
        refine g_aload_n (pc := 22) dX7_readSum_22 rfl rfl ?_
        refine g_getI (pc := 23) (k := 47) kf_X7_38.r rfl rfl (hPl.lt (by decide)) dX7_readSum_23 ?_
        obtain ⟨r_18, h_17, hF⟩ := am_b1_el hF
        refine g_cSz (pc := 26) (As := [.int (I_8 47 7)]) (st := []) ky_X7_isJoining kl_X7_97 (s_X7_isJoining (d := 1) (hPl) (Nat.le_refl _) h_17) rfl rfl (Nat.le_trans (by decide) hd) (Nat.le_of_ble_eq_true rfl) (Nat.le_refl _) (Nat.le_refl _) dX7_readSum_26 ?_
        intro z_19
        refine g_if_eq (pc := 29) (tgt := 121) dX7_readSum_29 rfl (fun c_20 => ?_) (fun c_20 => ?_)
        · replace hF := am_yes c_20 hF
          cases hF
          exact g_weak (hX_11 _ _ (hE_13 _ rfl).symm) ⟨Or.inr rfl, Or.inr rfl, Or.inl rfl, Or.inl rfl, trivial⟩
        · replace hF := am_no c_20 hF
          refine g_aload_n (pc := 32) dX7_readSum_32 rfl rfl ?_
          refine g_getI (pc := 33) (k := 47) kf_X7_38.r rfl rfl (hPl.lt (by decide)) dX7_readSum_33 ?_
          obtain ⟨l3_21, e_l3_21, hF⟩ := am_let_el hF
          refine n_istore_n (pc := 36) (ls2 := [.ref 47, .int l1_6, .int l2_7, .int l3_21]) e_l3_21 rfl dX7_readSum_36 rfl (Nat.le_of_ble_eq_true rfl) ?_
          refine g_iload_n (pc := 37) dX7_readSum_37 rfl rfl ?_
          refine g_bipush (pc := 38) (v := (43 : Int32)) dX7_readSum_38 rfl ?_
          obtain ⟨l1_23, I_24, hR_25, hF⟩ := am_b2_el hF
          have hJ_26 : G am_sc0 l d 0 0 mX7_readSum (am_qz r N P I2) 70 [.ref 47, .int l1_23, .int l2_7, .int l3_21] [] N P I_24 0 0 := by
            refine g_aload_n (pc := 70) dX7_readSum_70 rfl rfl ?_
            obtain ⟨I_35, h_34, hF⟩ := am_b1_el hF
            refine g_cVv (pc := 71) (k := 47) (As := []) (st := []) ky_X7_advance kl_X7_61 (s_X7_advance_47 (d := 1) (hPl) (Nat.le_refl _) h_34) rfl rfl rfl (hPl.lt (by decide)) (Nat.le_trans (by decide) hd) (Nat.le_of_ble_eq_true rfl) (Nat.le_refl _) (Nat.le_refl _) dX7_readSum_71 ?_
            refine g_iload_n (pc := 74) dX7_readSum_74 rfl rfl ?_
            refine g_bipush (pc := 75) (v := (47 : Int32)) dX7_readSum_75 rfl ?_
            refine g_icmp_ne (pc := 77) (tgt := 90) dX7_readSum_77 rfl (fun c_36 => ?_) (fun c_36 => ?_)
            · replace hF := am_no c_36 hF
              refine g_aload_n (pc := 90) dX7_readSum_90 rfl rfl ?_
              obtain ⟨r_38, I_39, h_37, hF⟩ := am_b2_el hF
              refine g_cVz (pc := 91) (k := 47) (As := []) (st := []) ky_X7_readUnit kl_X7_94 (s_X7_readUnit_47 (d := 2) (hPl) (Nat.le_refl _) h_37) rfl rfl rfl (hPl.lt (by decide)) (Nat.le_trans (by decide) hd) (Nat.le_of_ble_eq_true rfl) (Nat.le_refl _) (Nat.le_refl _) dX7_readSum_91 ?_
              intro z_40
              refine g_if_ne (pc := 94) (tgt := 99) dX7_readSum_94 rfl (fun c_41 => ?_) (fun c_41 => ?_)
              · replace hF := am_no c_41 hF
                refine g_iload_n (pc := 99) dX7_readSum_99 rfl rfl ?_
                refine g_bipush (pc := 100) (v := (42 : Int32)) dX7_readSum_100 rfl ?_
                refine g_icmp_ne (pc := 102) (tgt := 115) dX7_readSum_102 rfl (fun c_42 => ?_) (fun c_42 => ?_)
                · replace hF := am_no c_42 hF
                  obtain ⟨l2_43, e_l2_43, hF⟩ := am_let_el hF
                  refine n_iinc (pc := 115) (ls2 := [.ref 47, .int l1_23, .int l2_43, .int l3_21]) e_l2_43 rfl rfl rfl dX7_readSum_115 (Nat.le_of_ble_eq_true rfl) ?_
                  refine g_goto (pc := 118) (tgt := 14) dX7_readSum_118 rfl ?_
                  cases hF
                  exact g_weak (ih_12 (l1_23, l2_43, I_39) rfl) ⟨Or.inr rfl, Or.inr rfl, Or.inr rfl, Or.inl rfl, trivial⟩
                · replace hF := am_yes c_42 hF
                  refine g_aload_n (pc := 105) dX7_readSum_105 rfl rfl ?_
                  refine g_getR (pc := 106) (k := 47) (r := 48) kf_X7_12.r rfl rfl (hPl.get (by decide) rfl) (hPl.lt (by decide)) dX7_readSum_106 ?_
                  refine g_bipush (pc := 109) (v := (6 : Int32)) dX7_readSum_109 rfl ?_
                  refine g_iconst (pc := 111) (v := (0 : Int32)) dX7_readSum_111 rfl ?_
                  obtain ⟨I_45, h_44, hF⟩ := am_b1_el hF
                  refine g_cVv (pc := 112) (k := 48) (As := [.int (6 : Int32), .int (0 : Int32)]) (st := []) ky_X6_addStep kl_X7_74 (s_X6_addStep_48 (d := 1) (hPl) (Nat.le_refl _) h_44) rfl rfl rfl (hPl.lt (by decide)) (Nat.le_trans (by decide) hd) (Nat.le_of_ble_eq_true rfl) (Nat.le_refl _) (Nat.le_refl _) dX7_readSum_112 ?_
                  obtain ⟨l2_46, e_l2_46, hF⟩ := am_let_el hF
                  refine n_iinc (pc := 115) (ls2 := [.ref 47, .int l1_23, .int l2_46, .int l3_21]) e_l2_46 rfl rfl rfl dX7_readSum_115 (Nat.le_of_ble_eq_true rfl) ?_
                  refine g_goto (pc := 118) (tgt := 14) dX7_readSum_118 rfl ?_
                  cases hF
                  exact g_weak (ih_12 (l1_23, l2_46, I_45) rfl) ⟨Or.inr rfl, Or.inr rfl, Or.inr rfl, Or.inl rfl, trivial⟩
              · replace hF := am_yes c_41 hF
                refine g_iconst (pc := 97) (v := (0 : Int32)) dX7_readSum_97 rfl ?_
                cases hF
                have q_47 := hZ_15 _ (hE_13 _ rfl).symm
                cases q_47
                exact g_zret (pc := 98) rfl (Or.inl rfl) (Nat.le_refl _) (Nat.le_refl _) dX7_readSum_98 ⟨(Or.inl rfl), rfl, rfl, rfl, rfl⟩
            · replace hF := am_yes c_36 hF
              refine g_aload_n (pc := 80) dX7_readSum_80 rfl rfl ?_
              obtain ⟨r_49, I_50, h_48, hF⟩ := am_b2_el hF
              refine g_cVz (pc := 81) (k := 47) (As := []) (st := []) ky_X7_readPart kl_X7_100 (s_X7_readPart_47 (d := 2) (hPl) (Nat.le_refl _) h_48) rfl rfl rfl (hPl.lt (by decide)) (Nat.le_trans (by decide) hd) (Nat.le_of_ble_eq_true rfl) (Nat.le_refl _) (Nat.le_refl _) dX7_readSum_81 ?_
              intro z_51
              refine g_if_ne (pc := 84) (tgt := 99) dX7_readSum_84 rfl (fun c_52 => ?_) (fun c_52 => ?_)
              · replace hF := am_no c_52 hF
                refine g_iload_n (pc := 99) dX7_readSum_99 rfl rfl ?_
                refine g_bipush (pc := 100) (v := (42 : Int32)) dX7_readSum_100 rfl ?_
                refine g_icmp_ne (pc := 102) (tgt := 115) dX7_readSum_102 rfl (fun c_53 => ?_) (fun c_53 => ?_)
                · replace hF := am_no c_53 hF
                  obtain ⟨l2_54, e_l2_54, hF⟩ := am_let_el hF
                  refine n_iinc (pc := 115) (ls2 := [.ref 47, .int l1_23, .int l2_54, .int l3_21]) e_l2_54 rfl rfl rfl dX7_readSum_115 (Nat.le_of_ble_eq_true rfl) ?_
                  refine g_goto (pc := 118) (tgt := 14) dX7_readSum_118 rfl ?_
                  cases hF
                  exact g_weak (ih_12 (l1_23, l2_54, I_50) rfl) ⟨Or.inr rfl, Or.inr rfl, Or.inr rfl, Or.inl rfl, trivial⟩
                · replace hF := am_yes c_53 hF
                  refine g_aload_n (pc := 105) dX7_readSum_105 rfl rfl ?_
                  refine g_getR (pc := 106) (k := 47) (r := 48) kf_X7_12.r rfl rfl (hPl.get (by decide) rfl) (hPl.lt (by decide)) dX7_readSum_106 ?_
                  refine g_bipush (pc := 109) (v := (6 : Int32)) dX7_readSum_109 rfl ?_
                  refine g_iconst (pc := 111) (v := (0 : Int32)) dX7_readSum_111 rfl ?_
                  obtain ⟨I_56, h_55, hF⟩ := am_b1_el hF
                  refine g_cVv (pc := 112) (k := 48) (As := [.int (6 : Int32), .int (0 : Int32)]) (st := []) ky_X6_addStep kl_X7_74 (s_X6_addStep_48 (d := 1) (hPl) (Nat.le_refl _) h_55) rfl rfl rfl (hPl.lt (by decide)) (Nat.le_trans (by decide) hd) (Nat.le_of_ble_eq_true rfl) (Nat.le_refl _) (Nat.le_refl _) dX7_readSum_112 ?_
                  obtain ⟨l2_57, e_l2_57, hF⟩ := am_let_el hF
                  refine n_iinc (pc := 115) (ls2 := [.ref 47, .int l1_23, .int l2_57, .int l3_21]) e_l2_57 rfl rfl rfl dX7_readSum_115 (Nat.le_of_ble_eq_true rfl) ?_
                  refine g_goto (pc := 118) (tgt := 14) dX7_readSum_118 rfl ?_
                  cases hF
                  exact g_weak (ih_12 (l1_23, l2_57, I_56) rfl) ⟨Or.inr rfl, Or.inr rfl, Or.inr rfl, Or.inl rfl, trivial⟩
              · replace hF := am_yes c_52 hF
                refine g_goto (pc := 87) (tgt := 97) dX7_readSum_87 rfl ?_
                refine g_iconst (pc := 97) (v := (0 : Int32)) dX7_readSum_97 rfl ?_
                cases hF
                have q_58 := hZ_15 _ (hE_13 _ rfl).symm
                cases q_58
                exact g_zret (pc := 98) rfl (Or.inl rfl) (Nat.le_refl _) (Nat.le_refl _) dX7_readSum_98 ⟨(Or.inl rfl), rfl, rfl, rfl, rfl⟩
          clear hF
          have hF := hR_25
          clear hR_25
          refine g_icmp_eq (pc := 40) (tgt := 49) dX7_readSum_40 rfl (fun c_22 => ?_) (fun c_22 => ?_)
          · replace hF := am_yes c_22 hF
            refine g_aload_n (pc := 49) dX7_readSum_49 rfl rfl ?_
            refine g_getR (pc := 50) (k := 47) (r := 48) kf_X7_12.r rfl rfl (hPl.get (by decide) rfl) (hPl.lt (by decide)) dX7_readSum_50 ?_
            refine g_iload_n (pc := 53) dX7_readSum_53 rfl rfl ?_
            refine g_iconst (pc := 54) (v := (0 : Int32)) dX7_readSum_54 rfl ?_
            obtain ⟨I_28, h_27, hF⟩ := am_b1_el hF
            refine g_cVv (pc := 55) (k := 48) (As := [.int l1_6, .int (0 : Int32)]) (st := []) ky_X6_addStep kl_X7_74 (s_X6_addStep_48 (d := 1) (hPl) (Nat.le_refl _) h_27) rfl rfl rfl (hPl.lt (by decide)) (Nat.le_trans (by decide) hd) (Nat.le_of_ble_eq_true rfl) (Nat.le_refl _) (Nat.le_refl _) dX7_readSum_55 ?_
            refine g_iload_n (pc := 58) dX7_readSum_58 rfl rfl ?_
            refine g_bipush (pc := 59) (v := (43 : Int32)) dX7_readSum_59 rfl ?_
            refine g_icmp_ne (pc := 61) (tgt := 68) dX7_readSum_61 rfl (fun c_29 => ?_) (fun c_29 => ?_)
            · replace hF := am_no c_29 hF
              refine g_iconst (pc := 68) (v := (5 : Int32)) dX7_readSum_68 rfl ?_
              refine n_istore_n (pc := 69) (ls2 := [.ref 47, .int (5 : Int32), .int l2_7, .int l3_21]) rfl rfl dX7_readSum_69 rfl (Nat.le_of_ble_eq_true rfl) ?_
              cases hF
              exact hJ_26
            · replace hF := am_yes c_29 hF
              refine g_iconst (pc := 64) (v := (4 : Int32)) dX7_readSum_64 rfl ?_
              refine g_goto (pc := 65) (tgt := 69) dX7_readSum_65 rfl ?_
              refine n_istore_n (pc := 69) (ls2 := [.ref 47, .int (4 : Int32), .int l2_7, .int l3_21]) rfl rfl dX7_readSum_69 rfl (Nat.le_of_ble_eq_true rfl) ?_
              cases hF
              exact hJ_26
          · replace hF := am_no c_22 hF
            refine g_iload_n (pc := 43) dX7_readSum_43 rfl rfl ?_
            refine g_bipush (pc := 44) (v := (45 : Int32)) dX7_readSum_44 rfl ?_
            refine g_icmp_ne (pc := 46) (tgt := 70) dX7_readSum_46 rfl (fun c_30 => ?_) (fun c_30 => ?_)
            · replace hF := am_no c_30 hF
              cases hF
              exact hJ_26
            · replace hF := am_yes c_30 hF
              refine g_aload_n (pc := 49) dX7_readSum_49 rfl rfl ?_
              refine g_getR (pc := 50) (k := 47) (r := 48) kf_X7_12.r rfl rfl (hPl.get (by decide) rfl) (hPl.lt (by decide)) dX7_readSum_50 ?_
              refine g_iload_n (pc := 53) dX7_readSum_53 rfl rfl ?_
              refine g_iconst (pc := 54) (v := (0 : Int32)) dX7_readSum_54 rfl ?_
              obtain ⟨I_32, h_31, hF⟩ := am_b1_el hF
              refine g_cVv (pc := 55) (k := 48) (As := [.int l1_6, .int (0 : Int32)]) (st := []) ky_X6_addStep kl_X7_74 (s_X6_addStep_48 (d := 1) (hPl) (Nat.le_refl _) h_31) rfl rfl rfl (hPl.lt (by decide)) (Nat.le_trans (by decide) hd) (Nat.le_of_ble_eq_true rfl) (Nat.le_refl _) (Nat.le_refl _) dX7_readSum_55 ?_
              refine g_iload_n (pc := 58) dX7_readSum_58 rfl rfl ?_
              refine g_bipush (pc := 59) (v := (43 : Int32)) dX7_readSum_59 rfl ?_
              refine g_icmp_ne (pc := 61) (tgt := 68) dX7_readSum_61 rfl (fun c_33 => ?_) (fun c_33 => ?_)
              · replace hF := am_no c_33 hF
                refine g_iconst (pc := 68) (v := (5 : Int32)) dX7_readSum_68 rfl ?_
                refine n_istore_n (pc := 69) (ls2 := [.ref 47, .int (5 : Int32), .int l2_7, .int l3_21]) rfl rfl dX7_readSum_69 rfl (Nat.le_of_ble_eq_true rfl) ?_
                cases hF
                exact hJ_26
              · replace hF := am_yes c_33 hF
                refine g_iconst (pc := 64) (v := (4 : Int32)) dX7_readSum_64 rfl ?_
                refine g_goto (pc := 65) (tgt := 69) dX7_readSum_65 rfl ?_
                refine n_istore_n (pc := 69) (ls2 := [.ref 47, .int (4 : Int32), .int l2_7, .int l3_21]) rfl rfl dX7_readSum_69 rfl (Nat.le_of_ble_eq_true rfl) ?_
                cases hF
                exact hJ_26
      ) _ _ hL_14
    exact hC
  · replace hF := am_yes c_5 hF
    refine g_iconst (pc := 7) (v := (0 : Int32)) dX7_readSum_7 rfl ?_
    cases hF
    exact g_zret (pc := 8) rfl (Or.inl rfl) (Nat.le_refl _) (Nat.le_refl _) dX7_readSum_8 ⟨(Or.inl rfl), rfl, rfl, rfl, rfl⟩
def F_X7_readComparison_47 (I : am_IT) : Option (Int32 × am_IT) := am_b2 (F_X7_readSum_47 I) (fun (r_2 : Int32) (I_3 : am_IT) => if r_2 = 0 then (some ((0 : Int32), I_3)) else (am_let (I_3 47 7) (fun (l1_6 : Int32) => if l1_6 = (60 : Int32) then (am_b1 (F_X7_advance_47 I_3) (fun (I_9 : am_IT) => am_b2 (F_X7_readSum_47 I_9) (fun (r_11 : Int32) (I_12 : am_IT) => if r_11 = 0 then (some ((0 : Int32), I_12)) else (am_b1 (if l1_6 = (60 : Int32) then (some ((7 : Int32))) else (if l1_6 = (61 : Int32) then (some ((8 : Int32))) else (some ((9 : Int32))))) (fun (v_16 : Int32) => am_b1 (F_X6_addStep_48 I_12 v_16 (0 : Int32)) (fun (I_21 : am_IT) => some ((1 : Int32), I_21))))))) else (if l1_6 = (61 : Int32) then (am_b1 (F_X7_advance_47 I_3) (fun (I_24 : am_IT) => am_b2 (F_X7_readSum_47 I_24) (fun (r_26 : Int32) (I_27 : am_IT) => if r_26 = 0 then (some ((0 : Int32), I_27)) else (am_b1 (if l1_6 = (60 : Int32) then (some ((7 : Int32))) else (if l1_6 = (61 : Int32) then (some ((8 : Int32))) else (some ((9 : Int32))))) (fun (v_31 : Int32) => am_b1 (F_X6_addStep_48 I_27 v_31 (0 : Int32)) (fun (I_36 : am_IT) => some ((1 : Int32), I_36))))))) else (if l1_6 = (62 : Int32) then (am_b1 (F_X7_advance_47 I_3) (fun (I_39 : am_IT) => am_b2 (F_X7_readSum_47 I_39) (fun (r_41 : Int32) (I_42 : am_IT) => if r_41 = 0 then (some ((0 : Int32), I_42)) else (am_b1 (if l1_6 = (60 : Int32) then (some ((7 : Int32))) else (if l1_6 = (61 : Int32) then (some ((8 : Int32))) else (some ((9 : Int32))))) (fun (v_46 : Int32) => am_b1 (F_X6_addStep_48 I_42 v_46 (0 : Int32)) (fun (I_51 : am_IT) => some ((1 : Int32), I_51))))))) else (am_b2 (F_X7_refuse_47 I_3 (1 : Int32)) (fun (r_53 : Int32) (I_54 : am_IT) => some (r_53, I_54))))))))
set_option maxRecDepth 100000 in
set_option maxHeartbeats 4000000 in
theorem s_X7_readComparison_47 {l : Launch} {d N : Nat} {P : am_PT} (hPl : am_Pl 94 N P) (hd : 4 ≤ d) {I : am_IT} {r : Int32} {I2 : am_IT} (hF : F_X7_readComparison_47 I = some (r, I2)) : am_C l d 0 0 mX7_readComparison [.ref 47] N P I (am_qz r N P I2) := by
  refine am_body (sc := am_sc0) (n := 1) (by decide +kernel) (by decide) rfl ?_
  change G am_sc0 l d 0 0 mX7_readComparison (am_qz r N P I2) 0 [.ref 47, .null] [] N P I 0 0
  unfold F_X7_readComparison_47 at hF
  refine g_aload_n (pc := 0) dX7_readComparison_0 rfl rfl ?_
  obtain ⟨r_2, I_3, h_1, hF⟩ := am_b2_el hF
  refine g_cVz (pc := 1) (k := 47) (As := []) (st := []) ky_X7_readSum kl_X7_91 (s_X7_readSum_47 (d := 3) (hPl) (Nat.le_refl _) h_1) rfl rfl rfl (hPl.lt (by decide)) (Nat.le_trans (by decide) hd) (Nat.le_of_ble_eq_true rfl) (Nat.le_refl _) (Nat.le_refl _) dX7_readComparison_1 ?_
  intro z_4
  refine g_if_ne (pc := 4) (tgt := 9) dX7_readComparison_4 rfl (fun c_5 => ?_) (fun c_5 => ?_)
  · replace hF := am_no c_5 hF
    refine g_aload_n (pc := 9) dX7_readComparison_9 rfl rfl ?_
    refine g_getI (pc := 10) (k := 47) kf_X7_38.r rfl rfl (hPl.lt (by decide)) dX7_readComparison_10 ?_
    obtain ⟨l1_6, e_l1_6, hF⟩ := am_let_el hF
    refine n_istore_n (pc := 13) (ls2 := [.ref 47, .int l1_6]) e_l1_6 rfl dX7_readComparison_13 rfl (Nat.le_of_ble_eq_true rfl) ?_
    refine g_iload_n (pc := 14) dX7_readComparison_14 rfl rfl ?_
    refine g_bipush (pc := 15) (v := (60 : Int32)) dX7_readComparison_15 rfl ?_
    refine g_icmp_eq (pc := 17) (tgt := 38) dX7_readComparison_17 rfl (fun c_7 => ?_) (fun c_7 => ?_)
    · replace hF := am_yes c_7 hF
      refine g_aload_n (pc := 38) dX7_readComparison_38 rfl rfl ?_
      obtain ⟨I_9, h_8, hF⟩ := am_b1_el hF
      refine g_cVv (pc := 39) (k := 47) (As := []) (st := []) ky_X7_advance kl_X7_61 (s_X7_advance_47 (d := 1) (hPl) (Nat.le_refl _) h_8) rfl rfl rfl (hPl.lt (by decide)) (Nat.le_trans (by decide) hd) (Nat.le_of_ble_eq_true rfl) (Nat.le_refl _) (Nat.le_refl _) dX7_readComparison_39 ?_
      refine g_aload_n (pc := 42) dX7_readComparison_42 rfl rfl ?_
      obtain ⟨r_11, I_12, h_10, hF⟩ := am_b2_el hF
      refine g_cVz (pc := 43) (k := 47) (As := []) (st := []) ky_X7_readSum kl_X7_91 (s_X7_readSum_47 (d := 3) (hPl) (Nat.le_refl _) h_10) rfl rfl rfl (hPl.lt (by decide)) (Nat.le_trans (by decide) hd) (Nat.le_of_ble_eq_true rfl) (Nat.le_refl _) (Nat.le_refl _) dX7_readComparison_43 ?_
      intro z_13
      refine g_if_ne (pc := 46) (tgt := 51) dX7_readComparison_46 rfl (fun c_14 => ?_) (fun c_14 => ?_)
      · replace hF := am_no c_14 hF
        refine g_aload_n (pc := 51) dX7_readComparison_51 rfl rfl ?_
        refine g_getR (pc := 52) (k := 47) (r := 48) kf_X7_12.r rfl rfl (hPl.get (by decide) rfl) (hPl.lt (by decide)) dX7_readComparison_52 ?_
        refine g_iload_n (pc := 55) dX7_readComparison_55 rfl rfl ?_
        refine g_bipush (pc := 56) (v := (60 : Int32)) dX7_readComparison_56 rfl ?_
        obtain ⟨v_16, hR_17, hF⟩ := am_b1_el hF
        have hJ_18 : G am_sc0 l d 0 0 mX7_readComparison (am_qz r N P I2) 79 [.ref 47, .int l1_6] [.int v_16, .ref 48] N P I_12 0 0 := by
          refine g_iconst (pc := 79) (v := (0 : Int32)) dX7_readComparison_79 rfl ?_
          obtain ⟨I_21, h_20, hF⟩ := am_b1_el hF
          refine g_cVv (pc := 80) (k := 48) (As := [.int v_16, .int (0 : Int32)]) (st := []) ky_X6_addStep kl_X7_74 (s_X6_addStep_48 (d := 1) (hPl) (Nat.le_refl _) h_20) rfl rfl rfl (hPl.lt (by decide)) (Nat.le_trans (by decide) hd) (Nat.le_of_ble_eq_true rfl) (Nat.le_refl _) (Nat.le_refl _) dX7_readComparison_80 ?_
          refine g_iconst (pc := 83) (v := (1 : Int32)) dX7_readComparison_83 rfl ?_
          cases hF
          exact g_zret (pc := 84) rfl (Or.inr rfl) (Nat.le_refl _) (Nat.le_refl _) dX7_readComparison_84 ⟨(Or.inr rfl), rfl, rfl, rfl, rfl⟩
        clear hF
        have hF := hR_17
        clear hR_17
        refine g_icmp_ne (pc := 58) (tgt := 66) dX7_readComparison_58 rfl (fun c_15 => ?_) (fun c_15 => ?_)
        · replace hF := am_no c_15 hF
          refine g_iload_n (pc := 66) dX7_readComparison_66 rfl rfl ?_
          refine g_bipush (pc := 67) (v := (61 : Int32)) dX7_readComparison_67 rfl ?_
          refine g_icmp_ne (pc := 69) (tgt := 77) dX7_readComparison_69 rfl (fun c_19 => ?_) (fun c_19 => ?_)
          · replace hF := am_no c_19 hF
            refine g_bipush (pc := 77) (v := (9 : Int32)) dX7_readComparison_77 rfl ?_
            cases hF
            exact hJ_18
          · replace hF := am_yes c_19 hF
            refine g_bipush (pc := 72) (v := (8 : Int32)) dX7_readComparison_72 rfl ?_
            refine g_goto (pc := 74) (tgt := 79) dX7_readComparison_74 rfl ?_
            cases hF
            exact hJ_18
        · replace hF := am_yes c_15 hF
          refine g_bipush (pc := 61) (v := (7 : Int32)) dX7_readComparison_61 rfl ?_
          refine g_goto (pc := 63) (tgt := 79) dX7_readComparison_63 rfl ?_
          cases hF
          exact hJ_18
      · replace hF := am_yes c_14 hF
        refine g_iconst (pc := 49) (v := (0 : Int32)) dX7_readComparison_49 rfl ?_
        cases hF
        exact g_zret (pc := 50) rfl (Or.inl rfl) (Nat.le_refl _) (Nat.le_refl _) dX7_readComparison_50 ⟨(Or.inl rfl), rfl, rfl, rfl, rfl⟩
    · replace hF := am_no c_7 hF
      refine g_iload_n (pc := 20) dX7_readComparison_20 rfl rfl ?_
      refine g_bipush (pc := 21) (v := (61 : Int32)) dX7_readComparison_21 rfl ?_
      refine g_icmp_eq (pc := 23) (tgt := 38) dX7_readComparison_23 rfl (fun c_22 => ?_) (fun c_22 => ?_)
      · replace hF := am_yes c_22 hF
        refine g_aload_n (pc := 38) dX7_readComparison_38 rfl rfl ?_
        obtain ⟨I_24, h_23, hF⟩ := am_b1_el hF
        refine g_cVv (pc := 39) (k := 47) (As := []) (st := []) ky_X7_advance kl_X7_61 (s_X7_advance_47 (d := 1) (hPl) (Nat.le_refl _) h_23) rfl rfl rfl (hPl.lt (by decide)) (Nat.le_trans (by decide) hd) (Nat.le_of_ble_eq_true rfl) (Nat.le_refl _) (Nat.le_refl _) dX7_readComparison_39 ?_
        refine g_aload_n (pc := 42) dX7_readComparison_42 rfl rfl ?_
        obtain ⟨r_26, I_27, h_25, hF⟩ := am_b2_el hF
        refine g_cVz (pc := 43) (k := 47) (As := []) (st := []) ky_X7_readSum kl_X7_91 (s_X7_readSum_47 (d := 3) (hPl) (Nat.le_refl _) h_25) rfl rfl rfl (hPl.lt (by decide)) (Nat.le_trans (by decide) hd) (Nat.le_of_ble_eq_true rfl) (Nat.le_refl _) (Nat.le_refl _) dX7_readComparison_43 ?_
        intro z_28
        refine g_if_ne (pc := 46) (tgt := 51) dX7_readComparison_46 rfl (fun c_29 => ?_) (fun c_29 => ?_)
        · replace hF := am_no c_29 hF
          refine g_aload_n (pc := 51) dX7_readComparison_51 rfl rfl ?_
          refine g_getR (pc := 52) (k := 47) (r := 48) kf_X7_12.r rfl rfl (hPl.get (by decide) rfl) (hPl.lt (by decide)) dX7_readComparison_52 ?_
          refine g_iload_n (pc := 55) dX7_readComparison_55 rfl rfl ?_
          refine g_bipush (pc := 56) (v := (60 : Int32)) dX7_readComparison_56 rfl ?_
          obtain ⟨v_31, hR_32, hF⟩ := am_b1_el hF
          have hJ_33 : G am_sc0 l d 0 0 mX7_readComparison (am_qz r N P I2) 79 [.ref 47, .int l1_6] [.int v_31, .ref 48] N P I_27 0 0 := by
            refine g_iconst (pc := 79) (v := (0 : Int32)) dX7_readComparison_79 rfl ?_
            obtain ⟨I_36, h_35, hF⟩ := am_b1_el hF
            refine g_cVv (pc := 80) (k := 48) (As := [.int v_31, .int (0 : Int32)]) (st := []) ky_X6_addStep kl_X7_74 (s_X6_addStep_48 (d := 1) (hPl) (Nat.le_refl _) h_35) rfl rfl rfl (hPl.lt (by decide)) (Nat.le_trans (by decide) hd) (Nat.le_of_ble_eq_true rfl) (Nat.le_refl _) (Nat.le_refl _) dX7_readComparison_80 ?_
            refine g_iconst (pc := 83) (v := (1 : Int32)) dX7_readComparison_83 rfl ?_
            cases hF
            exact g_zret (pc := 84) rfl (Or.inr rfl) (Nat.le_refl _) (Nat.le_refl _) dX7_readComparison_84 ⟨(Or.inr rfl), rfl, rfl, rfl, rfl⟩
          clear hF
          have hF := hR_32
          clear hR_32
          refine g_icmp_ne (pc := 58) (tgt := 66) dX7_readComparison_58 rfl (fun c_30 => ?_) (fun c_30 => ?_)
          · replace hF := am_no c_30 hF
            refine g_iload_n (pc := 66) dX7_readComparison_66 rfl rfl ?_
            refine g_bipush (pc := 67) (v := (61 : Int32)) dX7_readComparison_67 rfl ?_
            refine g_icmp_ne (pc := 69) (tgt := 77) dX7_readComparison_69 rfl (fun c_34 => ?_) (fun c_34 => ?_)
            · replace hF := am_no c_34 hF
              refine g_bipush (pc := 77) (v := (9 : Int32)) dX7_readComparison_77 rfl ?_
              cases hF
              exact hJ_33
            · replace hF := am_yes c_34 hF
              refine g_bipush (pc := 72) (v := (8 : Int32)) dX7_readComparison_72 rfl ?_
              refine g_goto (pc := 74) (tgt := 79) dX7_readComparison_74 rfl ?_
              cases hF
              exact hJ_33
          · replace hF := am_yes c_30 hF
            refine g_bipush (pc := 61) (v := (7 : Int32)) dX7_readComparison_61 rfl ?_
            refine g_goto (pc := 63) (tgt := 79) dX7_readComparison_63 rfl ?_
            cases hF
            exact hJ_33
        · replace hF := am_yes c_29 hF
          refine g_iconst (pc := 49) (v := (0 : Int32)) dX7_readComparison_49 rfl ?_
          cases hF
          exact g_zret (pc := 50) rfl (Or.inl rfl) (Nat.le_refl _) (Nat.le_refl _) dX7_readComparison_50 ⟨(Or.inl rfl), rfl, rfl, rfl, rfl⟩
      · replace hF := am_no c_22 hF
        refine g_iload_n (pc := 26) dX7_readComparison_26 rfl rfl ?_
        refine g_bipush (pc := 27) (v := (62 : Int32)) dX7_readComparison_27 rfl ?_
        refine g_icmp_eq (pc := 29) (tgt := 38) dX7_readComparison_29 rfl (fun c_37 => ?_) (fun c_37 => ?_)
        · replace hF := am_yes c_37 hF
          refine g_aload_n (pc := 38) dX7_readComparison_38 rfl rfl ?_
          obtain ⟨I_39, h_38, hF⟩ := am_b1_el hF
          refine g_cVv (pc := 39) (k := 47) (As := []) (st := []) ky_X7_advance kl_X7_61 (s_X7_advance_47 (d := 1) (hPl) (Nat.le_refl _) h_38) rfl rfl rfl (hPl.lt (by decide)) (Nat.le_trans (by decide) hd) (Nat.le_of_ble_eq_true rfl) (Nat.le_refl _) (Nat.le_refl _) dX7_readComparison_39 ?_
          refine g_aload_n (pc := 42) dX7_readComparison_42 rfl rfl ?_
          obtain ⟨r_41, I_42, h_40, hF⟩ := am_b2_el hF
          refine g_cVz (pc := 43) (k := 47) (As := []) (st := []) ky_X7_readSum kl_X7_91 (s_X7_readSum_47 (d := 3) (hPl) (Nat.le_refl _) h_40) rfl rfl rfl (hPl.lt (by decide)) (Nat.le_trans (by decide) hd) (Nat.le_of_ble_eq_true rfl) (Nat.le_refl _) (Nat.le_refl _) dX7_readComparison_43 ?_
          intro z_43
          refine g_if_ne (pc := 46) (tgt := 51) dX7_readComparison_46 rfl (fun c_44 => ?_) (fun c_44 => ?_)
          · replace hF := am_no c_44 hF
            refine g_aload_n (pc := 51) dX7_readComparison_51 rfl rfl ?_
            refine g_getR (pc := 52) (k := 47) (r := 48) kf_X7_12.r rfl rfl (hPl.get (by decide) rfl) (hPl.lt (by decide)) dX7_readComparison_52 ?_
            refine g_iload_n (pc := 55) dX7_readComparison_55 rfl rfl ?_
            refine g_bipush (pc := 56) (v := (60 : Int32)) dX7_readComparison_56 rfl ?_
            obtain ⟨v_46, hR_47, hF⟩ := am_b1_el hF
            have hJ_48 : G am_sc0 l d 0 0 mX7_readComparison (am_qz r N P I2) 79 [.ref 47, .int l1_6] [.int v_46, .ref 48] N P I_42 0 0 := by
              refine g_iconst (pc := 79) (v := (0 : Int32)) dX7_readComparison_79 rfl ?_
              obtain ⟨I_51, h_50, hF⟩ := am_b1_el hF
              refine g_cVv (pc := 80) (k := 48) (As := [.int v_46, .int (0 : Int32)]) (st := []) ky_X6_addStep kl_X7_74 (s_X6_addStep_48 (d := 1) (hPl) (Nat.le_refl _) h_50) rfl rfl rfl (hPl.lt (by decide)) (Nat.le_trans (by decide) hd) (Nat.le_of_ble_eq_true rfl) (Nat.le_refl _) (Nat.le_refl _) dX7_readComparison_80 ?_
              refine g_iconst (pc := 83) (v := (1 : Int32)) dX7_readComparison_83 rfl ?_
              cases hF
              exact g_zret (pc := 84) rfl (Or.inr rfl) (Nat.le_refl _) (Nat.le_refl _) dX7_readComparison_84 ⟨(Or.inr rfl), rfl, rfl, rfl, rfl⟩
            clear hF
            have hF := hR_47
            clear hR_47
            refine g_icmp_ne (pc := 58) (tgt := 66) dX7_readComparison_58 rfl (fun c_45 => ?_) (fun c_45 => ?_)
            · replace hF := am_no c_45 hF
              refine g_iload_n (pc := 66) dX7_readComparison_66 rfl rfl ?_
              refine g_bipush (pc := 67) (v := (61 : Int32)) dX7_readComparison_67 rfl ?_
              refine g_icmp_ne (pc := 69) (tgt := 77) dX7_readComparison_69 rfl (fun c_49 => ?_) (fun c_49 => ?_)
              · replace hF := am_no c_49 hF
                refine g_bipush (pc := 77) (v := (9 : Int32)) dX7_readComparison_77 rfl ?_
                cases hF
                exact hJ_48
              · replace hF := am_yes c_49 hF
                refine g_bipush (pc := 72) (v := (8 : Int32)) dX7_readComparison_72 rfl ?_
                refine g_goto (pc := 74) (tgt := 79) dX7_readComparison_74 rfl ?_
                cases hF
                exact hJ_48
            · replace hF := am_yes c_45 hF
              refine g_bipush (pc := 61) (v := (7 : Int32)) dX7_readComparison_61 rfl ?_
              refine g_goto (pc := 63) (tgt := 79) dX7_readComparison_63 rfl ?_
              cases hF
              exact hJ_48
          · replace hF := am_yes c_44 hF
            refine g_iconst (pc := 49) (v := (0 : Int32)) dX7_readComparison_49 rfl ?_
            cases hF
            exact g_zret (pc := 50) rfl (Or.inl rfl) (Nat.le_refl _) (Nat.le_refl _) dX7_readComparison_50 ⟨(Or.inl rfl), rfl, rfl, rfl, rfl⟩
        · replace hF := am_no c_37 hF
          refine g_aload_n (pc := 32) dX7_readComparison_32 rfl rfl ?_
          refine g_iconst (pc := 33) (v := (1 : Int32)) dX7_readComparison_33 rfl ?_
          obtain ⟨r_53, I_54, h_52, hF⟩ := am_b2_el hF
          refine g_cVz (pc := 34) (k := 47) (As := [.int (1 : Int32)]) (st := []) ky_X7_refuse kl_X7_58 (s_X7_refuse_47 (d := 1) (hPl) (Nat.le_refl _) h_52) rfl rfl rfl (hPl.lt (by decide)) (Nat.le_trans (by decide) hd) (Nat.le_of_ble_eq_true rfl) (Nat.le_refl _) (Nat.le_refl _) dX7_readComparison_34 ?_
          intro z_55
          cases hF
          exact g_zret (pc := 37) rfl z_55 (Nat.le_refl _) (Nat.le_refl _) dX7_readComparison_37 ⟨z_55, rfl, rfl, rfl, rfl⟩
  · replace hF := am_yes c_5 hF
    refine g_iconst (pc := 7) (v := (0 : Int32)) dX7_readComparison_7 rfl ?_
    cases hF
    exact g_zret (pc := 8) rfl (Or.inl rfl) (Nat.le_refl _) (Nat.le_refl _) dX7_readComparison_8 ⟨(Or.inl rfl), rfl, rfl, rfl, rfl⟩
def B_X7_readAll_47 (rec : Nat → am_IT → Int32 → Option (Int32 × am_IT)) (I : am_IT) (a1 : Int32) : Option (Int32 × am_IT) := am_b2 (rec 4 I a1) (fun (r_2 : Int32) (I_3 : am_IT) => if r_2 = 0 then (some ((0 : Int32), I_3)) else (am_lr (am_it am_fu (am_u2 (fun (l2_6 : Int32) (I_7 : am_IT) => if (I_7 47 5) ≤ l2_6 then (some (.inr (.inl (I_7)))) else (if (I_7 47 7) = (259 : Int32) then (am_b1 (F_X7_advance_47 I_7) (fun (I_17 : am_IT) => am_b2 (rec 4 I_17 a1) (fun (r_19 : Int32) (I_20 : am_IT) => if r_19 = 0 then (some (.inr (.inr ((0 : Int32), I_20)))) else (am_b1 (F_X6_addStep_48 I_20 (10 : Int32) (0 : Int32)) (fun (I_24 : am_IT) => am_let (l2_6 + (1 : Int32)) (fun (l2_25 : Int32) => some (.inl (l2_25, I_24)))))))) else (some (.inr (.inl (I_7))))))) ((0 : Int32), I_3)) (fun (I_8 : am_IT) => some ((1 : Int32), I_8))))
set_option maxRecDepth 100000 in
set_option maxHeartbeats 4000000 in
theorem sB_X7_readAll_47 {l : Launch} {d D N : Nat} {P : am_PT} (hPl : am_Pl 94 N P) (hd : 5 ≤ d) (hD : D + 1 ≤ d) {rec : Nat → am_IT → Int32 → Option (Int32 × am_IT)} (hrec0 : ∀ {I : am_IT} {a1 : Int32} {r : Int32} {I2 : am_IT}, rec 0 I a1 = some (r, I2) → am_C l D 0 0 mX7_readAll [.ref 47, .int a1] N P I (am_qz r N P I2)) (hrec1 : ∀ {I : am_IT} {a1 : Int32} {r : Int32} {I2 : am_IT}, rec 1 I a1 = some (r, I2) → am_C l D 0 0 mX7_readAny [.ref 47, .int a1] N P I (am_qz r N P I2)) (hrec2 : ∀ {I : am_IT} {a1 : Int32} {r : Int32} {I2 : am_IT}, rec 2 I a1 = some (r, I2) → am_C l D 0 0 mX7_readBracket [.ref 47, .int a1] N P I (am_qz r N P I2)) (hrec3 : ∀ {I : am_IT} {a1 : Int32} {r : Int32} {I2 : am_IT}, rec 3 I a1 = some (r, I2) → am_C l D 0 0 mX7_readDenied [.ref 47, .int a1] N P I (am_qz r N P I2)) (hrec4 : ∀ {I : am_IT} {a1 : Int32} {r : Int32} {I2 : am_IT}, rec 4 I a1 = some (r, I2) → am_C l D 0 0 mX7_readOne [.ref 47, .int a1] N P I (am_qz r N P I2)) {I : am_IT} {a1 : Int32} {r : Int32} {I2 : am_IT} (hF : B_X7_readAll_47 rec I a1 = some (r, I2)) : am_C l d 0 0 mX7_readAll [.ref 47, .int a1] N P I (am_qz r N P I2) := by
  refine am_body (sc := am_sc0) (n := 1) (by decide +kernel) (by decide) rfl ?_
  change G am_sc0 l d 0 0 mX7_readAll (am_qz r N P I2) 0 [.ref 47, .int a1, .null] [] N P I 0 0
  unfold B_X7_readAll_47 at hF
  refine g_aload_n (pc := 0) dX7_readAll_0 rfl rfl ?_
  refine g_iload_n (pc := 1) dX7_readAll_1 rfl rfl ?_
  obtain ⟨r_2, I_3, h_1, hF⟩ := am_b2_el hF
  refine g_cVz (pc := 2) (k := 47) (As := [.int a1]) (st := []) ky_X7_readOne kl_X7_78 (hrec4 h_1) rfl rfl rfl (hPl.lt (by decide)) hD (Nat.le_of_ble_eq_true rfl) (Nat.le_refl _) (Nat.le_refl _) dX7_readAll_2 ?_
  intro z_4
  refine g_if_ne (pc := 5) (tgt := 10) dX7_readAll_5 rfl (fun c_5 => ?_) (fun c_5 => ?_)
  · replace hF := am_no c_5 hF
    refine g_iconst (pc := 10) (v := (0 : Int32)) dX7_readAll_10 rfl ?_
    refine n_istore_n (pc := 11) (ls2 := [.ref 47, .int a1, .int (0 : Int32)]) rfl rfl dX7_readAll_11 rfl (Nat.le_of_ble_eq_true rfl) ?_
    obtain ⟨x_27, hL_12, hF⟩ := am_lr_el hF
    have hX_9 : ∀ (I_8 : am_IT), x_27 = .inl I_8 → G am_sc0 l d 0 0 mX7_readAll (am_qz r N P I2) 60 [.ref 47, .int a1, .null] [] N P I_8 0 0 := by
      intro I_8 q
      subst q
      refine g_iconst (pc := 60) (v := (1 : Int32)) dX7_readAll_60 rfl ?_
      cases hF
      exact g_zret (pc := 61) rfl (Or.inr rfl) (Nat.le_refl _) (Nat.le_refl _) dX7_readAll_61 ⟨(Or.inr rfl), rfl, rfl, rfl, rfl⟩
    have hZ_13 : ∀ y, x_27 = .inr y → y = _ := fun y q => by subst q; exact hF
    clear hF
    have hC := am_loop (C := fun x => G am_sc0 l d 0 0 mX7_readAll (am_qz r N P I2) 12 [.ref 47, .int a1, .int x.1] [] N P x.2 0 0) (by
      rintro ⟨l2_6, I_7⟩ rr hF ih_10 hE_11
      replace hF := am_u2_ap hF
      change G am_sc0 l d 0 0 mX7_readAll (am_qz r N P I2) 12 [.ref 47, .int a1, .int l2_6] [] N P I_7 0 0
      refine g_iload_n (pc := 12) dX7_readAll_12 rfl rfl ?_
      refine g_aload_n (pc := 13) dX7_readAll_13 rfl rfl ?_
      refine g_getI (pc := 14) (k := 47) kf_X7_32.r rfl rfl (hPl.lt (by decide)) dX7_readAll_14 ?_
      refine g_icmp_ge (pc := 17) (tgt := 60) dX7_readAll_17 rfl (fun c_14 => ?_) (fun c_14 => ?_)
      · replace hF := am_yes c_14 hF
        cases hF
        exact g_weak (hX_9 _ (hE_11 _ rfl).symm) ⟨Or.inr rfl, Or.inr rfl, Or.inl rfl, trivial⟩
      · replace hF := am_no c_14 hF
        refine g_aload_n (pc := 20) dX7_readAll_20 rfl rfl ?_
        refine g_getI (pc := 21) (k := 47) kf_X7_38.r rfl rfl (hPl.lt (by decide)) dX7_readAll_21 ?_
        refine g_sipush (pc := 24) (v := (259 : Int32)) dX7_readAll_24 rfl ?_
        refine g_icmp_ne (pc := 27) (tgt := 60) dX7_readAll_27 rfl (fun c_15 => ?_) (fun c_15 => ?_)
        · replace hF := am_no c_15 hF
          cases hF
          exact g_weak (hX_9 _ (hE_11 _ rfl).symm) ⟨Or.inr rfl, Or.inr rfl, Or.inl rfl, trivial⟩
        · replace hF := am_yes c_15 hF
          refine g_aload_n (pc := 30) dX7_readAll_30 rfl rfl ?_
          obtain ⟨I_17, h_16, hF⟩ := am_b1_el hF
          refine g_cVv (pc := 31) (k := 47) (As := []) (st := []) ky_X7_advance kl_X7_61 (s_X7_advance_47 (d := 1) (hPl) (Nat.le_refl _) h_16) rfl rfl rfl (hPl.lt (by decide)) (Nat.le_trans (by decide) hd) (Nat.le_of_ble_eq_true rfl) (Nat.le_refl _) (Nat.le_refl _) dX7_readAll_31 ?_
          refine g_aload_n (pc := 34) dX7_readAll_34 rfl rfl ?_
          refine g_iload_n (pc := 35) dX7_readAll_35 rfl rfl ?_
          obtain ⟨r_19, I_20, h_18, hF⟩ := am_b2_el hF
          refine g_cVz (pc := 36) (k := 47) (As := [.int a1]) (st := []) ky_X7_readOne kl_X7_78 (hrec4 h_18) rfl rfl rfl (hPl.lt (by decide)) hD (Nat.le_of_ble_eq_true rfl) (Nat.le_refl _) (Nat.le_refl _) dX7_readAll_36 ?_
          intro z_21
          refine g_if_ne (pc := 39) (tgt := 44) dX7_readAll_39 rfl (fun c_22 => ?_) (fun c_22 => ?_)
          · replace hF := am_no c_22 hF
            refine g_aload_n (pc := 44) dX7_readAll_44 rfl rfl ?_
            refine g_getR (pc := 45) (k := 47) (r := 48) kf_X7_12.r rfl rfl (hPl.get (by decide) rfl) (hPl.lt (by decide)) dX7_readAll_45 ?_
            refine g_bipush (pc := 48) (v := (10 : Int32)) dX7_readAll_48 rfl ?_
            refine g_iconst (pc := 50) (v := (0 : Int32)) dX7_readAll_50 rfl ?_
            obtain ⟨I_24, h_23, hF⟩ := am_b1_el hF
            refine g_cVv (pc := 51) (k := 48) (As := [.int (10 : Int32), .int (0 : Int32)]) (st := []) ky_X6_addStep kl_X7_74 (s_X6_addStep_48 (d := 1) (hPl) (Nat.le_refl _) h_23) rfl rfl rfl (hPl.lt (by decide)) (Nat.le_trans (by decide) hd) (Nat.le_of_ble_eq_true rfl) (Nat.le_refl _) (Nat.le_refl _) dX7_readAll_51 ?_
            obtain ⟨l2_25, e_l2_25, hF⟩ := am_let_el hF
            refine n_iinc (pc := 54) (ls2 := [.ref 47, .int a1, .int l2_25]) e_l2_25 rfl rfl rfl dX7_readAll_54 (Nat.le_of_ble_eq_true rfl) ?_
            refine g_goto (pc := 57) (tgt := 12) dX7_readAll_57 rfl ?_
            cases hF
            exact ih_10 (l2_25, I_24) rfl
          · replace hF := am_yes c_22 hF
            refine g_iconst (pc := 42) (v := (0 : Int32)) dX7_readAll_42 rfl ?_
            cases hF
            have q_26 := hZ_13 _ (hE_11 _ rfl).symm
            cases q_26
            exact g_zret (pc := 43) rfl (Or.inl rfl) (Nat.le_refl _) (Nat.le_refl _) dX7_readAll_43 ⟨(Or.inl rfl), rfl, rfl, rfl, rfl⟩
      ) _ _ hL_12
    exact hC
  · replace hF := am_yes c_5 hF
    refine g_iconst (pc := 8) (v := (0 : Int32)) dX7_readAll_8 rfl ?_
    cases hF
    exact g_zret (pc := 9) rfl (Or.inl rfl) (Nat.le_refl _) (Nat.le_refl _) dX7_readAll_9 ⟨(Or.inl rfl), rfl, rfl, rfl, rfl⟩
def B_X7_readAny_47 (rec : Nat → am_IT → Int32 → Option (Int32 × am_IT)) (I : am_IT) (a1 : Int32) : Option (Int32 × am_IT) := am_b2 (rec 0 I a1) (fun (r_2 : Int32) (I_3 : am_IT) => if r_2 = 0 then (some ((0 : Int32), I_3)) else (am_lr (am_it am_fu (am_u2 (fun (l2_6 : Int32) (I_7 : am_IT) => if (I_7 47 5) ≤ l2_6 then (some (.inr (.inl (I_7)))) else (if (I_7 47 7) = (258 : Int32) then (am_b1 (F_X7_advance_47 I_7) (fun (I_17 : am_IT) => am_b2 (rec 0 I_17 a1) (fun (r_19 : Int32) (I_20 : am_IT) => if r_19 = 0 then (some (.inr (.inr ((0 : Int32), I_20)))) else (am_b1 (F_X6_addStep_48 I_20 (11 : Int32) (0 : Int32)) (fun (I_24 : am_IT) => am_let (l2_6 + (1 : Int32)) (fun (l2_25 : Int32) => some (.inl (l2_25, I_24)))))))) else (some (.inr (.inl (I_7))))))) ((0 : Int32), I_3)) (fun (I_8 : am_IT) => some ((1 : Int32), I_8))))
set_option maxRecDepth 100000 in
set_option maxHeartbeats 4000000 in
theorem sB_X7_readAny_47 {l : Launch} {d D N : Nat} {P : am_PT} (hPl : am_Pl 94 N P) (hd : 5 ≤ d) (hD : D + 1 ≤ d) {rec : Nat → am_IT → Int32 → Option (Int32 × am_IT)} (hrec0 : ∀ {I : am_IT} {a1 : Int32} {r : Int32} {I2 : am_IT}, rec 0 I a1 = some (r, I2) → am_C l D 0 0 mX7_readAll [.ref 47, .int a1] N P I (am_qz r N P I2)) (hrec1 : ∀ {I : am_IT} {a1 : Int32} {r : Int32} {I2 : am_IT}, rec 1 I a1 = some (r, I2) → am_C l D 0 0 mX7_readAny [.ref 47, .int a1] N P I (am_qz r N P I2)) (hrec2 : ∀ {I : am_IT} {a1 : Int32} {r : Int32} {I2 : am_IT}, rec 2 I a1 = some (r, I2) → am_C l D 0 0 mX7_readBracket [.ref 47, .int a1] N P I (am_qz r N P I2)) (hrec3 : ∀ {I : am_IT} {a1 : Int32} {r : Int32} {I2 : am_IT}, rec 3 I a1 = some (r, I2) → am_C l D 0 0 mX7_readDenied [.ref 47, .int a1] N P I (am_qz r N P I2)) (hrec4 : ∀ {I : am_IT} {a1 : Int32} {r : Int32} {I2 : am_IT}, rec 4 I a1 = some (r, I2) → am_C l D 0 0 mX7_readOne [.ref 47, .int a1] N P I (am_qz r N P I2)) {I : am_IT} {a1 : Int32} {r : Int32} {I2 : am_IT} (hF : B_X7_readAny_47 rec I a1 = some (r, I2)) : am_C l d 0 0 mX7_readAny [.ref 47, .int a1] N P I (am_qz r N P I2) := by
  refine am_body (sc := am_sc0) (n := 1) (by decide +kernel) (by decide) rfl ?_
  change G am_sc0 l d 0 0 mX7_readAny (am_qz r N P I2) 0 [.ref 47, .int a1, .null] [] N P I 0 0
  unfold B_X7_readAny_47 at hF
  refine g_aload_n (pc := 0) dX7_readAny_0 rfl rfl ?_
  refine g_iload_n (pc := 1) dX7_readAny_1 rfl rfl ?_
  obtain ⟨r_2, I_3, h_1, hF⟩ := am_b2_el hF
  refine g_cVz (pc := 2) (k := 47) (As := [.int a1]) (st := []) ky_X7_readAll kl_X7_71 (hrec0 h_1) rfl rfl rfl (hPl.lt (by decide)) hD (Nat.le_of_ble_eq_true rfl) (Nat.le_refl _) (Nat.le_refl _) dX7_readAny_2 ?_
  intro z_4
  refine g_if_ne (pc := 5) (tgt := 10) dX7_readAny_5 rfl (fun c_5 => ?_) (fun c_5 => ?_)
  · replace hF := am_no c_5 hF
    refine g_iconst (pc := 10) (v := (0 : Int32)) dX7_readAny_10 rfl ?_
    refine n_istore_n (pc := 11) (ls2 := [.ref 47, .int a1, .int (0 : Int32)]) rfl rfl dX7_readAny_11 rfl (Nat.le_of_ble_eq_true rfl) ?_
    obtain ⟨x_27, hL_12, hF⟩ := am_lr_el hF
    have hX_9 : ∀ (I_8 : am_IT), x_27 = .inl I_8 → G am_sc0 l d 0 0 mX7_readAny (am_qz r N P I2) 60 [.ref 47, .int a1, .null] [] N P I_8 0 0 := by
      intro I_8 q
      subst q
      refine g_iconst (pc := 60) (v := (1 : Int32)) dX7_readAny_60 rfl ?_
      cases hF
      exact g_zret (pc := 61) rfl (Or.inr rfl) (Nat.le_refl _) (Nat.le_refl _) dX7_readAny_61 ⟨(Or.inr rfl), rfl, rfl, rfl, rfl⟩
    have hZ_13 : ∀ y, x_27 = .inr y → y = _ := fun y q => by subst q; exact hF
    clear hF
    have hC := am_loop (C := fun x => G am_sc0 l d 0 0 mX7_readAny (am_qz r N P I2) 12 [.ref 47, .int a1, .int x.1] [] N P x.2 0 0) (by
      rintro ⟨l2_6, I_7⟩ rr hF ih_10 hE_11
      replace hF := am_u2_ap hF
      change G am_sc0 l d 0 0 mX7_readAny (am_qz r N P I2) 12 [.ref 47, .int a1, .int l2_6] [] N P I_7 0 0
      refine g_iload_n (pc := 12) dX7_readAny_12 rfl rfl ?_
      refine g_aload_n (pc := 13) dX7_readAny_13 rfl rfl ?_
      refine g_getI (pc := 14) (k := 47) kf_X7_32.r rfl rfl (hPl.lt (by decide)) dX7_readAny_14 ?_
      refine g_icmp_ge (pc := 17) (tgt := 60) dX7_readAny_17 rfl (fun c_14 => ?_) (fun c_14 => ?_)
      · replace hF := am_yes c_14 hF
        cases hF
        exact g_weak (hX_9 _ (hE_11 _ rfl).symm) ⟨Or.inr rfl, Or.inr rfl, Or.inl rfl, trivial⟩
      · replace hF := am_no c_14 hF
        refine g_aload_n (pc := 20) dX7_readAny_20 rfl rfl ?_
        refine g_getI (pc := 21) (k := 47) kf_X7_38.r rfl rfl (hPl.lt (by decide)) dX7_readAny_21 ?_
        refine g_sipush (pc := 24) (v := (258 : Int32)) dX7_readAny_24 rfl ?_
        refine g_icmp_ne (pc := 27) (tgt := 60) dX7_readAny_27 rfl (fun c_15 => ?_) (fun c_15 => ?_)
        · replace hF := am_no c_15 hF
          cases hF
          exact g_weak (hX_9 _ (hE_11 _ rfl).symm) ⟨Or.inr rfl, Or.inr rfl, Or.inl rfl, trivial⟩
        · replace hF := am_yes c_15 hF
          refine g_aload_n (pc := 30) dX7_readAny_30 rfl rfl ?_
          obtain ⟨I_17, h_16, hF⟩ := am_b1_el hF
          refine g_cVv (pc := 31) (k := 47) (As := []) (st := []) ky_X7_advance kl_X7_61 (s_X7_advance_47 (d := 1) (hPl) (Nat.le_refl _) h_16) rfl rfl rfl (hPl.lt (by decide)) (Nat.le_trans (by decide) hd) (Nat.le_of_ble_eq_true rfl) (Nat.le_refl _) (Nat.le_refl _) dX7_readAny_31 ?_
          refine g_aload_n (pc := 34) dX7_readAny_34 rfl rfl ?_
          refine g_iload_n (pc := 35) dX7_readAny_35 rfl rfl ?_
          obtain ⟨r_19, I_20, h_18, hF⟩ := am_b2_el hF
          refine g_cVz (pc := 36) (k := 47) (As := [.int a1]) (st := []) ky_X7_readAll kl_X7_71 (hrec0 h_18) rfl rfl rfl (hPl.lt (by decide)) hD (Nat.le_of_ble_eq_true rfl) (Nat.le_refl _) (Nat.le_refl _) dX7_readAny_36 ?_
          intro z_21
          refine g_if_ne (pc := 39) (tgt := 44) dX7_readAny_39 rfl (fun c_22 => ?_) (fun c_22 => ?_)
          · replace hF := am_no c_22 hF
            refine g_aload_n (pc := 44) dX7_readAny_44 rfl rfl ?_
            refine g_getR (pc := 45) (k := 47) (r := 48) kf_X7_12.r rfl rfl (hPl.get (by decide) rfl) (hPl.lt (by decide)) dX7_readAny_45 ?_
            refine g_bipush (pc := 48) (v := (11 : Int32)) dX7_readAny_48 rfl ?_
            refine g_iconst (pc := 50) (v := (0 : Int32)) dX7_readAny_50 rfl ?_
            obtain ⟨I_24, h_23, hF⟩ := am_b1_el hF
            refine g_cVv (pc := 51) (k := 48) (As := [.int (11 : Int32), .int (0 : Int32)]) (st := []) ky_X6_addStep kl_X7_74 (s_X6_addStep_48 (d := 1) (hPl) (Nat.le_refl _) h_23) rfl rfl rfl (hPl.lt (by decide)) (Nat.le_trans (by decide) hd) (Nat.le_of_ble_eq_true rfl) (Nat.le_refl _) (Nat.le_refl _) dX7_readAny_51 ?_
            obtain ⟨l2_25, e_l2_25, hF⟩ := am_let_el hF
            refine n_iinc (pc := 54) (ls2 := [.ref 47, .int a1, .int l2_25]) e_l2_25 rfl rfl rfl dX7_readAny_54 (Nat.le_of_ble_eq_true rfl) ?_
            refine g_goto (pc := 57) (tgt := 12) dX7_readAny_57 rfl ?_
            cases hF
            exact ih_10 (l2_25, I_24) rfl
          · replace hF := am_yes c_22 hF
            refine g_iconst (pc := 42) (v := (0 : Int32)) dX7_readAny_42 rfl ?_
            cases hF
            have q_26 := hZ_13 _ (hE_11 _ rfl).symm
            cases q_26
            exact g_zret (pc := 43) rfl (Or.inl rfl) (Nat.le_refl _) (Nat.le_refl _) dX7_readAny_43 ⟨(Or.inl rfl), rfl, rfl, rfl, rfl⟩
      ) _ _ hL_12
    exact hC
  · replace hF := am_yes c_5 hF
    refine g_iconst (pc := 8) (v := (0 : Int32)) dX7_readAny_8 rfl ?_
    cases hF
    exact g_zret (pc := 9) rfl (Or.inl rfl) (Nat.le_refl _) (Nat.le_refl _) dX7_readAny_9 ⟨(Or.inl rfl), rfl, rfl, rfl, rfl⟩
def B_X7_readBracket_47 (rec : Nat → am_IT → Int32 → Option (Int32 × am_IT)) (I : am_IT) (a1 : Int32) : Option (Int32 × am_IT) := am_b2 (rec 1 I a1) (fun (r_2 : Int32) (I_3 : am_IT) => if r_2 = 0 then (some ((0 : Int32), I_3)) else (if (I_3 47 7) = (41 : Int32) then (am_b1 (F_X7_advance_47 I_3) (fun (I_8 : am_IT) => some ((1 : Int32), I_8))) else (am_b2 (F_X7_refuse_47 I_3 (1 : Int32)) (fun (r_10 : Int32) (I_11 : am_IT) => some (r_10, I_11)))))
set_option maxRecDepth 100000 in
set_option maxHeartbeats 4000000 in
theorem sB_X7_readBracket_47 {l : Launch} {d D N : Nat} {P : am_PT} (hPl : am_Pl 94 N P) (hd : 5 ≤ d) (hD : D + 1 ≤ d) {rec : Nat → am_IT → Int32 → Option (Int32 × am_IT)} (hrec0 : ∀ {I : am_IT} {a1 : Int32} {r : Int32} {I2 : am_IT}, rec 0 I a1 = some (r, I2) → am_C l D 0 0 mX7_readAll [.ref 47, .int a1] N P I (am_qz r N P I2)) (hrec1 : ∀ {I : am_IT} {a1 : Int32} {r : Int32} {I2 : am_IT}, rec 1 I a1 = some (r, I2) → am_C l D 0 0 mX7_readAny [.ref 47, .int a1] N P I (am_qz r N P I2)) (hrec2 : ∀ {I : am_IT} {a1 : Int32} {r : Int32} {I2 : am_IT}, rec 2 I a1 = some (r, I2) → am_C l D 0 0 mX7_readBracket [.ref 47, .int a1] N P I (am_qz r N P I2)) (hrec3 : ∀ {I : am_IT} {a1 : Int32} {r : Int32} {I2 : am_IT}, rec 3 I a1 = some (r, I2) → am_C l D 0 0 mX7_readDenied [.ref 47, .int a1] N P I (am_qz r N P I2)) (hrec4 : ∀ {I : am_IT} {a1 : Int32} {r : Int32} {I2 : am_IT}, rec 4 I a1 = some (r, I2) → am_C l D 0 0 mX7_readOne [.ref 47, .int a1] N P I (am_qz r N P I2)) {I : am_IT} {a1 : Int32} {r : Int32} {I2 : am_IT} (hF : B_X7_readBracket_47 rec I a1 = some (r, I2)) : am_C l d 0 0 mX7_readBracket [.ref 47, .int a1] N P I (am_qz r N P I2) := by
  refine am_body (sc := am_sc0) (n := 0) (by decide +kernel) (by decide) rfl ?_
  change G am_sc0 l d 0 0 mX7_readBracket (am_qz r N P I2) 0 [.ref 47, .int a1] [] N P I 0 0
  unfold B_X7_readBracket_47 at hF
  refine g_aload_n (pc := 0) dX7_readBracket_0 rfl rfl ?_
  refine g_iload_n (pc := 1) dX7_readBracket_1 rfl rfl ?_
  obtain ⟨r_2, I_3, h_1, hF⟩ := am_b2_el hF
  refine g_cVz (pc := 2) (k := 47) (As := [.int a1]) (st := []) ky_X7_readAny kl_X7_64 (hrec1 h_1) rfl rfl rfl (hPl.lt (by decide)) hD (Nat.le_of_ble_eq_true rfl) (Nat.le_refl _) (Nat.le_refl _) dX7_readBracket_2 ?_
  intro z_4
  refine g_if_ne (pc := 5) (tgt := 10) dX7_readBracket_5 rfl (fun c_5 => ?_) (fun c_5 => ?_)
  · replace hF := am_no c_5 hF
    refine g_aload_n (pc := 10) dX7_readBracket_10 rfl rfl ?_
    refine g_getI (pc := 11) (k := 47) kf_X7_38.r rfl rfl (hPl.lt (by decide)) dX7_readBracket_11 ?_
    refine g_bipush (pc := 14) (v := (41 : Int32)) dX7_readBracket_14 rfl ?_
    refine g_icmp_eq (pc := 16) (tgt := 25) dX7_readBracket_16 rfl (fun c_6 => ?_) (fun c_6 => ?_)
    · replace hF := am_yes c_6 hF
      refine g_aload_n (pc := 25) dX7_readBracket_25 rfl rfl ?_
      obtain ⟨I_8, h_7, hF⟩ := am_b1_el hF
      refine g_cVv (pc := 26) (k := 47) (As := []) (st := []) ky_X7_advance kl_X7_61 (s_X7_advance_47 (d := 1) (hPl) (Nat.le_refl _) h_7) rfl rfl rfl (hPl.lt (by decide)) (Nat.le_trans (by decide) hd) (Nat.le_of_ble_eq_true rfl) (Nat.le_refl _) (Nat.le_refl _) dX7_readBracket_26 ?_
      refine g_iconst (pc := 29) (v := (1 : Int32)) dX7_readBracket_29 rfl ?_
      cases hF
      exact g_zret (pc := 30) rfl (Or.inr rfl) (Nat.le_refl _) (Nat.le_refl _) dX7_readBracket_30 ⟨(Or.inr rfl), rfl, rfl, rfl, rfl⟩
    · replace hF := am_no c_6 hF
      refine g_aload_n (pc := 19) dX7_readBracket_19 rfl rfl ?_
      refine g_iconst (pc := 20) (v := (1 : Int32)) dX7_readBracket_20 rfl ?_
      obtain ⟨r_10, I_11, h_9, hF⟩ := am_b2_el hF
      refine g_cVz (pc := 21) (k := 47) (As := [.int (1 : Int32)]) (st := []) ky_X7_refuse kl_X7_58 (s_X7_refuse_47 (d := 1) (hPl) (Nat.le_refl _) h_9) rfl rfl rfl (hPl.lt (by decide)) (Nat.le_trans (by decide) hd) (Nat.le_of_ble_eq_true rfl) (Nat.le_refl _) (Nat.le_refl _) dX7_readBracket_21 ?_
      intro z_12
      cases hF
      exact g_zret (pc := 24) rfl z_12 (Nat.le_refl _) (Nat.le_refl _) dX7_readBracket_24 ⟨z_12, rfl, rfl, rfl, rfl⟩
  · replace hF := am_yes c_5 hF
    refine g_iconst (pc := 8) (v := (0 : Int32)) dX7_readBracket_8 rfl ?_
    cases hF
    exact g_zret (pc := 9) rfl (Or.inl rfl) (Nat.le_refl _) (Nat.le_refl _) dX7_readBracket_9 ⟨(Or.inl rfl), rfl, rfl, rfl, rfl⟩
def B_X7_readDenied_47 (rec : Nat → am_IT → Int32 → Option (Int32 × am_IT)) (I : am_IT) (a1 : Int32) : Option (Int32 × am_IT) := am_b2 (rec 4 I a1) (fun (r_2 : Int32) (I_3 : am_IT) => if r_2 = 0 then (some ((0 : Int32), I_3)) else (am_b1 (F_X6_addStep_48 I_3 (3 : Int32) (0 : Int32)) (fun (I_7 : am_IT) => some ((1 : Int32), I_7))))
set_option maxRecDepth 100000 in
set_option maxHeartbeats 4000000 in
theorem sB_X7_readDenied_47 {l : Launch} {d D N : Nat} {P : am_PT} (hPl : am_Pl 94 N P) (hd : 5 ≤ d) (hD : D + 1 ≤ d) {rec : Nat → am_IT → Int32 → Option (Int32 × am_IT)} (hrec0 : ∀ {I : am_IT} {a1 : Int32} {r : Int32} {I2 : am_IT}, rec 0 I a1 = some (r, I2) → am_C l D 0 0 mX7_readAll [.ref 47, .int a1] N P I (am_qz r N P I2)) (hrec1 : ∀ {I : am_IT} {a1 : Int32} {r : Int32} {I2 : am_IT}, rec 1 I a1 = some (r, I2) → am_C l D 0 0 mX7_readAny [.ref 47, .int a1] N P I (am_qz r N P I2)) (hrec2 : ∀ {I : am_IT} {a1 : Int32} {r : Int32} {I2 : am_IT}, rec 2 I a1 = some (r, I2) → am_C l D 0 0 mX7_readBracket [.ref 47, .int a1] N P I (am_qz r N P I2)) (hrec3 : ∀ {I : am_IT} {a1 : Int32} {r : Int32} {I2 : am_IT}, rec 3 I a1 = some (r, I2) → am_C l D 0 0 mX7_readDenied [.ref 47, .int a1] N P I (am_qz r N P I2)) (hrec4 : ∀ {I : am_IT} {a1 : Int32} {r : Int32} {I2 : am_IT}, rec 4 I a1 = some (r, I2) → am_C l D 0 0 mX7_readOne [.ref 47, .int a1] N P I (am_qz r N P I2)) {I : am_IT} {a1 : Int32} {r : Int32} {I2 : am_IT} (hF : B_X7_readDenied_47 rec I a1 = some (r, I2)) : am_C l d 0 0 mX7_readDenied [.ref 47, .int a1] N P I (am_qz r N P I2) := by
  refine am_body (sc := am_sc0) (n := 0) (by decide +kernel) (by decide) rfl ?_
  change G am_sc0 l d 0 0 mX7_readDenied (am_qz r N P I2) 0 [.ref 47, .int a1] [] N P I 0 0
  unfold B_X7_readDenied_47 at hF
  refine g_aload_n (pc := 0) dX7_readDenied_0 rfl rfl ?_
  refine g_iload_n (pc := 1) dX7_readDenied_1 rfl rfl ?_
  obtain ⟨r_2, I_3, h_1, hF⟩ := am_b2_el hF
  refine g_cVz (pc := 2) (k := 47) (As := [.int a1]) (st := []) ky_X7_readOne kl_X7_78 (hrec4 h_1) rfl rfl rfl (hPl.lt (by decide)) hD (Nat.le_of_ble_eq_true rfl) (Nat.le_refl _) (Nat.le_refl _) dX7_readDenied_2 ?_
  intro z_4
  refine g_if_ne (pc := 5) (tgt := 10) dX7_readDenied_5 rfl (fun c_5 => ?_) (fun c_5 => ?_)
  · replace hF := am_no c_5 hF
    refine g_aload_n (pc := 10) dX7_readDenied_10 rfl rfl ?_
    refine g_getR (pc := 11) (k := 47) (r := 48) kf_X7_12.r rfl rfl (hPl.get (by decide) rfl) (hPl.lt (by decide)) dX7_readDenied_11 ?_
    refine g_iconst (pc := 14) (v := (3 : Int32)) dX7_readDenied_14 rfl ?_
    refine g_iconst (pc := 15) (v := (0 : Int32)) dX7_readDenied_15 rfl ?_
    obtain ⟨I_7, h_6, hF⟩ := am_b1_el hF
    refine g_cVv (pc := 16) (k := 48) (As := [.int (3 : Int32), .int (0 : Int32)]) (st := []) ky_X6_addStep kl_X7_74 (s_X6_addStep_48 (d := 1) (hPl) (Nat.le_refl _) h_6) rfl rfl rfl (hPl.lt (by decide)) (Nat.le_trans (by decide) hd) (Nat.le_of_ble_eq_true rfl) (Nat.le_refl _) (Nat.le_refl _) dX7_readDenied_16 ?_
    refine g_iconst (pc := 19) (v := (1 : Int32)) dX7_readDenied_19 rfl ?_
    cases hF
    exact g_zret (pc := 20) rfl (Or.inr rfl) (Nat.le_refl _) (Nat.le_refl _) dX7_readDenied_20 ⟨(Or.inr rfl), rfl, rfl, rfl, rfl⟩
  · replace hF := am_yes c_5 hF
    refine g_iconst (pc := 8) (v := (0 : Int32)) dX7_readDenied_8 rfl ?_
    cases hF
    exact g_zret (pc := 9) rfl (Or.inl rfl) (Nat.le_refl _) (Nat.le_refl _) dX7_readDenied_9 ⟨(Or.inl rfl), rfl, rfl, rfl, rfl⟩
def B_X7_readOne_47 (rec : Nat → am_IT → Int32 → Option (Int32 × am_IT)) (I : am_IT) (a1 : Int32) : Option (Int32 × am_IT) := am_b1 (if (I 47 7) = (260 : Int32) then (some ((1 : Int32))) else (some ((0 : Int32)))) (fun (v_2 : Int32) => if v_2 = 0 then (if (I 47 7) = (40 : Int32) then (if a1 < (8 : Int32) then (am_b1 (F_X7_advance_47 I) (fun (I_25 : am_IT) => if v_2 = 0 then (am_b2 (rec 2 I_25 (a1 + (1 : Int32))) (fun (r_28 : Int32) (I_29 : am_IT) => some (r_28, I_29))) else (am_b2 (rec 3 I_25 (a1 + (1 : Int32))) (fun (r_32 : Int32) (I_33 : am_IT) => some (r_32, I_33))))) else (am_b2 (F_X7_refuse_47 I (3 : Int32)) (fun (r_36 : Int32) (I_37 : am_IT) => some (r_36, I_37)))) else (am_b2 (F_X7_readComparison_47 I) (fun (r_40 : Int32) (I_41 : am_IT) => some (r_40, I_41)))) else (if a1 < (8 : Int32) then (am_b1 (F_X7_advance_47 I) (fun (I_8 : am_IT) => if v_2 = 0 then (am_b2 (rec 2 I_8 (a1 + (1 : Int32))) (fun (r_11 : Int32) (I_12 : am_IT) => some (r_11, I_12))) else (am_b2 (rec 3 I_8 (a1 + (1 : Int32))) (fun (r_15 : Int32) (I_16 : am_IT) => some (r_15, I_16))))) else (am_b2 (F_X7_refuse_47 I (3 : Int32)) (fun (r_19 : Int32) (I_20 : am_IT) => some (r_19, I_20)))))
set_option maxRecDepth 100000 in
set_option maxHeartbeats 4000000 in
theorem sB_X7_readOne_47 {l : Launch} {d D N : Nat} {P : am_PT} (hPl : am_Pl 94 N P) (hd : 5 ≤ d) (hD : D + 1 ≤ d) {rec : Nat → am_IT → Int32 → Option (Int32 × am_IT)} (hrec0 : ∀ {I : am_IT} {a1 : Int32} {r : Int32} {I2 : am_IT}, rec 0 I a1 = some (r, I2) → am_C l D 0 0 mX7_readAll [.ref 47, .int a1] N P I (am_qz r N P I2)) (hrec1 : ∀ {I : am_IT} {a1 : Int32} {r : Int32} {I2 : am_IT}, rec 1 I a1 = some (r, I2) → am_C l D 0 0 mX7_readAny [.ref 47, .int a1] N P I (am_qz r N P I2)) (hrec2 : ∀ {I : am_IT} {a1 : Int32} {r : Int32} {I2 : am_IT}, rec 2 I a1 = some (r, I2) → am_C l D 0 0 mX7_readBracket [.ref 47, .int a1] N P I (am_qz r N P I2)) (hrec3 : ∀ {I : am_IT} {a1 : Int32} {r : Int32} {I2 : am_IT}, rec 3 I a1 = some (r, I2) → am_C l D 0 0 mX7_readDenied [.ref 47, .int a1] N P I (am_qz r N P I2)) (hrec4 : ∀ {I : am_IT} {a1 : Int32} {r : Int32} {I2 : am_IT}, rec 4 I a1 = some (r, I2) → am_C l D 0 0 mX7_readOne [.ref 47, .int a1] N P I (am_qz r N P I2)) {I : am_IT} {a1 : Int32} {r : Int32} {I2 : am_IT} (hF : B_X7_readOne_47 rec I a1 = some (r, I2)) : am_C l d 0 0 mX7_readOne [.ref 47, .int a1] N P I (am_qz r N P I2) := by
  refine am_body (sc := am_sc0) (n := 1) (by decide +kernel) (by decide) rfl ?_
  change G am_sc0 l d 0 0 mX7_readOne (am_qz r N P I2) 0 [.ref 47, .int a1, .null] [] N P I 0 0
  unfold B_X7_readOne_47 at hF
  refine g_aload_n (pc := 0) dX7_readOne_0 rfl rfl ?_
  refine g_getI (pc := 1) (k := 47) kf_X7_38.r rfl rfl (hPl.lt (by decide)) dX7_readOne_1 ?_
  refine g_sipush (pc := 4) (v := (260 : Int32)) dX7_readOne_4 rfl ?_
  obtain ⟨v_2, hR_3, hF⟩ := am_b1_el hF
  have hJ_4 : G am_sc0 l d 0 0 mX7_readOne (am_qz r N P I2) 15 [.ref 47, .int a1, .null] [.int v_2] N P I 0 0 := by
    refine n_istore_n (pc := 15) (ls2 := [.ref 47, .int a1, .int v_2]) rfl rfl dX7_readOne_15 rfl (Nat.le_of_ble_eq_true rfl) ?_
    refine g_iload_n (pc := 16) dX7_readOne_16 rfl rfl ?_
    refine g_if_ne (pc := 17) (tgt := 34) dX7_readOne_17 rfl (fun c_5 => ?_) (fun c_5 => ?_)
    · replace hF := am_no c_5 hF
      refine g_iload_n (pc := 34) dX7_readOne_34 rfl rfl ?_
      refine g_bipush (pc := 35) (v := (8 : Int32)) dX7_readOne_35 rfl ?_
      refine g_icmp_lt (pc := 37) (tgt := 46) dX7_readOne_37 rfl (fun c_6 => ?_) (fun c_6 => ?_)
      · replace hF := am_yes c_6 hF
        refine g_aload_n (pc := 46) dX7_readOne_46 rfl rfl ?_
        obtain ⟨I_8, h_7, hF⟩ := am_b1_el hF
        refine g_cVv (pc := 47) (k := 47) (As := []) (st := []) ky_X7_advance kl_X7_61 (s_X7_advance_47 (d := 1) (hPl) (Nat.le_refl _) h_7) rfl rfl rfl (hPl.lt (by decide)) (Nat.le_trans (by decide) hd) (Nat.le_of_ble_eq_true rfl) (Nat.le_refl _) (Nat.le_refl _) dX7_readOne_47 ?_
        refine g_iload_n (pc := 50) dX7_readOne_50 rfl rfl ?_
        refine g_if_eq (pc := 51) (tgt := 64) dX7_readOne_51 rfl (fun c_9 => ?_) (fun c_9 => ?_)
        · replace hF := am_yes c_9 hF
          refine g_aload_n (pc := 64) dX7_readOne_64 rfl rfl ?_
          refine g_iload_n (pc := 65) dX7_readOne_65 rfl rfl ?_
          refine g_iconst (pc := 66) (v := (1 : Int32)) dX7_readOne_66 rfl ?_
          refine g_iadd (pc := 67) dX7_readOne_67 ?_
          obtain ⟨r_11, I_12, h_10, hF⟩ := am_b2_el hF
          refine g_cVz (pc := 68) (k := 47) (As := [.int (a1 + (1 : Int32))]) (st := []) ky_X7_readBracket kl_X7_88 (hrec2 h_10) rfl rfl rfl (hPl.lt (by decide)) hD (Nat.le_of_ble_eq_true rfl) (Nat.le_refl _) (Nat.le_refl _) dX7_readOne_68 ?_
          intro z_13
          cases hF
          exact g_zret (pc := 71) rfl z_13 (Nat.le_refl _) (Nat.le_refl _) dX7_readOne_71 ⟨z_13, rfl, rfl, rfl, rfl⟩
        · replace hF := am_no c_9 hF
          refine g_aload_n (pc := 54) dX7_readOne_54 rfl rfl ?_
          refine g_iload_n (pc := 55) dX7_readOne_55 rfl rfl ?_
          refine g_iconst (pc := 56) (v := (1 : Int32)) dX7_readOne_56 rfl ?_
          refine g_iadd (pc := 57) dX7_readOne_57 ?_
          obtain ⟨r_15, I_16, h_14, hF⟩ := am_b2_el hF
          refine g_cVz (pc := 58) (k := 47) (As := [.int (a1 + (1 : Int32))]) (st := []) ky_X7_readDenied kl_X7_85 (hrec3 h_14) rfl rfl rfl (hPl.lt (by decide)) hD (Nat.le_of_ble_eq_true rfl) (Nat.le_refl _) (Nat.le_refl _) dX7_readOne_58 ?_
          intro z_17
          refine g_goto (pc := 61) (tgt := 71) dX7_readOne_61 rfl ?_
          cases hF
          exact g_zret (pc := 71) rfl z_17 (Nat.le_refl _) (Nat.le_refl _) dX7_readOne_71 ⟨z_17, rfl, rfl, rfl, rfl⟩
      · replace hF := am_no c_6 hF
        refine g_aload_n (pc := 40) dX7_readOne_40 rfl rfl ?_
        refine g_iconst (pc := 41) (v := (3 : Int32)) dX7_readOne_41 rfl ?_
        obtain ⟨r_19, I_20, h_18, hF⟩ := am_b2_el hF
        refine g_cVz (pc := 42) (k := 47) (As := [.int (3 : Int32)]) (st := []) ky_X7_refuse kl_X7_58 (s_X7_refuse_47 (d := 1) (hPl) (Nat.le_refl _) h_18) rfl rfl rfl (hPl.lt (by decide)) (Nat.le_trans (by decide) hd) (Nat.le_of_ble_eq_true rfl) (Nat.le_refl _) (Nat.le_refl _) dX7_readOne_42 ?_
        intro z_21
        cases hF
        exact g_zret (pc := 45) rfl z_21 (Nat.le_refl _) (Nat.le_refl _) dX7_readOne_45 ⟨z_21, rfl, rfl, rfl, rfl⟩
    · replace hF := am_yes c_5 hF
      refine g_aload_n (pc := 20) dX7_readOne_20 rfl rfl ?_
      refine g_getI (pc := 21) (k := 47) kf_X7_38.r rfl rfl (hPl.lt (by decide)) dX7_readOne_21 ?_
      refine g_bipush (pc := 24) (v := (40 : Int32)) dX7_readOne_24 rfl ?_
      refine g_icmp_eq (pc := 26) (tgt := 34) dX7_readOne_26 rfl (fun c_22 => ?_) (fun c_22 => ?_)
      · replace hF := am_yes c_22 hF
        refine g_iload_n (pc := 34) dX7_readOne_34 rfl rfl ?_
        refine g_bipush (pc := 35) (v := (8 : Int32)) dX7_readOne_35 rfl ?_
        refine g_icmp_lt (pc := 37) (tgt := 46) dX7_readOne_37 rfl (fun c_23 => ?_) (fun c_23 => ?_)
        · replace hF := am_yes c_23 hF
          refine g_aload_n (pc := 46) dX7_readOne_46 rfl rfl ?_
          obtain ⟨I_25, h_24, hF⟩ := am_b1_el hF
          refine g_cVv (pc := 47) (k := 47) (As := []) (st := []) ky_X7_advance kl_X7_61 (s_X7_advance_47 (d := 1) (hPl) (Nat.le_refl _) h_24) rfl rfl rfl (hPl.lt (by decide)) (Nat.le_trans (by decide) hd) (Nat.le_of_ble_eq_true rfl) (Nat.le_refl _) (Nat.le_refl _) dX7_readOne_47 ?_
          refine g_iload_n (pc := 50) dX7_readOne_50 rfl rfl ?_
          refine g_if_eq (pc := 51) (tgt := 64) dX7_readOne_51 rfl (fun c_26 => ?_) (fun c_26 => ?_)
          · replace hF := am_yes c_26 hF
            refine g_aload_n (pc := 64) dX7_readOne_64 rfl rfl ?_
            refine g_iload_n (pc := 65) dX7_readOne_65 rfl rfl ?_
            refine g_iconst (pc := 66) (v := (1 : Int32)) dX7_readOne_66 rfl ?_
            refine g_iadd (pc := 67) dX7_readOne_67 ?_
            obtain ⟨r_28, I_29, h_27, hF⟩ := am_b2_el hF
            refine g_cVz (pc := 68) (k := 47) (As := [.int (a1 + (1 : Int32))]) (st := []) ky_X7_readBracket kl_X7_88 (hrec2 h_27) rfl rfl rfl (hPl.lt (by decide)) hD (Nat.le_of_ble_eq_true rfl) (Nat.le_refl _) (Nat.le_refl _) dX7_readOne_68 ?_
            intro z_30
            cases hF
            exact g_zret (pc := 71) rfl z_30 (Nat.le_refl _) (Nat.le_refl _) dX7_readOne_71 ⟨z_30, rfl, rfl, rfl, rfl⟩
          · replace hF := am_no c_26 hF
            refine g_aload_n (pc := 54) dX7_readOne_54 rfl rfl ?_
            refine g_iload_n (pc := 55) dX7_readOne_55 rfl rfl ?_
            refine g_iconst (pc := 56) (v := (1 : Int32)) dX7_readOne_56 rfl ?_
            refine g_iadd (pc := 57) dX7_readOne_57 ?_
            obtain ⟨r_32, I_33, h_31, hF⟩ := am_b2_el hF
            refine g_cVz (pc := 58) (k := 47) (As := [.int (a1 + (1 : Int32))]) (st := []) ky_X7_readDenied kl_X7_85 (hrec3 h_31) rfl rfl rfl (hPl.lt (by decide)) hD (Nat.le_of_ble_eq_true rfl) (Nat.le_refl _) (Nat.le_refl _) dX7_readOne_58 ?_
            intro z_34
            refine g_goto (pc := 61) (tgt := 71) dX7_readOne_61 rfl ?_
            cases hF
            exact g_zret (pc := 71) rfl z_34 (Nat.le_refl _) (Nat.le_refl _) dX7_readOne_71 ⟨z_34, rfl, rfl, rfl, rfl⟩
        · replace hF := am_no c_23 hF
          refine g_aload_n (pc := 40) dX7_readOne_40 rfl rfl ?_
          refine g_iconst (pc := 41) (v := (3 : Int32)) dX7_readOne_41 rfl ?_
          obtain ⟨r_36, I_37, h_35, hF⟩ := am_b2_el hF
          refine g_cVz (pc := 42) (k := 47) (As := [.int (3 : Int32)]) (st := []) ky_X7_refuse kl_X7_58 (s_X7_refuse_47 (d := 1) (hPl) (Nat.le_refl _) h_35) rfl rfl rfl (hPl.lt (by decide)) (Nat.le_trans (by decide) hd) (Nat.le_of_ble_eq_true rfl) (Nat.le_refl _) (Nat.le_refl _) dX7_readOne_42 ?_
          intro z_38
          cases hF
          exact g_zret (pc := 45) rfl z_38 (Nat.le_refl _) (Nat.le_refl _) dX7_readOne_45 ⟨z_38, rfl, rfl, rfl, rfl⟩
      · replace hF := am_no c_22 hF
        refine g_aload_n (pc := 29) dX7_readOne_29 rfl rfl ?_
        obtain ⟨r_40, I_41, h_39, hF⟩ := am_b2_el hF
        refine g_cVz (pc := 30) (k := 47) (As := []) (st := []) ky_X7_readComparison kl_X7_81 (s_X7_readComparison_47 (d := 4) (hPl) (Nat.le_refl _) h_39) rfl rfl rfl (hPl.lt (by decide)) (Nat.le_trans (by decide) hd) (Nat.le_of_ble_eq_true rfl) (Nat.le_refl _) (Nat.le_refl _) dX7_readOne_30 ?_
        intro z_42
        cases hF
        exact g_zret (pc := 33) rfl z_42 (Nat.le_refl _) (Nat.le_refl _) dX7_readOne_33 ⟨z_42, rfl, rfl, rfl, rfl⟩
  clear hF
  have hF := hR_3
  clear hR_3
  refine g_icmp_ne (pc := 7) (tgt := 14) dX7_readOne_7 rfl (fun c_1 => ?_) (fun c_1 => ?_)
  · replace hF := am_no c_1 hF
    refine g_iconst (pc := 14) (v := (0 : Int32)) dX7_readOne_14 rfl ?_
    cases hF
    exact hJ_4
  · replace hF := am_yes c_1 hF
    refine g_iconst (pc := 10) (v := (1 : Int32)) dX7_readOne_10 rfl ?_
    refine g_goto (pc := 11) (tgt := 15) dX7_readOne_11 rfl ?_
    cases hF
    exact hJ_4
def G_X7_readAll_47 : Nat → Nat → am_IT → Int32 → Option (Int32 × am_IT)
  | 0, _, _, _ => none
  | n + 1, k, I, a1 => match k with
    | 0 => B_X7_readAll_47 (G_X7_readAll_47 n) I a1
    | 1 => B_X7_readAny_47 (G_X7_readAll_47 n) I a1
    | 2 => B_X7_readBracket_47 (G_X7_readAll_47 n) I a1
    | 3 => B_X7_readDenied_47 (G_X7_readAll_47 n) I a1
    | 4 => B_X7_readOne_47 (G_X7_readAll_47 n) I a1
    | _ => none
theorem sG_X7_readAll_47 {l : Launch} {N : Nat} {P : am_PT} (hPl : am_Pl 94 N P) : ∀ (n : Nat) {d : Nat}, 5 + n ≤ d → (∀ {I : am_IT} {a1 : Int32} {r : Int32} {I2 : am_IT}, G_X7_readAll_47 n 0 I a1 = some (r, I2) → am_C l d 0 0 mX7_readAll [.ref 47, .int a1] N P I (am_qz r N P I2)) ∧ (∀ {I : am_IT} {a1 : Int32} {r : Int32} {I2 : am_IT}, G_X7_readAll_47 n 1 I a1 = some (r, I2) → am_C l d 0 0 mX7_readAny [.ref 47, .int a1] N P I (am_qz r N P I2)) ∧ (∀ {I : am_IT} {a1 : Int32} {r : Int32} {I2 : am_IT}, G_X7_readAll_47 n 2 I a1 = some (r, I2) → am_C l d 0 0 mX7_readBracket [.ref 47, .int a1] N P I (am_qz r N P I2)) ∧ (∀ {I : am_IT} {a1 : Int32} {r : Int32} {I2 : am_IT}, G_X7_readAll_47 n 3 I a1 = some (r, I2) → am_C l d 0 0 mX7_readDenied [.ref 47, .int a1] N P I (am_qz r N P I2)) ∧ (∀ {I : am_IT} {a1 : Int32} {r : Int32} {I2 : am_IT}, G_X7_readAll_47 n 4 I a1 = some (r, I2) → am_C l d 0 0 mX7_readOne [.ref 47, .int a1] N P I (am_qz r N P I2))
  | 0, _, _ => ⟨fun h => (by cases h), fun h => (by cases h), fun h => (by cases h), fun h => (by cases h), fun h => (by cases h)⟩
  | n + 1, d, hd => by
    obtain ⟨q0, q1, q2, q3, q4⟩ := sG_X7_readAll_47 (l := l) hPl n (d := 5 + n) (Nat.le_refl _)
    exact ⟨fun h => sB_X7_readAll_47 hPl (by omega) (D := 5 + n) (by omega) q0 q1 q2 q3 q4 h, fun h => sB_X7_readAny_47 hPl (by omega) (D := 5 + n) (by omega) q0 q1 q2 q3 q4 h, fun h => sB_X7_readBracket_47 hPl (by omega) (D := 5 + n) (by omega) q0 q1 q2 q3 q4 h, fun h => sB_X7_readDenied_47 hPl (by omega) (D := 5 + n) (by omega) q0 q1 q2 q3 q4 h, fun h => sB_X7_readOne_47 hPl (by omega) (D := 5 + n) (by omega) q0 q1 q2 q3 q4 h⟩
def F_X7_readAll_47 (I : am_IT) (a1 : Int32) : Option (Int32 × am_IT) := G_X7_readAll_47 64 0 I a1
theorem s_X7_readAll_47 {l : Launch} {d N : Nat} {P : am_PT} (hPl : am_Pl 94 N P) (hd : 69 ≤ d) {I : am_IT} {a1 : Int32} {r : Int32} {I2 : am_IT} (hF : F_X7_readAll_47 I a1 = some (r, I2)) : am_C l d 0 0 mX7_readAll [.ref 47, .int a1] N P I (am_qz r N P I2) := (sG_X7_readAll_47 (l := l) hPl 64 (d := d) hd).1 hF
def F_X7_readAny_47 (I : am_IT) (a1 : Int32) : Option (Int32 × am_IT) := G_X7_readAll_47 64 1 I a1
theorem s_X7_readAny_47 {l : Launch} {d N : Nat} {P : am_PT} (hPl : am_Pl 94 N P) (hd : 69 ≤ d) {I : am_IT} {a1 : Int32} {r : Int32} {I2 : am_IT} (hF : F_X7_readAny_47 I a1 = some (r, I2)) : am_C l d 0 0 mX7_readAny [.ref 47, .int a1] N P I (am_qz r N P I2) := (sG_X7_readAll_47 (l := l) hPl 64 (d := d) hd).2.1 hF
def F_X7_readBracket_47 (I : am_IT) (a1 : Int32) : Option (Int32 × am_IT) := G_X7_readAll_47 64 2 I a1
theorem s_X7_readBracket_47 {l : Launch} {d N : Nat} {P : am_PT} (hPl : am_Pl 94 N P) (hd : 69 ≤ d) {I : am_IT} {a1 : Int32} {r : Int32} {I2 : am_IT} (hF : F_X7_readBracket_47 I a1 = some (r, I2)) : am_C l d 0 0 mX7_readBracket [.ref 47, .int a1] N P I (am_qz r N P I2) := (sG_X7_readAll_47 (l := l) hPl 64 (d := d) hd).2.2.1 hF
def F_X7_readDenied_47 (I : am_IT) (a1 : Int32) : Option (Int32 × am_IT) := G_X7_readAll_47 64 3 I a1
theorem s_X7_readDenied_47 {l : Launch} {d N : Nat} {P : am_PT} (hPl : am_Pl 94 N P) (hd : 69 ≤ d) {I : am_IT} {a1 : Int32} {r : Int32} {I2 : am_IT} (hF : F_X7_readDenied_47 I a1 = some (r, I2)) : am_C l d 0 0 mX7_readDenied [.ref 47, .int a1] N P I (am_qz r N P I2) := (sG_X7_readAll_47 (l := l) hPl 64 (d := d) hd).2.2.2.1 hF
def F_X7_readOne_47 (I : am_IT) (a1 : Int32) : Option (Int32 × am_IT) := G_X7_readAll_47 64 4 I a1
theorem s_X7_readOne_47 {l : Launch} {d N : Nat} {P : am_PT} (hPl : am_Pl 94 N P) (hd : 69 ≤ d) {I : am_IT} {a1 : Int32} {r : Int32} {I2 : am_IT} (hF : F_X7_readOne_47 I a1 = some (r, I2)) : am_C l d 0 0 mX7_readOne [.ref 47, .int a1] N P I (am_qz r N P I2) := (sG_X7_readAll_47 (l := l) hPl 64 (d := d) hd).2.2.2.2 hF
def F_X7_readLine_47 (I : am_IT) (a1 : Int32) : Option (Int32 × am_IT) := if (I 47 7) = (256 : Int32) then (if a1 < (16 : Int32) then (am_b1 (F_X7_advance_47 I) (fun (I_4 : am_IT) => am_let (I_4 47 7) (fun (l2_5 : Int32) => if l2_5 < (261 : Int32) then (am_b2 (F_X7_refuse_47 I_4 (1 : Int32)) (fun (r_8 : Int32) (I_9 : am_IT) => some (r_8, I_9))) else (if l2_5 ≤ (266 : Int32) then (am_b1 (F_X7_advance_47 I_4) (fun (I_13 : am_IT) => if (I_13 47 7) = (257 : Int32) then (am_b1 (F_X7_advance_47 I_13) (fun (I_25 : am_IT) => am_b2 (F_X7_readAny_47 I_25 (0 : Int32)) (fun (r_27 : Int32) (I_28 : am_IT) => if r_27 = 0 then (some ((0 : Int32), I_28)) else (if (I_28 47 7) = (59 : Int32) then (am_b1 (F_X7_advance_47 I_28) (fun (I_33 : am_IT) => am_b1 (F_X6_addLine_48 I_33 l2_5) (fun (I_35 : am_IT) => some ((1 : Int32), I_35)))) else (am_b2 (F_X7_refuse_47 I_28 (1 : Int32)) (fun (r_37 : Int32) (I_38 : am_IT) => some (r_37, I_38))))))) else (if (I_13 47 7) = (59 : Int32) then (am_b1 (F_X7_advance_47 I_13) (fun (I_17 : am_IT) => am_b1 (F_X6_addLine_48 I_17 l2_5) (fun (I_19 : am_IT) => some ((1 : Int32), I_19)))) else (am_b2 (F_X7_refuse_47 I_13 (1 : Int32)) (fun (r_21 : Int32) (I_22 : am_IT) => some (r_21, I_22)))))) else (am_b2 (F_X7_refuse_47 I_4 (1 : Int32)) (fun (r_41 : Int32) (I_42 : am_IT) => some (r_41, I_42))))))) else (am_b2 (F_X7_refuse_47 I (3 : Int32)) (fun (r_45 : Int32) (I_46 : am_IT) => some (r_45, I_46)))) else (am_b2 (F_X7_refuse_47 I (1 : Int32)) (fun (r_49 : Int32) (I_50 : am_IT) => some (r_49, I_50)))
set_option maxRecDepth 100000 in
set_option maxHeartbeats 4000000 in
theorem s_X7_readLine_47 {l : Launch} {d N : Nat} {P : am_PT} (hPl : am_Pl 94 N P) (hd : 70 ≤ d) {I : am_IT} {a1 : Int32} {r : Int32} {I2 : am_IT} (hF : F_X7_readLine_47 I a1 = some (r, I2)) : am_C l d 0 0 mX7_readLine [.ref 47, .int a1] N P I (am_qz r N P I2) := by
  refine am_body (sc := am_sc0) (n := 1) (by decide +kernel) (by decide) rfl ?_
  change G am_sc0 l d 0 0 mX7_readLine (am_qz r N P I2) 0 [.ref 47, .int a1, .null] [] N P I 0 0
  unfold F_X7_readLine_47 at hF
  refine g_aload_n (pc := 0) dX7_readLine_0 rfl rfl ?_
  refine g_getI (pc := 1) (k := 47) kf_X7_38.r rfl rfl (hPl.lt (by decide)) dX7_readLine_1 ?_
  refine g_sipush (pc := 4) (v := (256 : Int32)) dX7_readLine_4 rfl ?_
  refine g_icmp_eq (pc := 7) (tgt := 16) dX7_readLine_7 rfl (fun c_1 => ?_) (fun c_1 => ?_)
  · replace hF := am_yes c_1 hF
    refine g_iload_n (pc := 16) dX7_readLine_16 rfl rfl ?_
    refine g_bipush (pc := 17) (v := (16 : Int32)) dX7_readLine_17 rfl ?_
    refine g_icmp_lt (pc := 19) (tgt := 28) dX7_readLine_19 rfl (fun c_2 => ?_) (fun c_2 => ?_)
    · replace hF := am_yes c_2 hF
      refine g_aload_n (pc := 28) dX7_readLine_28 rfl rfl ?_
      obtain ⟨I_4, h_3, hF⟩ := am_b1_el hF
      refine g_cVv (pc := 29) (k := 47) (As := []) (st := []) ky_X7_advance kl_X7_61 (s_X7_advance_47 (d := 1) (hPl) (Nat.le_refl _) h_3) rfl rfl rfl (hPl.lt (by decide)) (Nat.le_trans (by decide) hd) (Nat.le_of_ble_eq_true rfl) (Nat.le_refl _) (Nat.le_refl _) dX7_readLine_29 ?_
      refine g_aload_n (pc := 32) dX7_readLine_32 rfl rfl ?_
      refine g_getI (pc := 33) (k := 47) kf_X7_38.r rfl rfl (hPl.lt (by decide)) dX7_readLine_33 ?_
      obtain ⟨l2_5, e_l2_5, hF⟩ := am_let_el hF
      refine n_istore_n (pc := 36) (ls2 := [.ref 47, .int a1, .int l2_5]) e_l2_5 rfl dX7_readLine_36 rfl (Nat.le_of_ble_eq_true rfl) ?_
      refine g_iload_n (pc := 37) dX7_readLine_37 rfl rfl ?_
      refine g_sipush (pc := 38) (v := (261 : Int32)) dX7_readLine_38 rfl ?_
      refine g_icmp_lt (pc := 41) (tgt := 51) dX7_readLine_41 rfl (fun c_6 => ?_) (fun c_6 => ?_)
      · replace hF := am_yes c_6 hF
        refine g_aload_n (pc := 51) dX7_readLine_51 rfl rfl ?_
        refine g_iconst (pc := 52) (v := (1 : Int32)) dX7_readLine_52 rfl ?_
        obtain ⟨r_8, I_9, h_7, hF⟩ := am_b2_el hF
        refine g_cVz (pc := 53) (k := 47) (As := [.int (1 : Int32)]) (st := []) ky_X7_refuse kl_X7_58 (s_X7_refuse_47 (d := 1) (hPl) (Nat.le_refl _) h_7) rfl rfl rfl (hPl.lt (by decide)) (Nat.le_trans (by decide) hd) (Nat.le_of_ble_eq_true rfl) (Nat.le_refl _) (Nat.le_refl _) dX7_readLine_53 ?_
        intro z_10
        cases hF
        exact g_zret (pc := 56) rfl z_10 (Nat.le_refl _) (Nat.le_refl _) dX7_readLine_56 ⟨z_10, rfl, rfl, rfl, rfl⟩
      · replace hF := am_no c_6 hF
        refine g_iload_n (pc := 44) dX7_readLine_44 rfl rfl ?_
        refine g_sipush (pc := 45) (v := (266 : Int32)) dX7_readLine_45 rfl ?_
        refine g_icmp_le (pc := 48) (tgt := 57) dX7_readLine_48 rfl (fun c_11 => ?_) (fun c_11 => ?_)
        · replace hF := am_yes c_11 hF
          refine g_aload_n (pc := 57) dX7_readLine_57 rfl rfl ?_
          obtain ⟨I_13, h_12, hF⟩ := am_b1_el hF
          refine g_cVv (pc := 58) (k := 47) (As := []) (st := []) ky_X7_advance kl_X7_61 (s_X7_advance_47 (d := 1) (hPl) (Nat.le_refl _) h_12) rfl rfl rfl (hPl.lt (by decide)) (Nat.le_trans (by decide) hd) (Nat.le_of_ble_eq_true rfl) (Nat.le_refl _) (Nat.le_refl _) dX7_readLine_58 ?_
          refine g_aload_n (pc := 61) dX7_readLine_61 rfl rfl ?_
          refine g_getI (pc := 62) (k := 47) kf_X7_38.r rfl rfl (hPl.lt (by decide)) dX7_readLine_62 ?_
          refine g_sipush (pc := 65) (v := (257 : Int32)) dX7_readLine_65 rfl ?_
          refine g_icmp_ne (pc := 68) (tgt := 85) dX7_readLine_68 rfl (fun c_14 => ?_) (fun c_14 => ?_)
          · replace hF := am_no c_14 hF
            refine g_aload_n (pc := 85) dX7_readLine_85 rfl rfl ?_
            refine g_getI (pc := 86) (k := 47) kf_X7_38.r rfl rfl (hPl.lt (by decide)) dX7_readLine_86 ?_
            refine g_bipush (pc := 89) (v := (59 : Int32)) dX7_readLine_89 rfl ?_
            refine g_icmp_eq (pc := 91) (tgt := 100) dX7_readLine_91 rfl (fun c_15 => ?_) (fun c_15 => ?_)
            · replace hF := am_yes c_15 hF
              refine g_aload_n (pc := 100) dX7_readLine_100 rfl rfl ?_
              obtain ⟨I_17, h_16, hF⟩ := am_b1_el hF
              refine g_cVv (pc := 101) (k := 47) (As := []) (st := []) ky_X7_advance kl_X7_61 (s_X7_advance_47 (d := 1) (hPl) (Nat.le_refl _) h_16) rfl rfl rfl (hPl.lt (by decide)) (Nat.le_trans (by decide) hd) (Nat.le_of_ble_eq_true rfl) (Nat.le_refl _) (Nat.le_refl _) dX7_readLine_101 ?_
              refine g_aload_n (pc := 104) dX7_readLine_104 rfl rfl ?_
              refine g_getR (pc := 105) (k := 47) (r := 48) kf_X7_12.r rfl rfl (hPl.get (by decide) rfl) (hPl.lt (by decide)) dX7_readLine_105 ?_
              refine g_iload_n (pc := 108) dX7_readLine_108 rfl rfl ?_
              obtain ⟨I_19, h_18, hF⟩ := am_b1_el hF
              refine g_cVv (pc := 109) (k := 48) (As := [.int l2_5]) (st := []) ky_X6_addLine kl_X7_67 (s_X6_addLine_48 (d := 1) (hPl) (Nat.le_refl _) h_18) rfl rfl rfl (hPl.lt (by decide)) (Nat.le_trans (by decide) hd) (Nat.le_of_ble_eq_true rfl) (Nat.le_refl _) (Nat.le_refl _) dX7_readLine_109 ?_
              refine g_iconst (pc := 112) (v := (1 : Int32)) dX7_readLine_112 rfl ?_
              cases hF
              exact g_zret (pc := 113) rfl (Or.inr rfl) (Nat.le_refl _) (Nat.le_refl _) dX7_readLine_113 ⟨(Or.inr rfl), rfl, rfl, rfl, rfl⟩
            · replace hF := am_no c_15 hF
              refine g_aload_n (pc := 94) dX7_readLine_94 rfl rfl ?_
              refine g_iconst (pc := 95) (v := (1 : Int32)) dX7_readLine_95 rfl ?_
              obtain ⟨r_21, I_22, h_20, hF⟩ := am_b2_el hF
              refine g_cVz (pc := 96) (k := 47) (As := [.int (1 : Int32)]) (st := []) ky_X7_refuse kl_X7_58 (s_X7_refuse_47 (d := 1) (hPl) (Nat.le_refl _) h_20) rfl rfl rfl (hPl.lt (by decide)) (Nat.le_trans (by decide) hd) (Nat.le_of_ble_eq_true rfl) (Nat.le_refl _) (Nat.le_refl _) dX7_readLine_96 ?_
              intro z_23
              cases hF
              exact g_zret (pc := 99) rfl z_23 (Nat.le_refl _) (Nat.le_refl _) dX7_readLine_99 ⟨z_23, rfl, rfl, rfl, rfl⟩
          · replace hF := am_yes c_14 hF
            refine g_aload_n (pc := 71) dX7_readLine_71 rfl rfl ?_
            obtain ⟨I_25, h_24, hF⟩ := am_b1_el hF
            refine g_cVv (pc := 72) (k := 47) (As := []) (st := []) ky_X7_advance kl_X7_61 (s_X7_advance_47 (d := 1) (hPl) (Nat.le_refl _) h_24) rfl rfl rfl (hPl.lt (by decide)) (Nat.le_trans (by decide) hd) (Nat.le_of_ble_eq_true rfl) (Nat.le_refl _) (Nat.le_refl _) dX7_readLine_72 ?_
            refine g_aload_n (pc := 75) dX7_readLine_75 rfl rfl ?_
            refine g_iconst (pc := 76) (v := (0 : Int32)) dX7_readLine_76 rfl ?_
            obtain ⟨r_27, I_28, h_26, hF⟩ := am_b2_el hF
            refine g_cVz (pc := 77) (k := 47) (As := [.int (0 : Int32)]) (st := []) ky_X7_readAny kl_X7_64 (s_X7_readAny_47 (d := 69) (hPl) (Nat.le_refl _) h_26) rfl rfl rfl (hPl.lt (by decide)) (Nat.le_trans (by decide) hd) (Nat.le_of_ble_eq_true rfl) (Nat.le_refl _) (Nat.le_refl _) dX7_readLine_77 ?_
            intro z_29
            refine g_if_ne (pc := 80) (tgt := 85) dX7_readLine_80 rfl (fun c_30 => ?_) (fun c_30 => ?_)
            · replace hF := am_no c_30 hF
              refine g_aload_n (pc := 85) dX7_readLine_85 rfl rfl ?_
              refine g_getI (pc := 86) (k := 47) kf_X7_38.r rfl rfl (hPl.lt (by decide)) dX7_readLine_86 ?_
              refine g_bipush (pc := 89) (v := (59 : Int32)) dX7_readLine_89 rfl ?_
              refine g_icmp_eq (pc := 91) (tgt := 100) dX7_readLine_91 rfl (fun c_31 => ?_) (fun c_31 => ?_)
              · replace hF := am_yes c_31 hF
                refine g_aload_n (pc := 100) dX7_readLine_100 rfl rfl ?_
                obtain ⟨I_33, h_32, hF⟩ := am_b1_el hF
                refine g_cVv (pc := 101) (k := 47) (As := []) (st := []) ky_X7_advance kl_X7_61 (s_X7_advance_47 (d := 1) (hPl) (Nat.le_refl _) h_32) rfl rfl rfl (hPl.lt (by decide)) (Nat.le_trans (by decide) hd) (Nat.le_of_ble_eq_true rfl) (Nat.le_refl _) (Nat.le_refl _) dX7_readLine_101 ?_
                refine g_aload_n (pc := 104) dX7_readLine_104 rfl rfl ?_
                refine g_getR (pc := 105) (k := 47) (r := 48) kf_X7_12.r rfl rfl (hPl.get (by decide) rfl) (hPl.lt (by decide)) dX7_readLine_105 ?_
                refine g_iload_n (pc := 108) dX7_readLine_108 rfl rfl ?_
                obtain ⟨I_35, h_34, hF⟩ := am_b1_el hF
                refine g_cVv (pc := 109) (k := 48) (As := [.int l2_5]) (st := []) ky_X6_addLine kl_X7_67 (s_X6_addLine_48 (d := 1) (hPl) (Nat.le_refl _) h_34) rfl rfl rfl (hPl.lt (by decide)) (Nat.le_trans (by decide) hd) (Nat.le_of_ble_eq_true rfl) (Nat.le_refl _) (Nat.le_refl _) dX7_readLine_109 ?_
                refine g_iconst (pc := 112) (v := (1 : Int32)) dX7_readLine_112 rfl ?_
                cases hF
                exact g_zret (pc := 113) rfl (Or.inr rfl) (Nat.le_refl _) (Nat.le_refl _) dX7_readLine_113 ⟨(Or.inr rfl), rfl, rfl, rfl, rfl⟩
              · replace hF := am_no c_31 hF
                refine g_aload_n (pc := 94) dX7_readLine_94 rfl rfl ?_
                refine g_iconst (pc := 95) (v := (1 : Int32)) dX7_readLine_95 rfl ?_
                obtain ⟨r_37, I_38, h_36, hF⟩ := am_b2_el hF
                refine g_cVz (pc := 96) (k := 47) (As := [.int (1 : Int32)]) (st := []) ky_X7_refuse kl_X7_58 (s_X7_refuse_47 (d := 1) (hPl) (Nat.le_refl _) h_36) rfl rfl rfl (hPl.lt (by decide)) (Nat.le_trans (by decide) hd) (Nat.le_of_ble_eq_true rfl) (Nat.le_refl _) (Nat.le_refl _) dX7_readLine_96 ?_
                intro z_39
                cases hF
                exact g_zret (pc := 99) rfl z_39 (Nat.le_refl _) (Nat.le_refl _) dX7_readLine_99 ⟨z_39, rfl, rfl, rfl, rfl⟩
            · replace hF := am_yes c_30 hF
              refine g_iconst (pc := 83) (v := (0 : Int32)) dX7_readLine_83 rfl ?_
              cases hF
              exact g_zret (pc := 84) rfl (Or.inl rfl) (Nat.le_refl _) (Nat.le_refl _) dX7_readLine_84 ⟨(Or.inl rfl), rfl, rfl, rfl, rfl⟩
        · replace hF := am_no c_11 hF
          refine g_aload_n (pc := 51) dX7_readLine_51 rfl rfl ?_
          refine g_iconst (pc := 52) (v := (1 : Int32)) dX7_readLine_52 rfl ?_
          obtain ⟨r_41, I_42, h_40, hF⟩ := am_b2_el hF
          refine g_cVz (pc := 53) (k := 47) (As := [.int (1 : Int32)]) (st := []) ky_X7_refuse kl_X7_58 (s_X7_refuse_47 (d := 1) (hPl) (Nat.le_refl _) h_40) rfl rfl rfl (hPl.lt (by decide)) (Nat.le_trans (by decide) hd) (Nat.le_of_ble_eq_true rfl) (Nat.le_refl _) (Nat.le_refl _) dX7_readLine_53 ?_
          intro z_43
          cases hF
          exact g_zret (pc := 56) rfl z_43 (Nat.le_refl _) (Nat.le_refl _) dX7_readLine_56 ⟨z_43, rfl, rfl, rfl, rfl⟩
    · replace hF := am_no c_2 hF
      refine g_aload_n (pc := 22) dX7_readLine_22 rfl rfl ?_
      refine g_iconst (pc := 23) (v := (3 : Int32)) dX7_readLine_23 rfl ?_
      obtain ⟨r_45, I_46, h_44, hF⟩ := am_b2_el hF
      refine g_cVz (pc := 24) (k := 47) (As := [.int (3 : Int32)]) (st := []) ky_X7_refuse kl_X7_58 (s_X7_refuse_47 (d := 1) (hPl) (Nat.le_refl _) h_44) rfl rfl rfl (hPl.lt (by decide)) (Nat.le_trans (by decide) hd) (Nat.le_of_ble_eq_true rfl) (Nat.le_refl _) (Nat.le_refl _) dX7_readLine_24 ?_
      intro z_47
      cases hF
      exact g_zret (pc := 27) rfl z_47 (Nat.le_refl _) (Nat.le_refl _) dX7_readLine_27 ⟨z_47, rfl, rfl, rfl, rfl⟩
  · replace hF := am_no c_1 hF
    refine g_aload_n (pc := 10) dX7_readLine_10 rfl rfl ?_
    refine g_iconst (pc := 11) (v := (1 : Int32)) dX7_readLine_11 rfl ?_
    obtain ⟨r_49, I_50, h_48, hF⟩ := am_b2_el hF
    refine g_cVz (pc := 12) (k := 47) (As := [.int (1 : Int32)]) (st := []) ky_X7_refuse kl_X7_58 (s_X7_refuse_47 (d := 1) (hPl) (Nat.le_refl _) h_48) rfl rfl rfl (hPl.lt (by decide)) (Nat.le_trans (by decide) hd) (Nat.le_of_ble_eq_true rfl) (Nat.le_refl _) (Nat.le_refl _) dX7_readLine_12 ?_
    intro z_51
    cases hF
    exact g_zret (pc := 15) rfl z_51 (Nat.le_refl _) (Nat.le_refl _) dX7_readLine_15 ⟨z_51, rfl, rfl, rfl, rfl⟩
def F_X7_read_47_54 (I : am_IT) (a2 : Int32) : Option (Int32 × am_IT) := am_let (up2 I 47 1 (0 : Int32)) (fun (I_1 : am_IT) => am_let (up2 I_1 47 2 (-1 : Int32)) (fun (I_2 : am_IT) => am_b1 (F_X6_clear_48 I_2) (fun (I_4 : am_IT) => am_b1 (F_X7_split_47_54 I_4 (if (if (400 : Int32) < (400 : Int32) then (400 : Int32) else (400 : Int32)) < a2 then (if (400 : Int32) < (400 : Int32) then (400 : Int32) else (400 : Int32)) else a2)) (fun (I_6 : am_IT) => am_let (up2 I_6 47 6 (0 : Int32)) (fun (I_7 : am_IT) => if am_ix (0 : Int32) 401 = true then (am_let (up2 I_7 47 7 (I_7 52 (0 : Int32).toNatClampNeg)) (fun (I_9 : am_IT) => am_lr (am_it am_fu (am_u2 (fun (l3_10 : Int32) (I_11 : am_IT) => if (16 : Int32) < l3_10 then (some (.inr (.inl (I_11)))) else (if (I_11 47 7) = (300 : Int32) then (some (.inr (.inr ((1 : Int32), I_11)))) else (am_b2 (F_X7_readLine_47 I_11 l3_10) (fun (r_21 : Int32) (I_22 : am_IT) => if r_21 = 0 then (some (.inr (.inr ((0 : Int32), I_22)))) else (am_let (l3_10 + (1 : Int32)) (fun (l3_25 : Int32) => some (.inl (l3_25, I_22))))))))) ((0 : Int32), I_9)) (fun (I_12 : am_IT) => some ((0 : Int32), I_12)))) else none)))))
set_option maxRecDepth 100000 in
set_option maxHeartbeats 4000000 in
theorem s_X7_read_47_54 {l : Launch} {d N : Nat} {P : am_PT} (hPl : am_Pl 94 N P) (hd : 71 ≤ d) {I : am_IT} {a2 : Int32} {r : Int32} {I2 : am_IT} (hF : F_X7_read_47_54 I a2 = some (r, I2)) : am_C l d 0 0 mX7_read [.ref 47, .ref 54, .int a2] N P I (am_qz r N P I2) := by
  refine am_body (sc := am_sc0) (n := 1) (by decide +kernel) (by decide) rfl ?_
  change G am_sc0 l d 0 0 mX7_read (am_qz r N P I2) 0 [.ref 47, .ref 54, .int a2, .null] [] N P I 0 0
  unfold F_X7_read_47_54 at hF
  refine g_aload_n (pc := 0) dX7_read_0 rfl rfl ?_
  refine g_iconst (pc := 1) (v := (0 : Int32)) dX7_read_1 rfl ?_
  obtain ⟨I_1, e_I_1, hF⟩ := am_let_el hF
  refine n_putI (pc := 2) (k := 47) e_I_1 kf_X7_18 rfl rfl (hPl.lt (by decide)) dX7_read_2 ?_
  refine g_aload_n (pc := 5) dX7_read_5 rfl rfl ?_
  refine g_iconst (pc := 6) (v := (-1 : Int32)) dX7_read_6 (by decide) ?_
  obtain ⟨I_2, e_I_2, hF⟩ := am_let_el hF
  refine n_putI (pc := 7) (k := 47) e_I_2 kf_X7_22 rfl rfl (hPl.lt (by decide)) dX7_read_7 ?_
  refine g_aload_n (pc := 10) dX7_read_10 rfl rfl ?_
  refine g_getR (pc := 11) (k := 47) (r := 48) kf_X7_12.r rfl rfl (hPl.get (by decide) rfl) (hPl.lt (by decide)) dX7_read_11 ?_
  obtain ⟨I_4, h_3, hF⟩ := am_b1_el hF
  refine g_cVv (pc := 14) (k := 48) (As := []) (st := []) ky_X6_clear kl_X7_41 (s_X6_clear_48 (d := 1) (hPl) (Nat.le_refl _) h_3) rfl rfl rfl (hPl.lt (by decide)) (Nat.le_trans (by decide) hd) (Nat.le_of_ble_eq_true rfl) (Nat.le_refl _) (Nat.le_refl _) dX7_read_14 ?_
  refine g_aload_n (pc := 17) dX7_read_17 rfl rfl ?_
  refine g_aload_n (pc := 18) dX7_read_18 rfl rfl ?_
  refine g_iload_n (pc := 19) dX7_read_19 rfl rfl ?_
  refine g_aload_n (pc := 20) dX7_read_20 rfl rfl ?_
  refine g_alen (pc := 21) (k := 54) (v := 400) rfl (hPl.lt (by decide)) rfl dX7_read_21 ?_
  refine g_sipush (pc := 22) (v := (400 : Int32)) dX7_read_22 rfl ?_
  refine g_mmin (pc := 25) kl_X7_44 kz_mins kz_mi kz_minc (Nat.le_trans (by decide) hd) (Nat.le_of_ble_eq_true rfl) (Nat.le_refl _) (Nat.le_refl _) dX7_read_25 ?_
  refine g_mmin (pc := 28) kl_X7_44 kz_mins kz_mi kz_minc (Nat.le_trans (by decide) hd) (Nat.le_of_ble_eq_true rfl) (Nat.le_refl _) (Nat.le_refl _) dX7_read_28 ?_
  obtain ⟨I_6, h_5, hF⟩ := am_b1_el hF
  refine g_cVv (pc := 31) (k := 47) (As := [.ref 54, .int (if (if (400 : Int32) < (400 : Int32) then (400 : Int32) else (400 : Int32)) < a2 then (if (400 : Int32) < (400 : Int32) then (400 : Int32) else (400 : Int32)) else a2)]) (st := []) ky_X7_split kl_X7_50 (s_X7_split_47_54 (d := 8) (hPl) (Nat.le_refl _) h_5) rfl rfl rfl (hPl.lt (by decide)) (Nat.le_trans (by decide) hd) (Nat.le_of_ble_eq_true rfl) (Nat.le_refl _) (Nat.le_refl _) dX7_read_31 ?_
  refine g_aload_n (pc := 34) dX7_read_34 rfl rfl ?_
  refine g_iconst (pc := 35) (v := (0 : Int32)) dX7_read_35 rfl ?_
  obtain ⟨I_7, e_I_7, hF⟩ := am_let_el hF
  refine n_putI (pc := 36) (k := 47) e_I_7 kf_X7_35 rfl rfl (hPl.lt (by decide)) dX7_read_36 ?_
  refine g_aload_n (pc := 39) dX7_read_39 rfl rfl ?_
  refine g_aload_n (pc := 40) dX7_read_40 rfl rfl ?_
  refine g_getR (pc := 41) (k := 47) (r := 52) kf_X7_25.r rfl rfl (hPl.get (by decide) rfl) (hPl.lt (by decide)) dX7_read_41 ?_
  refine g_iconst (pc := 44) (v := (0 : Int32)) dX7_read_44 rfl ?_
  obtain ⟨c_8, hF⟩ := am_gd hF
  refine g_iald (pc := 45) (k := 52) rfl (hPl.lt (by decide)) (am_ix_use c_8) dX7_read_45 ?_
  obtain ⟨I_9, e_I_9, hF⟩ := am_let_el hF
  refine n_putI (pc := 46) (k := 47) e_I_9 kf_X7_38 rfl rfl (hPl.lt (by decide)) dX7_read_46 ?_
  refine g_iconst (pc := 49) (v := (0 : Int32)) dX7_read_49 rfl ?_
  refine n_istore_n (pc := 50) (ls2 := [.ref 47, .ref 54, .int a2, .int (0 : Int32)]) rfl rfl dX7_read_50 rfl (Nat.le_of_ble_eq_true rfl) ?_
  obtain ⟨x_28, hL_16, hF⟩ := am_lr_el hF
  have hX_13 : ∀ (I_12 : am_IT), x_28 = .inl I_12 → G am_sc0 l d 0 0 mX7_read (am_qz r N P I2) 85 [.ref 47, .ref 54, .int a2, .null] [] N P I_12 0 0 := by
    intro I_12 q
    subst q
    refine g_iconst (pc := 85) (v := (0 : Int32)) dX7_read_85 rfl ?_
    cases hF
    exact g_zret (pc := 86) rfl (Or.inl rfl) (Nat.le_refl _) (Nat.le_refl _) dX7_read_86 ⟨(Or.inl rfl), rfl, rfl, rfl, rfl⟩
  have hZ_17 : ∀ y, x_28 = .inr y → y = _ := fun y q => by subst q; exact hF
  clear hF
  have hC := am_loop (C := fun x => G am_sc0 l d 0 0 mX7_read (am_qz r N P I2) 51 [.ref 47, .ref 54, .int a2, .int x.1] [] N P x.2 0 0) (by
    rintro ⟨l3_10, I_11⟩ rr hF ih_14 hE_15
    replace hF := am_u2_ap hF
    change G am_sc0 l d 0 0 mX7_read (am_qz r N P I2) 51 [.ref 47, .ref 54, .int a2, .int l3_10] [] N P I_11 0 0
    refine g_iload_n (pc := 51) dX7_read_51 rfl rfl ?_
    refine g_bipush (pc := 52) (v := (16 : Int32)) dX7_read_52 rfl ?_
    refine g_icmp_gt (pc := 54) (tgt := 85) dX7_read_54 rfl (fun c_18 => ?_) (fun c_18 => ?_)
    · replace hF := am_yes c_18 hF
      cases hF
      exact g_weak (hX_13 _ (hE_15 _ rfl).symm) ⟨Or.inr rfl, Or.inr rfl, Or.inr rfl, Or.inl rfl, trivial⟩
    · replace hF := am_no c_18 hF
      refine g_aload_n (pc := 57) dX7_read_57 rfl rfl ?_
      refine g_getI (pc := 58) (k := 47) kf_X7_38.r rfl rfl (hPl.lt (by decide)) dX7_read_58 ?_
      refine g_sipush (pc := 61) (v := (300 : Int32)) dX7_read_61 rfl ?_
      refine g_icmp_ne (pc := 64) (tgt := 69) dX7_read_64 rfl (fun c_19 => ?_) (fun c_19 => ?_)
      · replace hF := am_no c_19 hF
        refine g_aload_n (pc := 69) dX7_read_69 rfl rfl ?_
        refine g_iload_n (pc := 70) dX7_read_70 rfl rfl ?_
        obtain ⟨r_21, I_22, h_20, hF⟩ := am_b2_el hF
        refine g_cVz (pc := 71) (k := 47) (As := [.int l3_10]) (st := []) ky_X7_readLine kl_X7_54 (s_X7_readLine_47 (d := 70) (hPl) (Nat.le_refl _) h_20) rfl rfl rfl (hPl.lt (by decide)) (Nat.le_trans (by decide) hd) (Nat.le_of_ble_eq_true rfl) (Nat.le_refl _) (Nat.le_refl _) dX7_read_71 ?_
        intro z_23
        refine g_if_ne (pc := 74) (tgt := 79) dX7_read_74 rfl (fun c_24 => ?_) (fun c_24 => ?_)
        · replace hF := am_no c_24 hF
          obtain ⟨l3_25, e_l3_25, hF⟩ := am_let_el hF
          refine n_iinc (pc := 79) (ls2 := [.ref 47, .ref 54, .int a2, .int l3_25]) e_l3_25 rfl rfl rfl dX7_read_79 (Nat.le_of_ble_eq_true rfl) ?_
          refine g_goto (pc := 82) (tgt := 51) dX7_read_82 rfl ?_
          cases hF
          exact ih_14 (l3_25, I_22) rfl
        · replace hF := am_yes c_24 hF
          refine g_iconst (pc := 77) (v := (0 : Int32)) dX7_read_77 rfl ?_
          cases hF
          have q_26 := hZ_17 _ (hE_15 _ rfl).symm
          cases q_26
          exact g_zret (pc := 78) rfl (Or.inl rfl) (Nat.le_refl _) (Nat.le_refl _) dX7_read_78 ⟨(Or.inl rfl), rfl, rfl, rfl, rfl⟩
      · replace hF := am_yes c_19 hF
        refine g_iconst (pc := 67) (v := (1 : Int32)) dX7_read_67 rfl ?_
        cases hF
        have q_27 := hZ_17 _ (hE_15 _ rfl).symm
        cases q_27
        exact g_zret (pc := 68) rfl (Or.inr rfl) (Nat.le_refl _) (Nat.le_refl _) dX7_read_68 ⟨(Or.inr rfl), rfl, rfl, rfl, rfl⟩
    ) _ _ hL_16
  exact hC
def F_X6_copyFrom_11_48 (I : am_IT) : Option (am_IT) := am_let (up2 I 11 0 (I 48 0)) (fun (I_1 : am_IT) => am_let (up2 I_1 11 1 (I_1 48 1)) (fun (I_2 : am_IT) => if am_cpok (0 : Int32) (0 : Int32) (16 : Int32) 16 16 = true then (am_let (cpy2 I_2 49 12 (0 : Int32).toNatClampNeg (0 : Int32).toNatClampNeg (16 : Int32).toNatClampNeg) (fun (I_4 : am_IT) => if am_cpok (0 : Int32) (0 : Int32) (16 : Int32) 16 16 = true then (am_let (cpy2 I_4 50 13 (0 : Int32).toNatClampNeg (0 : Int32).toNatClampNeg (16 : Int32).toNatClampNeg) (fun (I_6 : am_IT) => if am_cpok (0 : Int32) (0 : Int32) (400 : Int32) 400 400 = true then (am_let (cpy2 I_6 51 14 (0 : Int32).toNatClampNeg (0 : Int32).toNatClampNeg (400 : Int32).toNatClampNeg) (fun (I_8 : am_IT) => some I_8)) else none)) else none)) else none))
set_option maxRecDepth 100000 in
set_option maxHeartbeats 4000000 in
theorem s_X6_copyFrom_11_48 {l : Launch} {d N : Nat} {P : am_PT} (hPl : am_Pl 94 N P) (hd : 2 ≤ d) {I : am_IT} {I2 : am_IT} (hF : F_X6_copyFrom_11_48 I = some (I2)) : am_C l d 0 0 mX6_copyFrom [.ref 11, .ref 48] N P I (am_qv N P I2) := by
  refine am_body (sc := am_sc0) (n := 0) (by decide +kernel) (by decide) rfl ?_
  change G am_sc0 l d 0 0 mX6_copyFrom (am_qv N P I2) 0 [.ref 11, .ref 48] [] N P I 0 0
  unfold F_X6_copyFrom_11_48 at hF
  refine g_aload_n (pc := 0) dX6_copyFrom_0 rfl rfl ?_
  refine g_aload_n (pc := 1) dX6_copyFrom_1 rfl rfl ?_
  refine g_getI (pc := 2) (k := 48) kf_X6_9.r rfl rfl (hPl.lt (by decide)) dX6_copyFrom_2 ?_
  obtain ⟨I_1, e_I_1, hF⟩ := am_let_el hF
  refine n_putI (pc := 5) (k := 11) e_I_1 kf_X6_9 rfl rfl (hPl.lt (by decide)) dX6_copyFrom_5 ?_
  refine g_aload_n (pc := 8) dX6_copyFrom_8 rfl rfl ?_
  refine g_aload_n (pc := 9) dX6_copyFrom_9 rfl rfl ?_
  refine g_getI (pc := 10) (k := 48) kf_X6_15.r rfl rfl (hPl.lt (by decide)) dX6_copyFrom_10 ?_
  obtain ⟨I_2, e_I_2, hF⟩ := am_let_el hF
  refine n_putI (pc := 13) (k := 11) e_I_2 kf_X6_15 rfl rfl (hPl.lt (by decide)) dX6_copyFrom_13 ?_
  refine g_aload_n (pc := 16) dX6_copyFrom_16 rfl rfl ?_
  refine g_getR (pc := 17) (k := 48) (r := 49) kf_X6_18.r rfl rfl (hPl.get (by decide) rfl) (hPl.lt (by decide)) dX6_copyFrom_17 ?_
  refine g_iconst (pc := 20) (v := (0 : Int32)) dX6_copyFrom_20 rfl ?_
  refine g_aload_n (pc := 21) dX6_copyFrom_21 rfl rfl ?_
  refine g_getR (pc := 22) (k := 11) (r := 12) kf_X6_18.r rfl rfl (hPl.get (by decide) rfl) (hPl.lt (by decide)) dX6_copyFrom_22 ?_
  refine g_iconst (pc := 25) (v := (0 : Int32)) dX6_copyFrom_25 rfl ?_
  refine g_aload_n (pc := 26) dX6_copyFrom_26 rfl rfl ?_
  refine g_getR (pc := 27) (k := 11) (r := 12) kf_X6_18.r rfl rfl (hPl.get (by decide) rfl) (hPl.lt (by decide)) dX6_copyFrom_27 ?_
  refine g_alen (pc := 30) (k := 12) (v := 16) rfl (hPl.lt (by decide)) rfl dX6_copyFrom_30 ?_
  obtain ⟨c_3, hF⟩ := am_gd hF
  obtain ⟨I_4, e_I_4, hF⟩ := am_let_el hF
  refine n_acopy (pc := 31) (a := 49) (b := 12) e_I_4 c_3 kl_X6_28 rfl rfl (hPl.lt (by decide)) (hPl.lt (by decide)) (Nat.le_trans (by decide) hd) (Nat.le_of_ble_eq_true rfl) dX6_copyFrom_31 ?_
  refine g_aload_n (pc := 34) dX6_copyFrom_34 rfl rfl ?_
  refine g_getR (pc := 35) (k := 48) (r := 50) kf_X6_22.r rfl rfl (hPl.get (by decide) rfl) (hPl.lt (by decide)) dX6_copyFrom_35 ?_
  refine g_iconst (pc := 38) (v := (0 : Int32)) dX6_copyFrom_38 rfl ?_
  refine g_aload_n (pc := 39) dX6_copyFrom_39 rfl rfl ?_
  refine g_getR (pc := 40) (k := 11) (r := 13) kf_X6_22.r rfl rfl (hPl.get (by decide) rfl) (hPl.lt (by decide)) dX6_copyFrom_40 ?_
  refine g_iconst (pc := 43) (v := (0 : Int32)) dX6_copyFrom_43 rfl ?_
  refine g_aload_n (pc := 44) dX6_copyFrom_44 rfl rfl ?_
  refine g_getR (pc := 45) (k := 11) (r := 13) kf_X6_22.r rfl rfl (hPl.get (by decide) rfl) (hPl.lt (by decide)) dX6_copyFrom_45 ?_
  refine g_alen (pc := 48) (k := 13) (v := 16) rfl (hPl.lt (by decide)) rfl dX6_copyFrom_48 ?_
  obtain ⟨c_5, hF⟩ := am_gd hF
  obtain ⟨I_6, e_I_6, hF⟩ := am_let_el hF
  refine n_acopy (pc := 49) (a := 50) (b := 13) e_I_6 c_5 kl_X6_28 rfl rfl (hPl.lt (by decide)) (hPl.lt (by decide)) (Nat.le_trans (by decide) hd) (Nat.le_of_ble_eq_true rfl) dX6_copyFrom_49 ?_
  refine g_aload_n (pc := 52) dX6_copyFrom_52 rfl rfl ?_
  refine g_getR (pc := 53) (k := 48) (r := 51) kf_X6_25.r rfl rfl (hPl.get (by decide) rfl) (hPl.lt (by decide)) dX6_copyFrom_53 ?_
  refine g_iconst (pc := 56) (v := (0 : Int32)) dX6_copyFrom_56 rfl ?_
  refine g_aload_n (pc := 57) dX6_copyFrom_57 rfl rfl ?_
  refine g_getR (pc := 58) (k := 11) (r := 14) kf_X6_25.r rfl rfl (hPl.get (by decide) rfl) (hPl.lt (by decide)) dX6_copyFrom_58 ?_
  refine g_iconst (pc := 61) (v := (0 : Int32)) dX6_copyFrom_61 rfl ?_
  refine g_aload_n (pc := 62) dX6_copyFrom_62 rfl rfl ?_
  refine g_getR (pc := 63) (k := 11) (r := 14) kf_X6_25.r rfl rfl (hPl.get (by decide) rfl) (hPl.lt (by decide)) dX6_copyFrom_63 ?_
  refine g_alen (pc := 66) (k := 14) (v := 400) rfl (hPl.lt (by decide)) rfl dX6_copyFrom_66 ?_
  obtain ⟨c_7, hF⟩ := am_gd hF
  obtain ⟨I_8, e_I_8, hF⟩ := am_let_el hF
  refine n_acopy (pc := 67) (a := 51) (b := 14) e_I_8 c_7 kl_X6_28 rfl rfl (hPl.lt (by decide)) (hPl.lt (by decide)) (Nat.le_trans (by decide) hd) (Nat.le_of_ble_eq_true rfl) dX6_copyFrom_67 ?_
  cases hF
  exact g_vret (pc := 70) rfl (Nat.le_refl _) (Nat.le_refl _) dX6_copyFrom_70 ⟨rfl, rfl, rfl, rfl⟩
def F_X11_text_0 (I : am_IT) : Option (Int32 × am_IT) := am_b2 (F_X7_read_47_54 I (I 0 9)) (fun (r_2 : Int32) (I_3 : am_IT) => am_let (up2 I_3 0 9 (0 : Int32)) (fun (I_5 : am_IT) => am_let (up2 I_5 0 10 (I_5 47 1)) (fun (I_6 : am_IT) => am_let (up2 I_6 0 11 (I_6 47 2)) (fun (I_7 : am_IT) => if r_2 = 0 then (some ((-1 : Int32), I_7)) else (am_b1 (F_X6_copyFrom_11_48 I_7) (fun (I_10 : am_IT) => some (I_10 11 0, I_10)))))))
set_option maxRecDepth 100000 in
set_option maxHeartbeats 4000000 in
theorem s_X11_text_0 {l : Launch} {d N : Nat} {P : am_PT} (hPl : am_Pl 94 N P) (hd : 72 ≤ d) {I : am_IT} {r : Int32} {I2 : am_IT} (hF : F_X11_text_0 I = some (r, I2)) : am_C l d 0 0 mX11_text [.ref 0] N P I (am_qi r N P I2) := by
  refine am_body (sc := am_sc0) (n := 1) (by decide +kernel) (by decide) rfl ?_
  change G am_sc0 l d 0 0 mX11_text (am_qi r N P I2) 0 [.ref 0, .null] [] N P I 0 0
  unfold F_X11_text_0 at hF
  refine g_aload_n (pc := 0) dX11_text_0 rfl rfl ?_
  refine g_getR (pc := 1) (k := 0) (r := 47) kf_X11_65.r rfl rfl (hPl.get (by decide) rfl) (hPl.lt (by decide)) dX11_text_1 ?_
  refine g_aload_n (pc := 4) dX11_text_4 rfl rfl ?_
  refine g_getR (pc := 5) (k := 0) (r := 54) kf_X11_69.r rfl rfl (hPl.get (by decide) rfl) (hPl.lt (by decide)) dX11_text_5 ?_
  refine g_aload_n (pc := 8) dX11_text_8 rfl rfl ?_
  refine g_getI (pc := 9) (k := 0) kf_X11_73.r rfl rfl (hPl.lt (by decide)) dX11_text_9 ?_
  obtain ⟨r_2, I_3, h_1, hF⟩ := am_b2_el hF
  refine g_cVz (pc := 12) (k := 47) (As := [.ref 54, .int (I 0 9)]) (st := []) ky_X7_read kl_X11_156 (s_X7_read_47_54 (d := 71) (hPl) (Nat.le_refl _) h_1) rfl rfl rfl (hPl.lt (by decide)) (Nat.le_trans (by decide) hd) (Nat.le_of_ble_eq_true rfl) (Nat.le_refl _) (Nat.le_refl _) dX11_text_12 ?_
  intro z_4
  refine n_istore_n (pc := 15) (ls2 := [.ref 0, .int r_2]) rfl rfl dX11_text_15 rfl (Nat.le_of_ble_eq_true rfl) ?_
  refine g_aload_n (pc := 16) dX11_text_16 rfl rfl ?_
  refine g_iconst (pc := 17) (v := (0 : Int32)) dX11_text_17 rfl ?_
  obtain ⟨I_5, e_I_5, hF⟩ := am_let_el hF
  refine n_putI (pc := 18) (k := 0) e_I_5 kf_X11_73 rfl rfl (hPl.lt (by decide)) dX11_text_18 ?_
  refine g_aload_n (pc := 21) dX11_text_21 rfl rfl ?_
  refine g_aload_n (pc := 22) dX11_text_22 rfl rfl ?_
  refine g_getR (pc := 23) (k := 0) (r := 47) kf_X11_65.r rfl rfl (hPl.get (by decide) rfl) (hPl.lt (by decide)) dX11_text_23 ?_
  refine g_getI (pc := 26) (k := 47) kf_X11_160.r rfl rfl (hPl.lt (by decide)) dX11_text_26 ?_
  obtain ⟨I_6, e_I_6, hF⟩ := am_let_el hF
  refine n_putI (pc := 29) (k := 0) e_I_6 kf_X11_77 rfl rfl (hPl.lt (by decide)) dX11_text_29 ?_
  refine g_aload_n (pc := 32) dX11_text_32 rfl rfl ?_
  refine g_aload_n (pc := 33) dX11_text_33 rfl rfl ?_
  refine g_getR (pc := 34) (k := 0) (r := 47) kf_X11_65.r rfl rfl (hPl.get (by decide) rfl) (hPl.lt (by decide)) dX11_text_34 ?_
  refine g_getI (pc := 37) (k := 47) kf_X11_161.r rfl rfl (hPl.lt (by decide)) dX11_text_37 ?_
  obtain ⟨I_7, e_I_7, hF⟩ := am_let_el hF
  refine n_putI (pc := 40) (k := 0) e_I_7 kf_X11_80 rfl rfl (hPl.lt (by decide)) dX11_text_40 ?_
  refine g_iload_n (pc := 43) dX11_text_43 rfl rfl ?_
  refine g_if_ne (pc := 44) (tgt := 49) dX11_text_44 rfl (fun c_8 => ?_) (fun c_8 => ?_)
  · replace hF := am_no c_8 hF
    refine g_aload_n (pc := 49) dX11_text_49 rfl rfl ?_
    refine g_getR (pc := 50) (k := 0) (r := 1) kf_X11_12.r rfl rfl (hPl.get (by decide) rfl) (hPl.lt (by decide)) dX11_text_50 ?_
    refine g_getR (pc := 53) (k := 1) (r := 11) kf_X11_162 rfl rfl (hPl.get (by decide) rfl) (hPl.lt (by decide)) dX11_text_53 ?_
    refine g_aload_n (pc := 56) dX11_text_56 rfl rfl ?_
    refine g_getR (pc := 57) (k := 0) (r := 47) kf_X11_65.r rfl rfl (hPl.get (by decide) rfl) (hPl.lt (by decide)) dX11_text_57 ?_
    refine g_getR (pc := 60) (k := 47) (r := 48) kf_X11_166 rfl rfl (hPl.get (by decide) rfl) (hPl.lt (by decide)) dX11_text_60 ?_
    obtain ⟨I_10, h_9, hF⟩ := am_b1_el hF
    refine g_cVv (pc := 63) (k := 11) (As := [.ref 48]) (st := []) ky_X6_copyFrom kl_X11_169 (s_X6_copyFrom_11_48 (d := 2) (hPl) (Nat.le_refl _) h_9) rfl rfl rfl (hPl.lt (by decide)) (Nat.le_trans (by decide) hd) (Nat.le_of_ble_eq_true rfl) (Nat.le_refl _) (Nat.le_refl _) dX11_text_63 ?_
    refine g_aload_n (pc := 66) dX11_text_66 rfl rfl ?_
    refine g_getR (pc := 67) (k := 0) (r := 1) kf_X11_12.r rfl rfl (hPl.get (by decide) rfl) (hPl.lt (by decide)) dX11_text_67 ?_
    refine g_getR (pc := 70) (k := 1) (r := 11) kf_X11_162 rfl rfl (hPl.get (by decide) rfl) (hPl.lt (by decide)) dX11_text_70 ?_
    refine g_getI (pc := 73) (k := 11) kf_X11_175.r rfl rfl (hPl.lt (by decide)) dX11_text_73 ?_
    cases hF
    exact g_iret (pc := 76) rfl (Nat.le_refl _) (Nat.le_refl _) dX11_text_76 ⟨rfl, rfl, rfl, rfl⟩
  · replace hF := am_yes c_8 hF
    refine g_iconst (pc := 47) (v := (-1 : Int32)) dX11_text_47 (by decide) ?_
    cases hF
    exact g_iret (pc := 48) rfl (Nat.le_refl _) (Nat.le_refl _) dX11_text_48 ⟨rfl, rfl, rfl, rfl⟩
def F_X11_fault_0 (I : am_IT) (a1 : Int32) : Option (Int32) := if a1 = 0 then (some (I 0 10)) else (if a1 = (1 : Int32) then (some (I 0 11)) else (some (-1 : Int32)))
set_option maxRecDepth 100000 in
set_option maxHeartbeats 4000000 in
theorem s_X11_fault_0 {l : Launch} {d N : Nat} {P : am_PT} (hPl : am_Pl 94 N P) (hd : 1 ≤ d) {I : am_IT} {a1 : Int32} {r : Int32} (hF : F_X11_fault_0 I a1 = some (r)) : am_C l d 0 0 mX11_fault [.ref 0, .int a1] N P I (am_qi r N P I) := by
  refine am_body (sc := am_sc0) (n := 0) (by decide +kernel) (by decide) rfl ?_
  change G am_sc0 l d 0 0 mX11_fault (am_qi r N P I) 0 [.ref 0, .int a1] [] N P I 0 0
  unfold F_X11_fault_0 at hF
  refine g_iload_n (pc := 0) dX11_fault_0 rfl rfl ?_
  refine g_if_ne (pc := 1) (tgt := 9) dX11_fault_1 rfl (fun c_1 => ?_) (fun c_1 => ?_)
  · replace hF := am_no c_1 hF
    refine g_iload_n (pc := 9) dX11_fault_9 rfl rfl ?_
    refine g_iconst (pc := 10) (v := (1 : Int32)) dX11_fault_10 rfl ?_
    refine g_icmp_ne (pc := 11) (tgt := 21) dX11_fault_11 rfl (fun c_2 => ?_) (fun c_2 => ?_)
    · replace hF := am_no c_2 hF
      refine g_iconst (pc := 21) (v := (-1 : Int32)) dX11_fault_21 (by decide) ?_
      cases hF
      exact g_iret (pc := 22) rfl (Nat.le_refl _) (Nat.le_refl _) dX11_fault_22 ⟨rfl, rfl, rfl, rfl⟩
    · replace hF := am_yes c_2 hF
      refine g_aload_n (pc := 14) dX11_fault_14 rfl rfl ?_
      refine g_getI (pc := 15) (k := 0) kf_X11_80.r rfl rfl (hPl.lt (by decide)) dX11_fault_15 ?_
      refine g_goto (pc := 18) (tgt := 22) dX11_fault_18 rfl ?_
      cases hF
      exact g_iret (pc := 22) rfl (Nat.le_refl _) (Nat.le_refl _) dX11_fault_22 ⟨rfl, rfl, rfl, rfl⟩
  · replace hF := am_yes c_1 hF
    refine g_aload_n (pc := 4) dX11_fault_4 rfl rfl ?_
    refine g_getI (pc := 5) (k := 0) kf_X11_77.r rfl rfl (hPl.lt (by decide)) dX11_fault_5 ?_
    cases hF
    exact g_iret (pc := 8) rfl (Nat.le_refl _) (Nat.le_refl _) dX11_fault_8 ⟨rfl, rfl, rfl, rfl⟩
def F_X8_measure_23 (I : am_IT) : Option (am_IT) := if am_cpok (0 : Int32) (0 : Int32) (56 : Int32) 56 56 = true then (am_let (cpy2 I 5 24 (0 : Int32).toNatClampNeg (0 : Int32).toNatClampNeg (56 : Int32).toNatClampNeg) (fun (I_2 : am_IT) => am_b1 (am_it am_fu (am_u2 (fun (l1_3 : Int32) (I_4 : am_IT) => if (I_4 1 5) ≤ l1_3 then (some (.inr (I_4))) else (am_let (l1_3 * (3 : Int32)) (fun (l2_12 : Int32) => if am_ix (l2_12 + (2 : Int32)) 60 = true then (am_let ((I_4 1 2) - (I_4 6 (l2_12 + (2 : Int32)).toNatClampNeg)) (fun (l3_14 : Int32) => if am_ix (l2_12 + (0 : Int32)) 60 = true then (if am_ix (I_4 6 (l2_12 + (0 : Int32)).toNatClampNeg) 56 = true then (if am_ix (l2_12 + (1 : Int32)) 60 = true then (if am_ix (I_4 6 (l2_12 + (0 : Int32)).toNatClampNeg) 56 = true then (am_let (up2 I_4 24 (I_4 6 (l2_12 + (0 : Int32)).toNatClampNeg).toNatClampNeg ((I_4 24 (I_4 6 (l2_12 + (0 : Int32)).toNatClampNeg).toNatClampNeg) - (l3_14 * (I_4 6 (l2_12 + (1 : Int32)).toNatClampNeg)))) (fun (I_19 : am_IT) => am_let (l1_3 + (1 : Int32)) (fun (l1_20 : Int32) => some (.inl (l1_20, I_19))))) else none) else none) else none) else none)) else none)))) ((0 : Int32), I_2)) (fun (I_5 : am_IT) => am_b1 (am_it am_fu (am_u2 (fun (l1_21 : Int32) (I_22 : am_IT) => if (56 : Int32) ≤ l1_21 then (some (.inr (I_22))) else (if am_ix l1_21 56 = true then (if am_ix l1_21 56 = true then (am_let (up2 I_22 24 l1_21.toNatClampNeg (if (I_22 24 l1_21.toNatClampNeg) < (0 : Int32) then (0 : Int32) else (I_22 24 l1_21.toNatClampNeg))) (fun (I_32 : am_IT) => am_let (l1_21 + (1 : Int32)) (fun (l1_33 : Int32) => some (.inl (l1_33, I_32))))) else none) else none))) ((0 : Int32), I_5)) (fun (I_23 : am_IT) => some I_23)))) else none
set_option maxRecDepth 100000 in
set_option maxHeartbeats 4000000 in
theorem s_X8_measure_23 {l : Launch} {d N : Nat} {P : am_PT} (hPl : am_Pl 94 N P) (hd : 2 ≤ d) {I : am_IT} {I2 : am_IT} (hF : F_X8_measure_23 I = some (I2)) : am_C l d 0 0 mX8_measure [.ref 23] N P I (am_qv N P I2) := by
  refine am_body (sc := am_sc0) (n := 3) (by decide +kernel) (by decide) rfl ?_
  change G am_sc0 l d 0 0 mX8_measure (am_qv N P I2) 0 [.ref 23, .null, .null, .null] [] N P I 0 0
  unfold F_X8_measure_23 at hF
  refine g_aload_n (pc := 0) dX8_measure_0 rfl rfl ?_
  refine g_getR (pc := 1) (k := 23) (r := 1) kf_X8_15.r rfl rfl (hPl.get (by decide) rfl) (hPl.lt (by decide)) dX8_measure_1 ?_
  refine g_getR (pc := 4) (k := 1) (r := 5) kf_X8_19 rfl rfl (hPl.get (by decide) rfl) (hPl.lt (by decide)) dX8_measure_4 ?_
  refine g_iconst (pc := 7) (v := (0 : Int32)) dX8_measure_7 rfl ?_
  refine g_aload_n (pc := 8) dX8_measure_8 rfl rfl ?_
  refine g_getR (pc := 9) (k := 23) (r := 24) kf_X8_9.r rfl rfl (hPl.get (by decide) rfl) (hPl.lt (by decide)) dX8_measure_9 ?_
  refine g_iconst (pc := 12) (v := (0 : Int32)) dX8_measure_12 rfl ?_
  refine g_aload_n (pc := 13) dX8_measure_13 rfl rfl ?_
  refine g_getR (pc := 14) (k := 23) (r := 24) kf_X8_9.r rfl rfl (hPl.get (by decide) rfl) (hPl.lt (by decide)) dX8_measure_14 ?_
  refine g_alen (pc := 17) (k := 24) (v := 56) rfl (hPl.lt (by decide)) rfl dX8_measure_17 ?_
  obtain ⟨c_1, hF⟩ := am_gd hF
  obtain ⟨I_2, e_I_2, hF⟩ := am_let_el hF
  refine n_acopy (pc := 18) (a := 5) (b := 24) e_I_2 c_1 kl_X8_24 rfl rfl (hPl.lt (by decide)) (hPl.lt (by decide)) (Nat.le_trans (by decide) hd) (Nat.le_of_ble_eq_true rfl) dX8_measure_18 ?_
  refine g_iconst (pc := 21) (v := (0 : Int32)) dX8_measure_21 rfl ?_
  refine n_istore_n (pc := 22) (ls2 := [.ref 23, .int (0 : Int32), .null, .null]) rfl rfl dX8_measure_22 rfl (Nat.le_of_ble_eq_true rfl) ?_
  obtain ⟨I_5, hL_9, hF⟩ := am_b1_el hF
  have hX_6 : G am_sc0 l d 0 0 mX8_measure (am_qv N P I2) 96 [.ref 23, .null, .null, .null] [] N P I_5 0 0 := by
    refine g_iconst (pc := 96) (v := (0 : Int32)) dX8_measure_96 rfl ?_
    refine n_istore_n (pc := 97) (ls2 := [.ref 23, .int (0 : Int32), .null, .null]) rfl rfl dX8_measure_97 rfl (Nat.le_of_ble_eq_true rfl) ?_
    obtain ⟨I_23, hL_27, hF⟩ := am_b1_el hF
    have hX_24 : G am_sc0 l d 0 0 mX8_measure (am_qv N P I2) 129 [.ref 23, .null, .null, .null] [] N P I_23 0 0 := by
      cases hF
      exact g_vret (pc := 129) rfl (Nat.le_refl _) (Nat.le_refl _) dX8_measure_129 ⟨rfl, rfl, rfl, rfl⟩
    clear hF
    have hC := am_loop (C := fun x => G am_sc0 l d 0 0 mX8_measure (am_qv N P I2) 98 [.ref 23, .int x.1, .null, .null] [] N P x.2 0 0) (by
      rintro ⟨l1_21, I_22⟩ rr hF ih_25 hE_26
      replace hF := am_u2_ap hF
      change G am_sc0 l d 0 0 mX8_measure (am_qv N P I2) 98 [.ref 23, .int l1_21, .null, .null] [] N P I_22 0 0
      refine g_iload_n (pc := 98) dX8_measure_98 rfl rfl ?_
      refine g_aload_n (pc := 99) dX8_measure_99 rfl rfl ?_
      refine g_getR (pc := 100) (k := 23) (r := 24) kf_X8_9.r rfl rfl (hPl.get (by decide) rfl) (hPl.lt (by decide)) dX8_measure_100 ?_
      refine g_alen (pc := 103) (k := 24) (v := 56) rfl (hPl.lt (by decide)) rfl dX8_measure_103 ?_
      refine g_icmp_ge (pc := 104) (tgt := 129) dX8_measure_104 rfl (fun c_29 => ?_) (fun c_29 => ?_)
      · replace hF := am_yes c_29 hF
        cases hF
        cases hE_26 _ rfl
        exact g_weak hX_24 ⟨Or.inr rfl, Or.inl rfl, Or.inl rfl, Or.inl rfl, trivial⟩
      · replace hF := am_no c_29 hF
        refine g_aload_n (pc := 107) dX8_measure_107 rfl rfl ?_
        refine g_getR (pc := 108) (k := 23) (r := 24) kf_X8_9.r rfl rfl (hPl.get (by decide) rfl) (hPl.lt (by decide)) dX8_measure_108 ?_
        refine g_iload_n (pc := 111) dX8_measure_111 rfl rfl ?_
        refine g_aload_n (pc := 112) dX8_measure_112 rfl rfl ?_
        refine g_getR (pc := 113) (k := 23) (r := 24) kf_X8_9.r rfl rfl (hPl.get (by decide) rfl) (hPl.lt (by decide)) dX8_measure_113 ?_
        refine g_iload_n (pc := 116) dX8_measure_116 rfl rfl ?_
        obtain ⟨c_30, hF⟩ := am_gd hF
        refine g_iald (pc := 117) (k := 24) rfl (hPl.lt (by decide)) (am_ix_use c_30) dX8_measure_117 ?_
        refine g_iconst (pc := 118) (v := (0 : Int32)) dX8_measure_118 rfl ?_
        refine g_mmax (pc := 119) kl_X8_40 kz_maxs kz_mi kz_maxc (Nat.le_trans (by decide) hd) (Nat.le_of_ble_eq_true rfl) (Nat.le_refl _) (Nat.le_refl _) dX8_measure_119 ?_
        obtain ⟨c_31, hF⟩ := am_gd hF
        obtain ⟨I_32, e_I_32, hF⟩ := am_let_el hF
        refine n_iast (pc := 122) (k := 24) e_I_32 rfl (hPl.lt (by decide)) (am_ix_use c_31) dX8_measure_122 ?_
        obtain ⟨l1_33, e_l1_33, hF⟩ := am_let_el hF
        refine n_iinc (pc := 123) (ls2 := [.ref 23, .int l1_33, .null, .null]) e_l1_33 rfl rfl rfl dX8_measure_123 (Nat.le_of_ble_eq_true rfl) ?_
        refine g_goto (pc := 126) (tgt := 98) dX8_measure_126 rfl ?_
        cases hF
        exact ih_25 (l1_33, I_32) rfl
      ) _ _ hL_27
    exact hC
  clear hF
  have hC := am_loop (C := fun x => G am_sc0 l d 0 0 mX8_measure (am_qv N P I2) 23 [.ref 23, .int x.1, .null, .null] [] N P x.2 0 0) (by
    rintro ⟨l1_3, I_4⟩ rr hF ih_7 hE_8
    replace hF := am_u2_ap hF
    change G am_sc0 l d 0 0 mX8_measure (am_qv N P I2) 23 [.ref 23, .int l1_3, .null, .null] [] N P I_4 0 0
    refine g_iload_n (pc := 23) dX8_measure_23 rfl rfl ?_
    refine g_aload_n (pc := 24) dX8_measure_24 rfl rfl ?_
    refine g_getR (pc := 25) (k := 23) (r := 1) kf_X8_15.r rfl rfl (hPl.get (by decide) rfl) (hPl.lt (by decide)) dX8_measure_25 ?_
    refine g_getI (pc := 28) (k := 1) kf_X8_30.r rfl rfl (hPl.lt (by decide)) dX8_measure_28 ?_
    refine g_icmp_ge (pc := 31) (tgt := 96) dX8_measure_31 rfl (fun c_11 => ?_) (fun c_11 => ?_)
    · replace hF := am_yes c_11 hF
      cases hF
      cases hE_8 _ rfl
      exact g_weak hX_6 ⟨Or.inr rfl, Or.inl rfl, Or.inl rfl, Or.inl rfl, trivial⟩
    · replace hF := am_no c_11 hF
      refine g_iload_n (pc := 34) dX8_measure_34 rfl rfl ?_
      refine g_iconst (pc := 35) (v := (3 : Int32)) dX8_measure_35 rfl ?_
      refine g_imul (pc := 36) dX8_measure_36 ?_
      obtain ⟨l2_12, e_l2_12, hF⟩ := am_let_el hF
      refine n_istore_n (pc := 37) (ls2 := [.ref 23, .int l1_3, .int l2_12, .null]) e_l2_12 rfl dX8_measure_37 rfl (Nat.le_of_ble_eq_true rfl) ?_
      refine g_aload_n (pc := 38) dX8_measure_38 rfl rfl ?_
      refine g_getR (pc := 39) (k := 23) (r := 1) kf_X8_15.r rfl rfl (hPl.get (by decide) rfl) (hPl.lt (by decide)) dX8_measure_39 ?_
      refine g_getI (pc := 42) (k := 1) kf_X8_34.r rfl rfl (hPl.lt (by decide)) dX8_measure_42 ?_
      refine g_aload_n (pc := 45) dX8_measure_45 rfl rfl ?_
      refine g_getR (pc := 46) (k := 23) (r := 1) kf_X8_15.r rfl rfl (hPl.get (by decide) rfl) (hPl.lt (by decide)) dX8_measure_46 ?_
      refine g_getR (pc := 49) (k := 1) (r := 6) kf_X8_37 rfl rfl (hPl.get (by decide) rfl) (hPl.lt (by decide)) dX8_measure_49 ?_
      refine g_iload_n (pc := 52) dX8_measure_52 rfl rfl ?_
      refine g_iconst (pc := 53) (v := (2 : Int32)) dX8_measure_53 rfl ?_
      refine g_iadd (pc := 54) dX8_measure_54 ?_
      obtain ⟨c_13, hF⟩ := am_gd hF
      refine g_iald (pc := 55) (k := 6) rfl (hPl.lt (by decide)) (am_ix_use c_13) dX8_measure_55 ?_
      refine g_isub (pc := 56) dX8_measure_56 ?_
      obtain ⟨l3_14, e_l3_14, hF⟩ := am_let_el hF
      refine n_istore_n (pc := 57) (ls2 := [.ref 23, .int l1_3, .int l2_12, .int l3_14]) e_l3_14 rfl dX8_measure_57 rfl (Nat.le_of_ble_eq_true rfl) ?_
      refine g_aload_n (pc := 58) dX8_measure_58 rfl rfl ?_
      refine g_getR (pc := 59) (k := 23) (r := 24) kf_X8_9.r rfl rfl (hPl.get (by decide) rfl) (hPl.lt (by decide)) dX8_measure_59 ?_
      refine g_aload_n (pc := 62) dX8_measure_62 rfl rfl ?_
      refine g_getR (pc := 63) (k := 23) (r := 1) kf_X8_15.r rfl rfl (hPl.get (by decide) rfl) (hPl.lt (by decide)) dX8_measure_63 ?_
      refine g_getR (pc := 66) (k := 1) (r := 6) kf_X8_37 rfl rfl (hPl.get (by decide) rfl) (hPl.lt (by decide)) dX8_measure_66 ?_
      refine g_iload_n (pc := 69) dX8_measure_69 rfl rfl ?_
      refine g_iconst (pc := 70) (v := (0 : Int32)) dX8_measure_70 rfl ?_
      refine g_iadd (pc := 71) dX8_measure_71 ?_
      obtain ⟨c_15, hF⟩ := am_gd hF
      refine g_iald (pc := 72) (k := 6) rfl (hPl.lt (by decide)) (am_ix_use c_15) dX8_measure_72 ?_
      refine g_dup2 (pc := 73) dX8_measure_73 ?_
      obtain ⟨c_16, hF⟩ := am_gd hF
      refine g_iald (pc := 74) (k := 24) rfl (hPl.lt (by decide)) (am_ix_use c_16) dX8_measure_74 ?_
      refine g_iload_n (pc := 75) dX8_measure_75 rfl rfl ?_
      refine g_aload_n (pc := 76) dX8_measure_76 rfl rfl ?_
      refine g_getR (pc := 77) (k := 23) (r := 1) kf_X8_15.r rfl rfl (hPl.get (by decide) rfl) (hPl.lt (by decide)) dX8_measure_77 ?_
      refine g_getR (pc := 80) (k := 1) (r := 6) kf_X8_37 rfl rfl (hPl.get (by decide) rfl) (hPl.lt (by decide)) dX8_measure_80 ?_
      refine g_iload_n (pc := 83) dX8_measure_83 rfl rfl ?_
      refine g_iconst (pc := 84) (v := (1 : Int32)) dX8_measure_84 rfl ?_
      refine g_iadd (pc := 85) dX8_measure_85 ?_
      obtain ⟨c_17, hF⟩ := am_gd hF
      refine g_iald (pc := 86) (k := 6) rfl (hPl.lt (by decide)) (am_ix_use c_17) dX8_measure_86 ?_
      refine g_imul (pc := 87) dX8_measure_87 ?_
      refine g_isub (pc := 88) dX8_measure_88 ?_
      obtain ⟨c_18, hF⟩ := am_gd hF
      obtain ⟨I_19, e_I_19, hF⟩ := am_let_el hF
      refine n_iast (pc := 89) (k := 24) e_I_19 rfl (hPl.lt (by decide)) (am_ix_use c_18) dX8_measure_89 ?_
      obtain ⟨l1_20, e_l1_20, hF⟩ := am_let_el hF
      refine n_iinc (pc := 90) (ls2 := [.ref 23, .int l1_20, .int l2_12, .int l3_14]) e_l1_20 rfl rfl rfl dX8_measure_90 (Nat.le_of_ble_eq_true rfl) ?_
      refine g_goto (pc := 93) (tgt := 23) dX8_measure_93 rfl ?_
      cases hF
      exact g_weak (ih_7 (l1_20, I_19) rfl) ⟨Or.inr rfl, Or.inr rfl, Or.inl rfl, Or.inl rfl, trivial⟩
    ) _ _ hL_9
  exact hC
def F_X8_yardsOf_23 (I : am_IT) (a1 : Int32) (a2 : Int32) : Option (Int32) := if am_ix a1 7 = true then (if am_ix (((I 4 a1.toNatClampNeg) * (7 : Int32)) + a2) 56 = true then (some (I 24 (((I 4 a1.toNatClampNeg) * (7 : Int32)) + a2).toNatClampNeg)) else none) else none
set_option maxRecDepth 100000 in
set_option maxHeartbeats 4000000 in
theorem s_X8_yardsOf_23 {l : Launch} {d N : Nat} {P : am_PT} (hPl : am_Pl 94 N P) (hd : 1 ≤ d) {I : am_IT} {a1 : Int32} {a2 : Int32} {r : Int32} (hF : F_X8_yardsOf_23 I a1 a2 = some (r)) : am_C l d 0 0 mX8_yardsOf [.ref 23, .int a1, .int a2] N P I (am_qi r N P I) := by
  refine am_body (sc := am_sc0) (n := 0) (by decide +kernel) (by decide) rfl ?_
  change G am_sc0 l d 0 0 mX8_yardsOf (am_qi r N P I) 0 [.ref 23, .int a1, .int a2] [] N P I 0 0
  unfold F_X8_yardsOf_23 at hF
  refine g_aload_n (pc := 0) dX8_yardsOf_0 rfl rfl ?_
  refine g_getR (pc := 1) (k := 23) (r := 24) kf_X8_9.r rfl rfl (hPl.get (by decide) rfl) (hPl.lt (by decide)) dX8_yardsOf_1 ?_
  refine g_aload_n (pc := 4) dX8_yardsOf_4 rfl rfl ?_
  refine g_getR (pc := 5) (k := 23) (r := 1) kf_X8_15.r rfl rfl (hPl.get (by decide) rfl) (hPl.lt (by decide)) dX8_yardsOf_5 ?_
  refine g_getR (pc := 8) (k := 1) (r := 4) kf_X8_46 rfl rfl (hPl.get (by decide) rfl) (hPl.lt (by decide)) dX8_yardsOf_8 ?_
  refine g_iload_n (pc := 11) dX8_yardsOf_11 rfl rfl ?_
  obtain ⟨c_1, hF⟩ := am_gd hF
  refine g_iald (pc := 12) (k := 4) rfl (hPl.lt (by decide)) (am_ix_use c_1) dX8_yardsOf_12 ?_
  refine g_bipush (pc := 13) (v := (7 : Int32)) dX8_yardsOf_13 rfl ?_
  refine g_imul (pc := 15) dX8_yardsOf_15 ?_
  refine g_iload_n (pc := 16) dX8_yardsOf_16 rfl rfl ?_
  refine g_iadd (pc := 17) dX8_yardsOf_17 ?_
  obtain ⟨c_2, hF⟩ := am_gd hF
  refine g_iald (pc := 18) (k := 24) rfl (hPl.lt (by decide)) (am_ix_use c_2) dX8_yardsOf_18 ?_
  cases hF
  exact g_iret (pc := 19) rfl (Nat.le_refl _) (Nat.le_refl _) dX8_yardsOf_19 ⟨rfl, rfl, rfl, rfl⟩
def F_X11_sees_0 (I : am_IT) (a1 : Int32) (a2 : Int32) : Option (Int32 × am_IT) := am_b1 (F_X9_hasPerson_1 I a1) (fun (r_2 : Int32) => if r_2 = 0 then (some ((-1 : Int32), I)) else (am_b1 (F_X9_hasWall_1 I a2) (fun (r_6 : Int32) => if r_6 = 0 then (some ((-1 : Int32), I)) else (am_b1 (F_X8_measure_23 I) (fun (I_10 : am_IT) => am_b1 (F_X8_yardsOf_23 I_10 a1 a2) (fun (r_12 : Int32) => some (r_12, I_10)))))))
set_option maxRecDepth 100000 in
set_option maxHeartbeats 4000000 in
theorem s_X11_sees_0 {l : Launch} {d N : Nat} {P : am_PT} (hPl : am_Pl 94 N P) (hd : 3 ≤ d) {I : am_IT} {a1 : Int32} {a2 : Int32} {r : Int32} {I2 : am_IT} (hF : F_X11_sees_0 I a1 a2 = some (r, I2)) : am_C l d 0 0 mX11_sees [.ref 0, .int a1, .int a2] N P I (am_qi r N P I2) := by
  refine am_body (sc := am_sc0) (n := 0) (by decide +kernel) (by decide) rfl ?_
  change G am_sc0 l d 0 0 mX11_sees (am_qi r N P I2) 0 [.ref 0, .int a1, .int a2] [] N P I 0 0
  unfold F_X11_sees_0 at hF
  refine g_aload_n (pc := 0) dX11_sees_0 rfl rfl ?_
  refine g_getR (pc := 1) (k := 0) (r := 1) kf_X11_12.r rfl rfl (hPl.get (by decide) rfl) (hPl.lt (by decide)) dX11_sees_1 ?_
  refine g_iload_n (pc := 4) dX11_sees_4 rfl rfl ?_
  obtain ⟨r_2, h_1, hF⟩ := am_b1_el hF
  refine g_cVz (pc := 5) (k := 1) (As := [.int a1]) (st := []) ky_X9_hasPerson kl_X11_123 (s_X9_hasPerson_1 (d := 1) (hPl) (Nat.le_refl _) h_1) rfl rfl rfl (hPl.lt (by decide)) (Nat.le_trans (by decide) hd) (Nat.le_of_ble_eq_true rfl) (Nat.le_refl _) (Nat.le_refl _) dX11_sees_5 ?_
  intro z_3
  refine g_if_eq (pc := 8) (tgt := 22) dX11_sees_8 rfl (fun c_4 => ?_) (fun c_4 => ?_)
  · replace hF := am_yes c_4 hF
    refine g_iconst (pc := 22) (v := (-1 : Int32)) dX11_sees_22 (by decide) ?_
    cases hF
    exact g_iret (pc := 23) rfl (Nat.le_refl _) (Nat.le_refl _) dX11_sees_23 ⟨rfl, rfl, rfl, rfl⟩
  · replace hF := am_no c_4 hF
    refine g_aload_n (pc := 11) dX11_sees_11 rfl rfl ?_
    refine g_getR (pc := 12) (k := 0) (r := 1) kf_X11_12.r rfl rfl (hPl.get (by decide) rfl) (hPl.lt (by decide)) dX11_sees_12 ?_
    refine g_iload_n (pc := 15) dX11_sees_15 rfl rfl ?_
    obtain ⟨r_6, h_5, hF⟩ := am_b1_el hF
    refine g_cVz (pc := 16) (k := 1) (As := [.int a2]) (st := []) ky_X9_hasWall kl_X11_126 (s_X9_hasWall_1 (d := 1) (hPl) (Nat.le_refl _) h_5) rfl rfl rfl (hPl.lt (by decide)) (Nat.le_trans (by decide) hd) (Nat.le_of_ble_eq_true rfl) (Nat.le_refl _) (Nat.le_refl _) dX11_sees_16 ?_
    intro z_7
    refine g_if_ne (pc := 19) (tgt := 24) dX11_sees_19 rfl (fun c_8 => ?_) (fun c_8 => ?_)
    · replace hF := am_no c_8 hF
      refine g_aload_n (pc := 24) dX11_sees_24 rfl rfl ?_
      refine g_getR (pc := 25) (k := 0) (r := 23) kf_X11_21.r rfl rfl (hPl.get (by decide) rfl) (hPl.lt (by decide)) dX11_sees_25 ?_
      obtain ⟨I_10, h_9, hF⟩ := am_b1_el hF
      refine g_cVv (pc := 28) (k := 23) (As := []) (st := []) ky_X8_measure kl_X11_178 (s_X8_measure_23 (d := 2) (hPl) (Nat.le_refl _) h_9) rfl rfl rfl (hPl.lt (by decide)) (Nat.le_trans (by decide) hd) (Nat.le_of_ble_eq_true rfl) (Nat.le_refl _) (Nat.le_refl _) dX11_sees_28 ?_
      refine g_aload_n (pc := 31) dX11_sees_31 rfl rfl ?_
      refine g_getR (pc := 32) (k := 0) (r := 23) kf_X11_21.r rfl rfl (hPl.get (by decide) rfl) (hPl.lt (by decide)) dX11_sees_32 ?_
      refine g_iload_n (pc := 35) dX11_sees_35 rfl rfl ?_
      refine g_iload_n (pc := 36) dX11_sees_36 rfl rfl ?_
      obtain ⟨r_12, h_11, hF⟩ := am_b1_el hF
      refine g_cVi (pc := 37) (k := 23) (As := [.int a1, .int a2]) (st := []) ky_X8_yardsOf kl_X11_181 (s_X8_yardsOf_23 (d := 1) (hPl) (Nat.le_refl _) h_11) rfl rfl rfl (hPl.lt (by decide)) (Nat.le_trans (by decide) hd) (Nat.le_of_ble_eq_true rfl) (Nat.le_refl _) (Nat.le_refl _) dX11_sees_37 ?_
      cases hF
      exact g_iret (pc := 40) rfl (Nat.le_refl _) (Nat.le_refl _) dX11_sees_40 ⟨rfl, rfl, rfl, rfl⟩
    · replace hF := am_yes c_8 hF
      refine g_iconst (pc := 22) (v := (-1 : Int32)) dX11_sees_22 (by decide) ?_
      cases hF
      exact g_iret (pc := 23) rfl (Nat.le_refl _) (Nat.le_refl _) dX11_sees_23 ⟨rfl, rfl, rfl, rfl⟩
def F_X8_yardsFrom_23 (I : am_IT) (a1 : Int32) (a2 : Int32) : Option (Int32) := if am_ix ((a1 * (7 : Int32)) + a2) 56 = true then (some (I 24 ((a1 * (7 : Int32)) + a2).toNatClampNeg)) else none
set_option maxRecDepth 100000 in
set_option maxHeartbeats 4000000 in
theorem s_X8_yardsFrom_23 {l : Launch} {d N : Nat} {P : am_PT} (hPl : am_Pl 94 N P) (hd : 1 ≤ d) {I : am_IT} {a1 : Int32} {a2 : Int32} {r : Int32} (hF : F_X8_yardsFrom_23 I a1 a2 = some (r)) : am_C l d 0 0 mX8_yardsFrom [.ref 23, .int a1, .int a2] N P I (am_qi r N P I) := by
  refine am_body (sc := am_sc0) (n := 0) (by decide +kernel) (by decide) rfl ?_
  change G am_sc0 l d 0 0 mX8_yardsFrom (am_qi r N P I) 0 [.ref 23, .int a1, .int a2] [] N P I 0 0
  unfold F_X8_yardsFrom_23 at hF
  refine g_aload_n (pc := 0) dX8_yardsFrom_0 rfl rfl ?_
  refine g_getR (pc := 1) (k := 23) (r := 24) kf_X8_9.r rfl rfl (hPl.get (by decide) rfl) (hPl.lt (by decide)) dX8_yardsFrom_1 ?_
  refine g_iload_n (pc := 4) dX8_yardsFrom_4 rfl rfl ?_
  refine g_bipush (pc := 5) (v := (7 : Int32)) dX8_yardsFrom_5 rfl ?_
  refine g_imul (pc := 7) dX8_yardsFrom_7 ?_
  refine g_iload_n (pc := 8) dX8_yardsFrom_8 rfl rfl ?_
  refine g_iadd (pc := 9) dX8_yardsFrom_9 ?_
  obtain ⟨c_1, hF⟩ := am_gd hF
  refine g_iald (pc := 10) (k := 24) rfl (hPl.lt (by decide)) (am_ix_use c_1) dX8_yardsFrom_10 ?_
  cases hF
  exact g_iret (pc := 11) rfl (Nat.le_refl _) (Nat.le_refl _) dX8_yardsFrom_11 ⟨rfl, rfl, rfl, rfl⟩
def F_X8_worthOfTwo_23 (I : am_IT) (a1 : Int32) (a2 : Int32) (a3 : Int32) (a4 : Int32) : Option (Int32) := if am_ix ((a3 * (7 : Int32)) + a4) 49 = true then (if (I 10 ((a3 * (7 : Int32)) + a4).toNatClampNeg) = 0 then (some (0 : Int32)) else (if am_ix a1 7 = true then (am_b1 (F_X8_yardsFrom_23 I a2 a3) (fun (r_5 : Int32) => am_b1 (F_X8_yardsFrom_23 I a2 a4) (fun (r_7 : Int32) => some ((I 9 a1.toNatClampNeg) * (if r_7 < r_5 then r_7 else r_5))))) else none)) else none
set_option maxRecDepth 100000 in
set_option maxHeartbeats 4000000 in
theorem s_X8_worthOfTwo_23 {l : Launch} {d N : Nat} {P : am_PT} (hPl : am_Pl 94 N P) (hd : 2 ≤ d) {I : am_IT} {a1 : Int32} {a2 : Int32} {a3 : Int32} {a4 : Int32} {r : Int32} (hF : F_X8_worthOfTwo_23 I a1 a2 a3 a4 = some (r)) : am_C l d 0 0 mX8_worthOfTwo [.ref 23, .int a1, .int a2, .int a3, .int a4] N P I (am_qi r N P I) := by
  refine am_body (sc := am_sc0) (n := 0) (by decide +kernel) (by decide) rfl ?_
  change G am_sc0 l d 0 0 mX8_worthOfTwo (am_qi r N P I) 0 [.ref 23, .int a1, .int a2, .int a3, .int a4] [] N P I 0 0
  unfold F_X8_worthOfTwo_23 at hF
  refine g_aload_n (pc := 0) dX8_worthOfTwo_0 rfl rfl ?_
  refine g_getR (pc := 1) (k := 23) (r := 1) kf_X8_15.r rfl rfl (hPl.get (by decide) rfl) (hPl.lt (by decide)) dX8_worthOfTwo_1 ?_
  refine g_getR (pc := 4) (k := 1) (r := 10) kf_X8_49 rfl rfl (hPl.get (by decide) rfl) (hPl.lt (by decide)) dX8_worthOfTwo_4 ?_
  refine g_iload_n (pc := 7) dX8_worthOfTwo_7 rfl rfl ?_
  refine g_bipush (pc := 8) (v := (7 : Int32)) dX8_worthOfTwo_8 rfl ?_
  refine g_imul (pc := 10) dX8_worthOfTwo_10 ?_
  refine g_iload (pc := 11) dX8_worthOfTwo_11 rfl ?_
  refine g_iadd (pc := 13) dX8_worthOfTwo_13 ?_
  obtain ⟨c_1, hF⟩ := am_gd hF
  refine g_iald (pc := 14) (k := 10) rfl (hPl.lt (by decide)) (am_ix_use c_1) dX8_worthOfTwo_14 ?_
  refine g_if_ne (pc := 15) (tgt := 20) dX8_worthOfTwo_15 rfl (fun c_2 => ?_) (fun c_2 => ?_)
  · replace hF := am_no c_2 hF
    refine g_aload_n (pc := 20) dX8_worthOfTwo_20 rfl rfl ?_
    refine g_getR (pc := 21) (k := 23) (r := 1) kf_X8_15.r rfl rfl (hPl.get (by decide) rfl) (hPl.lt (by decide)) dX8_worthOfTwo_21 ?_
    refine g_getR (pc := 24) (k := 1) (r := 9) kf_X8_52 rfl rfl (hPl.get (by decide) rfl) (hPl.lt (by decide)) dX8_worthOfTwo_24 ?_
    refine g_iload_n (pc := 27) dX8_worthOfTwo_27 rfl rfl ?_
    obtain ⟨c_3, hF⟩ := am_gd hF
    refine g_iald (pc := 28) (k := 9) rfl (hPl.lt (by decide)) (am_ix_use c_3) dX8_worthOfTwo_28 ?_
    refine g_aload_n (pc := 29) dX8_worthOfTwo_29 rfl rfl ?_
    refine g_iload_n (pc := 30) dX8_worthOfTwo_30 rfl rfl ?_
    refine g_iload_n (pc := 31) dX8_worthOfTwo_31 rfl rfl ?_
    obtain ⟨r_5, h_4, hF⟩ := am_b1_el hF
    refine g_cVi (pc := 32) (k := 23) (As := [.int a2, .int a3]) (st := [.int (I 9 a1.toNatClampNeg)]) ky_X8_yardsFrom kl_X8_55 (s_X8_yardsFrom_23 (d := 1) (hPl) (Nat.le_refl _) h_4) rfl rfl rfl (hPl.lt (by decide)) (Nat.le_trans (by decide) hd) (Nat.le_of_ble_eq_true rfl) (Nat.le_refl _) (Nat.le_refl _) dX8_worthOfTwo_32 ?_
    refine g_aload_n (pc := 35) dX8_worthOfTwo_35 rfl rfl ?_
    refine g_iload_n (pc := 36) dX8_worthOfTwo_36 rfl rfl ?_
    refine g_iload (pc := 37) dX8_worthOfTwo_37 rfl ?_
    obtain ⟨r_7, h_6, hF⟩ := am_b1_el hF
    refine g_cVi (pc := 39) (k := 23) (As := [.int a2, .int a4]) (st := [.int r_5, .int (I 9 a1.toNatClampNeg)]) ky_X8_yardsFrom kl_X8_55 (s_X8_yardsFrom_23 (d := 1) (hPl) (Nat.le_refl _) h_6) rfl rfl rfl (hPl.lt (by decide)) (Nat.le_trans (by decide) hd) (Nat.le_of_ble_eq_true rfl) (Nat.le_refl _) (Nat.le_refl _) dX8_worthOfTwo_39 ?_
    refine g_mmin (pc := 42) kl_X8_58 kz_mins kz_mi kz_minc (Nat.le_trans (by decide) hd) (Nat.le_of_ble_eq_true rfl) (Nat.le_refl _) (Nat.le_refl _) dX8_worthOfTwo_42 ?_
    refine g_imul (pc := 45) dX8_worthOfTwo_45 ?_
    cases hF
    exact g_iret (pc := 46) rfl (Nat.le_refl _) (Nat.le_refl _) dX8_worthOfTwo_46 ⟨rfl, rfl, rfl, rfl⟩
  · replace hF := am_yes c_2 hF
    refine g_iconst (pc := 18) (v := (0 : Int32)) dX8_worthOfTwo_18 rfl ?_
    cases hF
    exact g_iret (pc := 19) rfl (Nat.le_refl _) (Nat.le_refl _) dX8_worthOfTwo_19 ⟨rfl, rfl, rfl, rfl⟩
def F_X8_worthIn_23_3 (I : am_IT) (a1 : Int32) (a2 : Int32) : Option (Int32) := am_b1 (am_it am_fu (am_u2 (fun (l4_1 : Int32) (l5_2 : Int32) => if (I 1 3) ≤ l5_2 then (some (.inr (l4_1))) else (am_b1 (F_X8_yardsFrom_23 I a2 l5_2) (fun (r_11 : Int32) => if am_ix l5_2 7 = true then (if am_ix ((a1 * (4 : Int32)) + (I 3 l5_2.toNatClampNeg)) 28 = true then (am_let (l4_1 + (r_11 * (I 7 ((a1 * (4 : Int32)) + (I 3 l5_2.toNatClampNeg)).toNatClampNeg))) (fun (l4_14 : Int32) => am_b1 (am_it am_fu (am_u2 (fun (l4_15 : Int32) (l6_16 : Int32) => if l5_2 ≤ l6_16 then (some (.inr (l4_15))) else (if am_ix l5_2 7 = true then (if am_ix l6_16 7 = true then (if (I 3 l5_2.toNatClampNeg) = (I 3 l6_16.toNatClampNeg) then (am_b1 (F_X8_worthOfTwo_23 I a1 a2 l5_2 l6_16) (fun (r_29 : Int32) => am_let (l4_15 + r_29) (fun (l4_30 : Int32) => am_let (l6_16 + (1 : Int32)) (fun (l6_31 : Int32) => some (.inl (l4_30, l6_31)))))) else (am_let (l6_16 + (1 : Int32)) (fun (l6_27 : Int32) => some (.inl (l4_15, l6_27))))) else none) else none))) (l4_14, (0 : Int32))) (fun (l4_17 : Int32) => am_let (l5_2 + (1 : Int32)) (fun (l5_32 : Int32) => some (.inl (l4_17, l5_32)))))) else none) else none)))) ((0 : Int32), (0 : Int32))) (fun (l4_3 : Int32) => some l4_3)
set_option maxRecDepth 100000 in
set_option maxHeartbeats 4000000 in
theorem s_X8_worthIn_23_3 {l : Launch} {d N : Nat} {P : am_PT} (hPl : am_Pl 94 N P) (hd : 3 ≤ d) {I : am_IT} {a1 : Int32} {a2 : Int32} {r : Int32} (hF : F_X8_worthIn_23_3 I a1 a2 = some (r)) : am_C l d 0 0 mX8_worthIn [.ref 23, .int a1, .int a2, .ref 3] N P I (am_qi r N P I) := by
  refine am_body (sc := am_sc0) (n := 3) (by decide +kernel) (by decide) rfl ?_
  change G am_sc0 l d 0 0 mX8_worthIn (am_qi r N P I) 0 [.ref 23, .int a1, .int a2, .ref 3, .null, .null, .null] [] N P I 0 0
  unfold F_X8_worthIn_23_3 at hF
  refine g_iconst (pc := 0) (v := (0 : Int32)) dX8_worthIn_0 rfl ?_
  refine n_istore (pc := 1) (ls2 := [.ref 23, .int a1, .int a2, .ref 3, .int (0 : Int32), .null, .null]) rfl rfl dX8_worthIn_1 (Nat.le_of_ble_eq_true rfl) ?_
  refine g_iconst (pc := 3) (v := (0 : Int32)) dX8_worthIn_3 rfl ?_
  refine n_istore (pc := 4) (ls2 := [.ref 23, .int a1, .int a2, .ref 3, .int (0 : Int32), .int (0 : Int32), .null]) rfl rfl dX8_worthIn_4 (Nat.le_of_ble_eq_true rfl) ?_
  obtain ⟨l4_3, hL_7, hF⟩ := am_b1_el hF
  have hX_4 : G am_sc0 l d 0 0 mX8_worthIn (am_qi r N P I) 95 [.ref 23, .int a1, .int a2, .ref 3, .int l4_3, .null, .null] [] N P I 0 0 := by
    refine g_iload (pc := 95) dX8_worthIn_95 rfl ?_
    cases hF
    exact g_iret (pc := 97) rfl (Nat.le_refl _) (Nat.le_refl _) dX8_worthIn_97 ⟨rfl, rfl, rfl, rfl⟩
  clear hF
  have hC := am_loop (C := fun x => G am_sc0 l d 0 0 mX8_worthIn (am_qi r N P I) 6 [.ref 23, .int a1, .int a2, .ref 3, .int x.1, .int x.2, .null] [] N P I 0 0) (by
    rintro ⟨l4_1, l5_2⟩ rr hF ih_5 hE_6
    replace hF := am_u2_ap hF
    change G am_sc0 l d 0 0 mX8_worthIn (am_qi r N P I) 6 [.ref 23, .int a1, .int a2, .ref 3, .int l4_1, .int l5_2, .null] [] N P I 0 0
    refine g_iload (pc := 6) dX8_worthIn_6 rfl ?_
    refine g_aload_n (pc := 8) dX8_worthIn_8 rfl rfl ?_
    refine g_getR (pc := 9) (k := 23) (r := 1) kf_X8_15.r rfl rfl (hPl.get (by decide) rfl) (hPl.lt (by decide)) dX8_worthIn_9 ?_
    refine g_getI (pc := 12) (k := 1) kf_X8_61.r rfl rfl (hPl.lt (by decide)) dX8_worthIn_12 ?_
    refine g_icmp_ge (pc := 15) (tgt := 95) dX8_worthIn_15 rfl (fun c_9 => ?_) (fun c_9 => ?_)
    · replace hF := am_yes c_9 hF
      cases hF
      cases hE_6 _ rfl
      exact g_weak hX_4 ⟨Or.inr rfl, Or.inr rfl, Or.inr rfl, Or.inr rfl, Or.inr rfl, Or.inl rfl, Or.inl rfl, trivial⟩
    · replace hF := am_no c_9 hF
      refine g_iload (pc := 18) dX8_worthIn_18 rfl ?_
      refine g_aload_n (pc := 20) dX8_worthIn_20 rfl rfl ?_
      refine g_iload_n (pc := 21) dX8_worthIn_21 rfl rfl ?_
      refine g_iload (pc := 22) dX8_worthIn_22 rfl ?_
      obtain ⟨r_11, h_10, hF⟩ := am_b1_el hF
      refine g_cVi (pc := 24) (k := 23) (As := [.int a2, .int l5_2]) (st := [.int l4_1]) ky_X8_yardsFrom kl_X8_55 (s_X8_yardsFrom_23 (d := 1) (hPl) (Nat.le_refl _) h_10) rfl rfl rfl (hPl.lt (by decide)) (Nat.le_trans (by decide) hd) (Nat.le_of_ble_eq_true rfl) (Nat.le_refl _) (Nat.le_refl _) dX8_worthIn_24 ?_
      refine g_aload_n (pc := 27) dX8_worthIn_27 rfl rfl ?_
      refine g_getR (pc := 28) (k := 23) (r := 1) kf_X8_15.r rfl rfl (hPl.get (by decide) rfl) (hPl.lt (by decide)) dX8_worthIn_28 ?_
      refine g_getR (pc := 31) (k := 1) (r := 7) kf_X8_64 rfl rfl (hPl.get (by decide) rfl) (hPl.lt (by decide)) dX8_worthIn_31 ?_
      refine g_iload_n (pc := 34) dX8_worthIn_34 rfl rfl ?_
      refine g_iconst (pc := 35) (v := (4 : Int32)) dX8_worthIn_35 rfl ?_
      refine g_imul (pc := 36) dX8_worthIn_36 ?_
      refine g_aload_n (pc := 37) dX8_worthIn_37 rfl rfl ?_
      refine g_iload (pc := 38) dX8_worthIn_38 rfl ?_
      obtain ⟨c_12, hF⟩ := am_gd hF
      refine g_iald (pc := 40) (k := 3) rfl (hPl.lt (by decide)) (am_ix_use c_12) dX8_worthIn_40 ?_
      refine g_iadd (pc := 41) dX8_worthIn_41 ?_
      obtain ⟨c_13, hF⟩ := am_gd hF
      refine g_iald (pc := 42) (k := 7) rfl (hPl.lt (by decide)) (am_ix_use c_13) dX8_worthIn_42 ?_
      refine g_imul (pc := 43) dX8_worthIn_43 ?_
      refine g_iadd (pc := 44) dX8_worthIn_44 ?_
      obtain ⟨l4_14, e_l4_14, hF⟩ := am_let_el hF
      refine n_istore (pc := 45) (ls2 := [.ref 23, .int a1, .int a2, .ref 3, .int l4_14, .int l5_2, .null]) e_l4_14 rfl dX8_worthIn_45 (Nat.le_of_ble_eq_true rfl) ?_
      refine g_iconst (pc := 47) (v := (0 : Int32)) dX8_worthIn_47 rfl ?_
      refine n_istore (pc := 48) (ls2 := [.ref 23, .int a1, .int a2, .ref 3, .int l4_14, .int l5_2, .int (0 : Int32)]) rfl rfl dX8_worthIn_48 (Nat.le_of_ble_eq_true rfl) ?_
      obtain ⟨l4_17, hL_21, hF⟩ := am_b1_el hF
      have hX_18 : G am_sc0 l d 0 0 mX8_worthIn (am_qi r N P I) 89 [.ref 23, .int a1, .int a2, .ref 3, .int l4_17, .int l5_2, .null] [] N P I 0 0 := by
        obtain ⟨l5_32, e_l5_32, hF⟩ := am_let_el hF
        refine n_iinc (pc := 89) (ls2 := [.ref 23, .int a1, .int a2, .ref 3, .int l4_17, .int l5_32, .null]) e_l5_32 rfl rfl rfl dX8_worthIn_89 (Nat.le_of_ble_eq_true rfl) ?_
        refine g_goto (pc := 92) (tgt := 6) dX8_worthIn_92 rfl ?_
        cases hF
        exact ih_5 (l4_17, l5_32) rfl
      clear hF
      have hC := am_loop (C := fun x => G am_sc0 l d 0 0 mX8_worthIn (am_qi r N P I) 50 [.ref 23, .int a1, .int a2, .ref 3, .int x.1, .int l5_2, .int x.2] [] N P I 0 0) (by
        rintro ⟨l4_15, l6_16⟩ rr hF ih_19 hE_20
        replace hF := am_u2_ap hF
        change G am_sc0 l d 0 0 mX8_worthIn (am_qi r N P I) 50 [.ref 23, .int a1, .int a2, .ref 3, .int l4_15, .int l5_2, .int l6_16] [] N P I 0 0
        refine g_iload (pc := 50) dX8_worthIn_50 rfl ?_
        refine g_iload (pc := 52) dX8_worthIn_52 rfl ?_
        refine g_icmp_ge (pc := 54) (tgt := 89) dX8_worthIn_54 rfl (fun c_23 => ?_) (fun c_23 => ?_)
        · replace hF := am_yes c_23 hF
          cases hF
          cases hE_20 _ rfl
          exact g_weak hX_18 ⟨Or.inr rfl, Or.inr rfl, Or.inr rfl, Or.inr rfl, Or.inr rfl, Or.inr rfl, Or.inl rfl, trivial⟩
        · replace hF := am_no c_23 hF
          refine g_aload_n (pc := 57) dX8_worthIn_57 rfl rfl ?_
          refine g_iload (pc := 58) dX8_worthIn_58 rfl ?_
          obtain ⟨c_24, hF⟩ := am_gd hF
          refine g_iald (pc := 60) (k := 3) rfl (hPl.lt (by decide)) (am_ix_use c_24) dX8_worthIn_60 ?_
          refine g_aload_n (pc := 61) dX8_worthIn_61 rfl rfl ?_
          refine g_iload (pc := 62) dX8_worthIn_62 rfl ?_
          obtain ⟨c_25, hF⟩ := am_gd hF
          refine g_iald (pc := 64) (k := 3) rfl (hPl.lt (by decide)) (am_ix_use c_25) dX8_worthIn_64 ?_
          refine g_icmp_ne (pc := 65) (tgt := 83) dX8_worthIn_65 rfl (fun c_26 => ?_) (fun c_26 => ?_)
          · replace hF := am_no c_26 hF
            obtain ⟨l6_27, e_l6_27, hF⟩ := am_let_el hF
            refine n_iinc (pc := 83) (ls2 := [.ref 23, .int a1, .int a2, .ref 3, .int l4_15, .int l5_2, .int l6_27]) e_l6_27 rfl rfl rfl dX8_worthIn_83 (Nat.le_of_ble_eq_true rfl) ?_
            refine g_goto (pc := 86) (tgt := 50) dX8_worthIn_86 rfl ?_
            cases hF
            exact ih_19 (l4_15, l6_27) rfl
          · replace hF := am_yes c_26 hF
            refine g_iload (pc := 68) dX8_worthIn_68 rfl ?_
            refine g_aload_n (pc := 70) dX8_worthIn_70 rfl rfl ?_
            refine g_iload_n (pc := 71) dX8_worthIn_71 rfl rfl ?_
            refine g_iload_n (pc := 72) dX8_worthIn_72 rfl rfl ?_
            refine g_iload (pc := 73) dX8_worthIn_73 rfl ?_
            refine g_iload (pc := 75) dX8_worthIn_75 rfl ?_
            obtain ⟨r_29, h_28, hF⟩ := am_b1_el hF
            refine g_cVi (pc := 77) (k := 23) (As := [.int a1, .int a2, .int l5_2, .int l6_16]) (st := [.int l4_15]) ky_X8_worthOfTwo kl_X8_67 (s_X8_worthOfTwo_23 (d := 2) (hPl) (Nat.le_refl _) h_28) rfl rfl rfl (hPl.lt (by decide)) (Nat.le_trans (by decide) hd) (Nat.le_of_ble_eq_true rfl) (Nat.le_refl _) (Nat.le_refl _) dX8_worthIn_77 ?_
            refine g_iadd (pc := 80) dX8_worthIn_80 ?_
            obtain ⟨l4_30, e_l4_30, hF⟩ := am_let_el hF
            refine n_istore (pc := 81) (ls2 := [.ref 23, .int a1, .int a2, .ref 3, .int l4_30, .int l5_2, .int l6_16]) e_l4_30 rfl dX8_worthIn_81 (Nat.le_of_ble_eq_true rfl) ?_
            obtain ⟨l6_31, e_l6_31, hF⟩ := am_let_el hF
            refine n_iinc (pc := 83) (ls2 := [.ref 23, .int a1, .int a2, .ref 3, .int l4_30, .int l5_2, .int l6_31]) e_l6_31 rfl rfl rfl dX8_worthIn_83 (Nat.le_of_ble_eq_true rfl) ?_
            refine g_goto (pc := 86) (tgt := 50) dX8_worthIn_86 rfl ?_
            cases hF
            exact ih_19 (l4_30, l6_31) rfl
        ) _ _ hL_21
      exact hC
    ) _ _ hL_7
  exact hC
def F_X8_worthTo_23_3 (I : am_IT) (a1 : Int32) : Option (Int32) := if am_ix a1 7 = true then (am_b1 (F_X8_worthIn_23_3 I a1 (I 4 a1.toNatClampNeg)) (fun (r_3 : Int32) => some r_3)) else none
set_option maxRecDepth 100000 in
set_option maxHeartbeats 4000000 in
theorem s_X8_worthTo_23_3 {l : Launch} {d N : Nat} {P : am_PT} (hPl : am_Pl 94 N P) (hd : 4 ≤ d) {I : am_IT} {a1 : Int32} {r : Int32} (hF : F_X8_worthTo_23_3 I a1 = some (r)) : am_C l d 0 0 mX8_worthTo [.ref 23, .int a1, .ref 3] N P I (am_qi r N P I) := by
  refine am_body (sc := am_sc0) (n := 0) (by decide +kernel) (by decide) rfl ?_
  change G am_sc0 l d 0 0 mX8_worthTo (am_qi r N P I) 0 [.ref 23, .int a1, .ref 3] [] N P I 0 0
  unfold F_X8_worthTo_23_3 at hF
  refine g_aload_n (pc := 0) dX8_worthTo_0 rfl rfl ?_
  refine g_iload_n (pc := 1) dX8_worthTo_1 rfl rfl ?_
  refine g_aload_n (pc := 2) dX8_worthTo_2 rfl rfl ?_
  refine g_getR (pc := 3) (k := 23) (r := 1) kf_X8_15.r rfl rfl (hPl.get (by decide) rfl) (hPl.lt (by decide)) dX8_worthTo_3 ?_
  refine g_getR (pc := 6) (k := 1) (r := 4) kf_X8_46 rfl rfl (hPl.get (by decide) rfl) (hPl.lt (by decide)) dX8_worthTo_6 ?_
  refine g_iload_n (pc := 9) dX8_worthTo_9 rfl rfl ?_
  obtain ⟨c_1, hF⟩ := am_gd hF
  refine g_iald (pc := 10) (k := 4) rfl (hPl.lt (by decide)) (am_ix_use c_1) dX8_worthTo_10 ?_
  refine g_aload_n (pc := 11) dX8_worthTo_11 rfl rfl ?_
  obtain ⟨r_3, h_2, hF⟩ := am_b1_el hF
  refine g_cVi (pc := 12) (k := 23) (As := [.int a1, .int (I 4 a1.toNatClampNeg), .ref 3]) (st := []) ky_X8_worthIn kl_X8_71 (s_X8_worthIn_23_3 (d := 3) (hPl) (Nat.le_refl _) h_2) rfl rfl rfl (hPl.lt (by decide)) (Nat.le_trans (by decide) hd) (Nat.le_of_ble_eq_true rfl) (Nat.le_refl _) (Nat.le_refl _) dX8_worthTo_12 ?_
  cases hF
  exact g_iret (pc := 15) rfl (Nat.le_refl _) (Nat.le_refl _) dX8_worthTo_15 ⟨rfl, rfl, rfl, rfl⟩
def F_X11_worth_0 (I : am_IT) (a1 : Int32) : Option (Int32 × am_IT) := am_b1 (F_X9_hasPerson_1 I a1) (fun (r_2 : Int32) => if r_2 = 0 then (some ((-100000 : Int32), I)) else (am_b1 (F_X8_measure_23 I) (fun (I_6 : am_IT) => am_b1 (F_X8_worthTo_23_3 I_6 a1) (fun (r_8 : Int32) => some (r_8, I_6)))))
set_option maxRecDepth 100000 in
set_option maxHeartbeats 4000000 in
theorem s_X11_worth_0 {l : Launch} {d N : Nat} {P : am_PT} (hPl : am_Pl 94 N P) (hd : 5 ≤ d) {I : am_IT} {a1 : Int32} {r : Int32} {I2 : am_IT} (hF : F_X11_worth_0 I a1 = some (r, I2)) : am_C l d 0 0 mX11_worth [.ref 0, .int a1] N P I (am_qi r N P I2) := by
  refine am_body (sc := am_sc0) (n := 0) (by decide +kernel) (by decide) rfl ?_
  change G am_sc0 l d 0 0 mX11_worth (am_qi r N P I2) 0 [.ref 0, .int a1] [] N P I 0 0
  unfold F_X11_worth_0 at hF
  refine g_aload_n (pc := 0) dX11_worth_0 rfl rfl ?_
  refine g_getR (pc := 1) (k := 0) (r := 1) kf_X11_12.r rfl rfl (hPl.get (by decide) rfl) (hPl.lt (by decide)) dX11_worth_1 ?_
  refine g_iload_n (pc := 4) dX11_worth_4 rfl rfl ?_
  obtain ⟨r_2, h_1, hF⟩ := am_b1_el hF
  refine g_cVz (pc := 5) (k := 1) (As := [.int a1]) (st := []) ky_X9_hasPerson kl_X11_123 (s_X9_hasPerson_1 (d := 1) (hPl) (Nat.le_refl _) h_1) rfl rfl rfl (hPl.lt (by decide)) (Nat.le_trans (by decide) hd) (Nat.le_of_ble_eq_true rfl) (Nat.le_refl _) (Nat.le_refl _) dX11_worth_5 ?_
  intro z_3
  refine g_if_ne (pc := 8) (tgt := 14) dX11_worth_8 rfl (fun c_4 => ?_) (fun c_4 => ?_)
  · replace hF := am_no c_4 hF
    refine g_aload_n (pc := 14) dX11_worth_14 rfl rfl ?_
    refine g_getR (pc := 15) (k := 0) (r := 23) kf_X11_21.r rfl rfl (hPl.get (by decide) rfl) (hPl.lt (by decide)) dX11_worth_15 ?_
    obtain ⟨I_6, h_5, hF⟩ := am_b1_el hF
    refine g_cVv (pc := 18) (k := 23) (As := []) (st := []) ky_X8_measure kl_X11_178 (s_X8_measure_23 (d := 2) (hPl) (Nat.le_refl _) h_5) rfl rfl rfl (hPl.lt (by decide)) (Nat.le_trans (by decide) hd) (Nat.le_of_ble_eq_true rfl) (Nat.le_refl _) (Nat.le_refl _) dX11_worth_18 ?_
    refine g_aload_n (pc := 21) dX11_worth_21 rfl rfl ?_
    refine g_getR (pc := 22) (k := 0) (r := 23) kf_X11_21.r rfl rfl (hPl.get (by decide) rfl) (hPl.lt (by decide)) dX11_worth_22 ?_
    refine g_iload_n (pc := 25) dX11_worth_25 rfl rfl ?_
    refine g_aload_n (pc := 26) dX11_worth_26 rfl rfl ?_
    refine g_getR (pc := 27) (k := 0) (r := 1) kf_X11_12.r rfl rfl (hPl.get (by decide) rfl) (hPl.lt (by decide)) dX11_worth_27 ?_
    refine g_getR (pc := 30) (k := 1) (r := 3) kf_X11_107 rfl rfl (hPl.get (by decide) rfl) (hPl.lt (by decide)) dX11_worth_30 ?_
    obtain ⟨r_8, h_7, hF⟩ := am_b1_el hF
    refine g_cVi (pc := 33) (k := 23) (As := [.int a1, .ref 3]) (st := []) ky_X8_worthTo kl_X11_186 (s_X8_worthTo_23_3 (d := 4) (hPl) (Nat.le_refl _) h_7) rfl rfl rfl (hPl.lt (by decide)) (Nat.le_trans (by decide) hd) (Nat.le_of_ble_eq_true rfl) (Nat.le_refl _) (Nat.le_refl _) dX11_worth_33 ?_
    cases hF
    exact g_iret (pc := 36) rfl (Nat.le_refl _) (Nat.le_refl _) dX11_worth_36 ⟨rfl, rfl, rfl, rfl⟩
  · replace hF := am_yes c_4 hF
    refine g_ldc (pc := 11) dX11_worth_11 kc_X11_185 ?_
    cases hF
    exact g_iret (pc := 13) rfl (Nat.le_refl _) (Nat.le_refl _) dX11_worth_13 ⟨rfl, rfl, rfl, rfl⟩
def F_J7_fill_53178_32 (I : am_IT) (a2 : Int32) : Option (am_IT) := am_b1 (am_it am_fu (am_u2 (fun (l2_1 : Int32) (I_2 : am_IT) => if (28 : Int32) ≤ l2_1 then (some (.inr (I_2))) else (if am_ix l2_1 28 = true then (am_let (up2 I_2 32 l2_1.toNatClampNeg a2) (fun (I_11 : am_IT) => am_let (l2_1 + (1 : Int32)) (fun (l2_12 : Int32) => some (.inl (l2_12, I_11))))) else none))) ((0 : Int32), I)) (fun (I_3 : am_IT) => some I_3)
set_option maxRecDepth 100000 in
set_option maxHeartbeats 4000000 in
theorem s_J7_fill_53178_32 {l : Launch} {d N : Nat} {P : am_PT} (hPl : am_Pl 94 N P) (hd : 1 ≤ d) {I : am_IT} {a2 : Int32} {I2 : am_IT} (hF : F_J7_fill_53178_32 I a2 = some (I2)) : am_C l d 0 0 mJ7_fill_53178 [.ref 32, .int a2] N P I (am_qv N P I2) := by
  refine am_body (sc := am_sc0) (n := 2) (by decide +kernel) (by decide) rfl ?_
  change G am_sc0 l d 0 0 mJ7_fill_53178 (am_qv N P I2) 0 [.ref 32, .int a2, .null, .null] [] N P I 0 0
  unfold F_J7_fill_53178_32 at hF
  refine g_iconst (pc := 0) (v := (0 : Int32)) dJ7_fill_53178_0 rfl ?_
  refine n_istore_n (pc := 1) (ls2 := [.ref 32, .int a2, .int (0 : Int32), .null]) rfl rfl dJ7_fill_53178_1 rfl (Nat.le_of_ble_eq_true rfl) ?_
  refine g_aload_n (pc := 2) dJ7_fill_53178_2 rfl rfl ?_
  refine g_alen (pc := 3) (k := 32) (v := 28) rfl (hPl.lt (by decide)) rfl dJ7_fill_53178_3 ?_
  refine n_istore_n (pc := 4) (ls2 := [.ref 32, .int a2, .int (0 : Int32), .int (28 : Int32)]) rfl rfl dJ7_fill_53178_4 rfl (Nat.le_of_ble_eq_true rfl) ?_
  obtain ⟨I_3, hL_7, hF⟩ := am_b1_el hF
  have hX_4 : G am_sc0 l d 0 0 mJ7_fill_53178 (am_qv N P I2) 20 [.ref 32, .int a2, .null, .int (28 : Int32)] [] N P I_3 0 0 := by
    cases hF
    exact g_vret (pc := 20) rfl (Nat.le_refl _) (Nat.le_refl _) dJ7_fill_53178_20 ⟨rfl, rfl, rfl, rfl⟩
  clear hF
  have hC := am_loop (C := fun x => G am_sc0 l d 0 0 mJ7_fill_53178 (am_qv N P I2) 5 [.ref 32, .int a2, .int x.1, .int (28 : Int32)] [] N P x.2 0 0) (by
    rintro ⟨l2_1, I_2⟩ rr hF ih_5 hE_6
    replace hF := am_u2_ap hF
    change G am_sc0 l d 0 0 mJ7_fill_53178 (am_qv N P I2) 5 [.ref 32, .int a2, .int l2_1, .int (28 : Int32)] [] N P I_2 0 0
    refine g_iload_n (pc := 5) dJ7_fill_53178_5 rfl rfl ?_
    refine g_iload_n (pc := 6) dJ7_fill_53178_6 rfl rfl ?_
    refine g_icmp_ge (pc := 7) (tgt := 20) dJ7_fill_53178_7 rfl (fun c_9 => ?_) (fun c_9 => ?_)
    · replace hF := am_yes c_9 hF
      cases hF
      cases hE_6 _ rfl
      exact g_weak hX_4 ⟨Or.inr rfl, Or.inr rfl, Or.inl rfl, Or.inr rfl, trivial⟩
    · replace hF := am_no c_9 hF
      refine g_aload_n (pc := 10) dJ7_fill_53178_10 rfl rfl ?_
      refine g_iload_n (pc := 11) dJ7_fill_53178_11 rfl rfl ?_
      refine g_iload_n (pc := 12) dJ7_fill_53178_12 rfl rfl ?_
      obtain ⟨c_10, hF⟩ := am_gd hF
      obtain ⟨I_11, e_I_11, hF⟩ := am_let_el hF
      refine n_iast (pc := 13) (k := 32) e_I_11 rfl (hPl.lt (by decide)) (am_ix_use c_10) dJ7_fill_53178_13 ?_
      obtain ⟨l2_12, e_l2_12, hF⟩ := am_let_el hF
      refine n_iinc (pc := 14) (ls2 := [.ref 32, .int a2, .int l2_12, .int (28 : Int32)]) e_l2_12 rfl rfl rfl dJ7_fill_53178_14 (Nat.le_of_ble_eq_true rfl) ?_
      refine g_goto (pc := 17) (tgt := 5) dJ7_fill_53178_17 rfl ?_
      cases hF
      exact ih_5 (l2_12, I_11) rfl
    ) _ _ hL_7
  exact hC
def F_J7_fill_53178_33 (I : am_IT) (a2 : Int32) : Option (am_IT) := am_b1 (am_it am_fu (am_u2 (fun (l2_1 : Int32) (I_2 : am_IT) => if (49 : Int32) ≤ l2_1 then (some (.inr (I_2))) else (if am_ix l2_1 49 = true then (am_let (up2 I_2 33 l2_1.toNatClampNeg a2) (fun (I_11 : am_IT) => am_let (l2_1 + (1 : Int32)) (fun (l2_12 : Int32) => some (.inl (l2_12, I_11))))) else none))) ((0 : Int32), I)) (fun (I_3 : am_IT) => some I_3)
set_option maxRecDepth 100000 in
set_option maxHeartbeats 4000000 in
theorem s_J7_fill_53178_33 {l : Launch} {d N : Nat} {P : am_PT} (hPl : am_Pl 94 N P) (hd : 1 ≤ d) {I : am_IT} {a2 : Int32} {I2 : am_IT} (hF : F_J7_fill_53178_33 I a2 = some (I2)) : am_C l d 0 0 mJ7_fill_53178 [.ref 33, .int a2] N P I (am_qv N P I2) := by
  refine am_body (sc := am_sc0) (n := 2) (by decide +kernel) (by decide) rfl ?_
  change G am_sc0 l d 0 0 mJ7_fill_53178 (am_qv N P I2) 0 [.ref 33, .int a2, .null, .null] [] N P I 0 0
  unfold F_J7_fill_53178_33 at hF
  refine g_iconst (pc := 0) (v := (0 : Int32)) dJ7_fill_53178_0 rfl ?_
  refine n_istore_n (pc := 1) (ls2 := [.ref 33, .int a2, .int (0 : Int32), .null]) rfl rfl dJ7_fill_53178_1 rfl (Nat.le_of_ble_eq_true rfl) ?_
  refine g_aload_n (pc := 2) dJ7_fill_53178_2 rfl rfl ?_
  refine g_alen (pc := 3) (k := 33) (v := 49) rfl (hPl.lt (by decide)) rfl dJ7_fill_53178_3 ?_
  refine n_istore_n (pc := 4) (ls2 := [.ref 33, .int a2, .int (0 : Int32), .int (49 : Int32)]) rfl rfl dJ7_fill_53178_4 rfl (Nat.le_of_ble_eq_true rfl) ?_
  obtain ⟨I_3, hL_7, hF⟩ := am_b1_el hF
  have hX_4 : G am_sc0 l d 0 0 mJ7_fill_53178 (am_qv N P I2) 20 [.ref 33, .int a2, .null, .int (49 : Int32)] [] N P I_3 0 0 := by
    cases hF
    exact g_vret (pc := 20) rfl (Nat.le_refl _) (Nat.le_refl _) dJ7_fill_53178_20 ⟨rfl, rfl, rfl, rfl⟩
  clear hF
  have hC := am_loop (C := fun x => G am_sc0 l d 0 0 mJ7_fill_53178 (am_qv N P I2) 5 [.ref 33, .int a2, .int x.1, .int (49 : Int32)] [] N P x.2 0 0) (by
    rintro ⟨l2_1, I_2⟩ rr hF ih_5 hE_6
    replace hF := am_u2_ap hF
    change G am_sc0 l d 0 0 mJ7_fill_53178 (am_qv N P I2) 5 [.ref 33, .int a2, .int l2_1, .int (49 : Int32)] [] N P I_2 0 0
    refine g_iload_n (pc := 5) dJ7_fill_53178_5 rfl rfl ?_
    refine g_iload_n (pc := 6) dJ7_fill_53178_6 rfl rfl ?_
    refine g_icmp_ge (pc := 7) (tgt := 20) dJ7_fill_53178_7 rfl (fun c_9 => ?_) (fun c_9 => ?_)
    · replace hF := am_yes c_9 hF
      cases hF
      cases hE_6 _ rfl
      exact g_weak hX_4 ⟨Or.inr rfl, Or.inr rfl, Or.inl rfl, Or.inr rfl, trivial⟩
    · replace hF := am_no c_9 hF
      refine g_aload_n (pc := 10) dJ7_fill_53178_10 rfl rfl ?_
      refine g_iload_n (pc := 11) dJ7_fill_53178_11 rfl rfl ?_
      refine g_iload_n (pc := 12) dJ7_fill_53178_12 rfl rfl ?_
      obtain ⟨c_10, hF⟩ := am_gd hF
      obtain ⟨I_11, e_I_11, hF⟩ := am_let_el hF
      refine n_iast (pc := 13) (k := 33) e_I_11 rfl (hPl.lt (by decide)) (am_ix_use c_10) dJ7_fill_53178_13 ?_
      obtain ⟨l2_12, e_l2_12, hF⟩ := am_let_el hF
      refine n_iinc (pc := 14) (ls2 := [.ref 33, .int a2, .int l2_12, .int (49 : Int32)]) e_l2_12 rfl rfl rfl dJ7_fill_53178_14 (Nat.le_of_ble_eq_true rfl) ?_
      refine g_goto (pc := 17) (tgt := 5) dJ7_fill_53178_17 rfl ?_
      cases hF
      exact ih_5 (l2_12, I_11) rfl
    ) _ _ hL_7
  exact hC
def F_X0_addOne_30 (I : am_IT) (a1 : Int32) : Option (am_IT) := am_b1 (am_it am_fu (am_u2 (fun (l2_1 : Int32) (I_2 : am_IT) => if (I_2 1 3) ≤ l2_1 then (some (.inr (I_2))) else (am_b1 (am_it am_fu (am_u2 (fun (l3_10 : Int32) (I_11 : am_IT) => if (I_11 1 0) ≤ l3_10 then (some (.inr (I_11))) else (if am_ix ((l2_1 * (4 : Int32)) + l3_10) 28 = true then (am_b1 (F_X8_yardsOf_23 I_11 a1 l2_1) (fun (r_21 : Int32) => if am_ix ((a1 * (4 : Int32)) + l3_10) 28 = true then (if am_ix ((l2_1 * (4 : Int32)) + l3_10) 28 = true then (am_let (up2 I_11 32 ((l2_1 * (4 : Int32)) + l3_10).toNatClampNeg ((I_11 32 ((l2_1 * (4 : Int32)) + l3_10).toNatClampNeg) + (r_21 * (I_11 7 ((a1 * (4 : Int32)) + l3_10).toNatClampNeg)))) (fun (I_24 : am_IT) => am_let (l3_10 + (1 : Int32)) (fun (l3_25 : Int32) => some (.inl (l3_25, I_24))))) else none) else none)) else none))) ((0 : Int32), I_2)) (fun (I_12 : am_IT) => am_b1 (am_it am_fu (am_u2 (fun (l3_26 : Int32) (I_27 : am_IT) => if l2_1 ≤ l3_26 then (some (.inr (I_27))) else (if am_ix ((l2_1 * (7 : Int32)) + l3_26) 49 = true then (if am_ix a1 7 = true then (am_b1 (F_X8_worthOfTwo_23 I_27 a1 (I_27 4 a1.toNatClampNeg) l2_1 l3_26) (fun (r_38 : Int32) => if am_ix ((l2_1 * (7 : Int32)) + l3_26) 49 = true then (am_let (up2 I_27 33 ((l2_1 * (7 : Int32)) + l3_26).toNatClampNeg ((I_27 33 ((l2_1 * (7 : Int32)) + l3_26).toNatClampNeg) + r_38)) (fun (I_40 : am_IT) => am_let (l3_26 + (1 : Int32)) (fun (l3_41 : Int32) => some (.inl (l3_41, I_40))))) else none)) else none) else none))) ((0 : Int32), I_12)) (fun (I_28 : am_IT) => am_let (l2_1 + (1 : Int32)) (fun (l2_42 : Int32) => some (.inl (l2_42, I_28)))))))) ((0 : Int32), I)) (fun (I_3 : am_IT) => some I_3)
set_option maxRecDepth 100000 in
set_option maxHeartbeats 4000000 in
theorem s_X0_addOne_30 {l : Launch} {d N : Nat} {P : am_PT} (hPl : am_Pl 94 N P) (hd : 3 ≤ d) {I : am_IT} {a1 : Int32} {I2 : am_IT} (hF : F_X0_addOne_30 I a1 = some (I2)) : am_C l d 0 0 mX0_addOne [.ref 30, .int a1] N P I (am_qv N P I2) := by
  refine am_body (sc := am_sc0) (n := 2) (by decide +kernel) (by decide) rfl ?_
  change G am_sc0 l d 0 0 mX0_addOne (am_qv N P I2) 0 [.ref 30, .int a1, .null, .null] [] N P I 0 0
  unfold F_X0_addOne_30 at hF
  refine g_iconst (pc := 0) (v := (0 : Int32)) dX0_addOne_0 rfl ?_
  refine n_istore_n (pc := 1) (ls2 := [.ref 30, .int a1, .int (0 : Int32), .null]) rfl rfl dX0_addOne_1 rfl (Nat.le_of_ble_eq_true rfl) ?_
  obtain ⟨I_3, hL_7, hF⟩ := am_b1_el hF
  have hX_4 : G am_sc0 l d 0 0 mX0_addOne (am_qv N P I2) 120 [.ref 30, .int a1, .null, .null] [] N P I_3 0 0 := by
    cases hF
    exact g_vret (pc := 120) rfl (Nat.le_refl _) (Nat.le_refl _) dX0_addOne_120 ⟨rfl, rfl, rfl, rfl⟩
  clear hF
  have hC := am_loop (C := fun x => G am_sc0 l d 0 0 mX0_addOne (am_qv N P I2) 2 [.ref 30, .int a1, .int x.1, .null] [] N P x.2 0 0) (by
    rintro ⟨l2_1, I_2⟩ rr hF ih_5 hE_6
    replace hF := am_u2_ap hF
    change G am_sc0 l d 0 0 mX0_addOne (am_qv N P I2) 2 [.ref 30, .int a1, .int l2_1, .null] [] N P I_2 0 0
    refine g_iload_n (pc := 2) dX0_addOne_2 rfl rfl ?_
    refine g_aload_n (pc := 3) dX0_addOne_3 rfl rfl ?_
    refine g_getR (pc := 4) (k := 30) (r := 1) kf_X0_31.r rfl rfl (hPl.get (by decide) rfl) (hPl.lt (by decide)) dX0_addOne_4 ?_
    refine g_getI (pc := 7) (k := 1) kf_X0_54.r rfl rfl (hPl.lt (by decide)) dX0_addOne_7 ?_
    refine g_icmp_ge (pc := 10) (tgt := 120) dX0_addOne_10 rfl (fun c_9 => ?_) (fun c_9 => ?_)
    · replace hF := am_yes c_9 hF
      cases hF
      cases hE_6 _ rfl
      exact g_weak hX_4 ⟨Or.inr rfl, Or.inr rfl, Or.inl rfl, Or.inl rfl, trivial⟩
    · replace hF := am_no c_9 hF
      refine g_iconst (pc := 13) (v := (0 : Int32)) dX0_addOne_13 rfl ?_
      refine n_istore_n (pc := 14) (ls2 := [.ref 30, .int a1, .int l2_1, .int (0 : Int32)]) rfl rfl dX0_addOne_14 rfl (Nat.le_of_ble_eq_true rfl) ?_
      obtain ⟨I_12, hL_16, hF⟩ := am_b1_el hF
      have hX_13 : G am_sc0 l d 0 0 mX0_addOne (am_qv N P I2) 68 [.ref 30, .int a1, .int l2_1, .null] [] N P I_12 0 0 := by
        refine g_iconst (pc := 68) (v := (0 : Int32)) dX0_addOne_68 rfl ?_
        refine n_istore_n (pc := 69) (ls2 := [.ref 30, .int a1, .int l2_1, .int (0 : Int32)]) rfl rfl dX0_addOne_69 rfl (Nat.le_of_ble_eq_true rfl) ?_
        obtain ⟨I_28, hL_32, hF⟩ := am_b1_el hF
        have hX_29 : G am_sc0 l d 0 0 mX0_addOne (am_qv N P I2) 114 [.ref 30, .int a1, .int l2_1, .null] [] N P I_28 0 0 := by
          obtain ⟨l2_42, e_l2_42, hF⟩ := am_let_el hF
          refine n_iinc (pc := 114) (ls2 := [.ref 30, .int a1, .int l2_42, .null]) e_l2_42 rfl rfl rfl dX0_addOne_114 (Nat.le_of_ble_eq_true rfl) ?_
          refine g_goto (pc := 117) (tgt := 2) dX0_addOne_117 rfl ?_
          cases hF
          exact ih_5 (l2_42, I_28) rfl
        clear hF
        have hC := am_loop (C := fun x => G am_sc0 l d 0 0 mX0_addOne (am_qv N P I2) 70 [.ref 30, .int a1, .int l2_1, .int x.1] [] N P x.2 0 0) (by
          rintro ⟨l3_26, I_27⟩ rr hF ih_30 hE_31
          replace hF := am_u2_ap hF
          change G am_sc0 l d 0 0 mX0_addOne (am_qv N P I2) 70 [.ref 30, .int a1, .int l2_1, .int l3_26] [] N P I_27 0 0
          refine g_iload_n (pc := 70) dX0_addOne_70 rfl rfl ?_
          refine g_iload_n (pc := 71) dX0_addOne_71 rfl rfl ?_
          refine g_icmp_ge (pc := 72) (tgt := 114) dX0_addOne_72 rfl (fun c_34 => ?_) (fun c_34 => ?_)
          · replace hF := am_yes c_34 hF
            cases hF
            cases hE_31 _ rfl
            exact g_weak hX_29 ⟨Or.inr rfl, Or.inr rfl, Or.inr rfl, Or.inl rfl, trivial⟩
          · replace hF := am_no c_34 hF
            refine g_aload_n (pc := 75) dX0_addOne_75 rfl rfl ?_
            refine g_getR (pc := 76) (k := 30) (r := 33) kf_X0_18.r rfl rfl (hPl.get (by decide) rfl) (hPl.lt (by decide)) dX0_addOne_76 ?_
            refine g_iload_n (pc := 79) dX0_addOne_79 rfl rfl ?_
            refine g_bipush (pc := 80) (v := (7 : Int32)) dX0_addOne_80 rfl ?_
            refine g_imul (pc := 82) dX0_addOne_82 ?_
            refine g_iload_n (pc := 83) dX0_addOne_83 rfl rfl ?_
            refine g_iadd (pc := 84) dX0_addOne_84 ?_
            refine g_dup2 (pc := 85) dX0_addOne_85 ?_
            obtain ⟨c_35, hF⟩ := am_gd hF
            refine g_iald (pc := 86) (k := 33) rfl (hPl.lt (by decide)) (am_ix_use c_35) dX0_addOne_86 ?_
            refine g_aload_n (pc := 87) dX0_addOne_87 rfl rfl ?_
            refine g_getR (pc := 88) (k := 30) (r := 23) kf_X0_35.r rfl rfl (hPl.get (by decide) rfl) (hPl.lt (by decide)) dX0_addOne_88 ?_
            refine g_iload_n (pc := 91) dX0_addOne_91 rfl rfl ?_
            refine g_aload_n (pc := 92) dX0_addOne_92 rfl rfl ?_
            refine g_getR (pc := 93) (k := 30) (r := 1) kf_X0_31.r rfl rfl (hPl.get (by decide) rfl) (hPl.lt (by decide)) dX0_addOne_93 ?_
            refine g_getR (pc := 96) (k := 1) (r := 4) kf_X0_107 rfl rfl (hPl.get (by decide) rfl) (hPl.lt (by decide)) dX0_addOne_96 ?_
            refine g_iload_n (pc := 99) dX0_addOne_99 rfl rfl ?_
            obtain ⟨c_36, hF⟩ := am_gd hF
            refine g_iald (pc := 100) (k := 4) rfl (hPl.lt (by decide)) (am_ix_use c_36) dX0_addOne_100 ?_
            refine g_iload_n (pc := 101) dX0_addOne_101 rfl rfl ?_
            refine g_iload_n (pc := 102) dX0_addOne_102 rfl rfl ?_
            obtain ⟨r_38, h_37, hF⟩ := am_b1_el hF
            refine g_cVi (pc := 103) (k := 23) (As := [.int a1, .int (I_27 4 a1.toNatClampNeg), .int l2_1, .int l3_26]) (st := [.int (I_27 33 ((l2_1 * (7 : Int32)) + l3_26).toNatClampNeg), .int ((l2_1 * (7 : Int32)) + l3_26), .ref 33]) ky_X8_worthOfTwo kl_X0_110 (s_X8_worthOfTwo_23 (d := 2) (hPl) (Nat.le_refl _) h_37) rfl rfl rfl (hPl.lt (by decide)) (Nat.le_trans (by decide) hd) (Nat.le_of_ble_eq_true rfl) (Nat.le_refl _) (Nat.le_refl _) dX0_addOne_103 ?_
            refine g_iadd (pc := 106) dX0_addOne_106 ?_
            obtain ⟨c_39, hF⟩ := am_gd hF
            obtain ⟨I_40, e_I_40, hF⟩ := am_let_el hF
            refine n_iast (pc := 107) (k := 33) e_I_40 rfl (hPl.lt (by decide)) (am_ix_use c_39) dX0_addOne_107 ?_
            obtain ⟨l3_41, e_l3_41, hF⟩ := am_let_el hF
            refine n_iinc (pc := 108) (ls2 := [.ref 30, .int a1, .int l2_1, .int l3_41]) e_l3_41 rfl rfl rfl dX0_addOne_108 (Nat.le_of_ble_eq_true rfl) ?_
            refine g_goto (pc := 111) (tgt := 70) dX0_addOne_111 rfl ?_
            cases hF
            exact ih_30 (l3_41, I_40) rfl
          ) _ _ hL_32
        exact hC
      clear hF
      have hC := am_loop (C := fun x => G am_sc0 l d 0 0 mX0_addOne (am_qv N P I2) 15 [.ref 30, .int a1, .int l2_1, .int x.1] [] N P x.2 0 0) (by
        rintro ⟨l3_10, I_11⟩ rr hF ih_14 hE_15
        replace hF := am_u2_ap hF
        change G am_sc0 l d 0 0 mX0_addOne (am_qv N P I2) 15 [.ref 30, .int a1, .int l2_1, .int l3_10] [] N P I_11 0 0
        refine g_iload_n (pc := 15) dX0_addOne_15 rfl rfl ?_
        refine g_aload_n (pc := 16) dX0_addOne_16 rfl rfl ?_
        refine g_getR (pc := 17) (k := 30) (r := 1) kf_X0_31.r rfl rfl (hPl.get (by decide) rfl) (hPl.lt (by decide)) dX0_addOne_17 ?_
        refine g_getI (pc := 20) (k := 1) kf_X0_97.r rfl rfl (hPl.lt (by decide)) dX0_addOne_20 ?_
        refine g_icmp_ge (pc := 23) (tgt := 68) dX0_addOne_23 rfl (fun c_18 => ?_) (fun c_18 => ?_)
        · replace hF := am_yes c_18 hF
          cases hF
          cases hE_15 _ rfl
          exact g_weak hX_13 ⟨Or.inr rfl, Or.inr rfl, Or.inr rfl, Or.inl rfl, trivial⟩
        · replace hF := am_no c_18 hF
          refine g_aload_n (pc := 26) dX0_addOne_26 rfl rfl ?_
          refine g_getR (pc := 27) (k := 30) (r := 32) kf_X0_15.r rfl rfl (hPl.get (by decide) rfl) (hPl.lt (by decide)) dX0_addOne_27 ?_
          refine g_iload_n (pc := 30) dX0_addOne_30 rfl rfl ?_
          refine g_iconst (pc := 31) (v := (4 : Int32)) dX0_addOne_31 rfl ?_
          refine g_imul (pc := 32) dX0_addOne_32 ?_
          refine g_iload_n (pc := 33) dX0_addOne_33 rfl rfl ?_
          refine g_iadd (pc := 34) dX0_addOne_34 ?_
          refine g_dup2 (pc := 35) dX0_addOne_35 ?_
          obtain ⟨c_19, hF⟩ := am_gd hF
          refine g_iald (pc := 36) (k := 32) rfl (hPl.lt (by decide)) (am_ix_use c_19) dX0_addOne_36 ?_
          refine g_aload_n (pc := 37) dX0_addOne_37 rfl rfl ?_
          refine g_getR (pc := 38) (k := 30) (r := 23) kf_X0_35.r rfl rfl (hPl.get (by decide) rfl) (hPl.lt (by decide)) dX0_addOne_38 ?_
          refine g_iload_n (pc := 41) dX0_addOne_41 rfl rfl ?_
          refine g_iload_n (pc := 42) dX0_addOne_42 rfl rfl ?_
          obtain ⟨r_21, h_20, hF⟩ := am_b1_el hF
          refine g_cVi (pc := 43) (k := 23) (As := [.int a1, .int l2_1]) (st := [.int (I_11 32 ((l2_1 * (4 : Int32)) + l3_10).toNatClampNeg), .int ((l2_1 * (4 : Int32)) + l3_10), .ref 32]) ky_X8_yardsOf kl_X0_100 (s_X8_yardsOf_23 (d := 1) (hPl) (Nat.le_refl _) h_20) rfl rfl rfl (hPl.lt (by decide)) (Nat.le_trans (by decide) hd) (Nat.le_of_ble_eq_true rfl) (Nat.le_refl _) (Nat.le_refl _) dX0_addOne_43 ?_
          refine g_aload_n (pc := 46) dX0_addOne_46 rfl rfl ?_
          refine g_getR (pc := 47) (k := 30) (r := 1) kf_X0_31.r rfl rfl (hPl.get (by decide) rfl) (hPl.lt (by decide)) dX0_addOne_47 ?_
          refine g_getR (pc := 50) (k := 1) (r := 7) kf_X0_104 rfl rfl (hPl.get (by decide) rfl) (hPl.lt (by decide)) dX0_addOne_50 ?_
          refine g_iload_n (pc := 53) dX0_addOne_53 rfl rfl ?_
          refine g_iconst (pc := 54) (v := (4 : Int32)) dX0_addOne_54 rfl ?_
          refine g_imul (pc := 55) dX0_addOne_55 ?_
          refine g_iload_n (pc := 56) dX0_addOne_56 rfl rfl ?_
          refine g_iadd (pc := 57) dX0_addOne_57 ?_
          obtain ⟨c_22, hF⟩ := am_gd hF
          refine g_iald (pc := 58) (k := 7) rfl (hPl.lt (by decide)) (am_ix_use c_22) dX0_addOne_58 ?_
          refine g_imul (pc := 59) dX0_addOne_59 ?_
          refine g_iadd (pc := 60) dX0_addOne_60 ?_
          obtain ⟨c_23, hF⟩ := am_gd hF
          obtain ⟨I_24, e_I_24, hF⟩ := am_let_el hF
          refine n_iast (pc := 61) (k := 32) e_I_24 rfl (hPl.lt (by decide)) (am_ix_use c_23) dX0_addOne_61 ?_
          obtain ⟨l3_25, e_l3_25, hF⟩ := am_let_el hF
          refine n_iinc (pc := 62) (ls2 := [.ref 30, .int a1, .int l2_1, .int l3_25]) e_l3_25 rfl rfl rfl dX0_addOne_62 (Nat.le_of_ble_eq_true rfl) ?_
          refine g_goto (pc := 65) (tgt := 15) dX0_addOne_65 rfl ?_
          cases hF
          exact ih_14 (l3_25, I_24) rfl
        ) _ _ hL_16
      exact hC
    ) _ _ hL_7
  exact hC
def F_X0_addUp_30 (I : am_IT) (a1 : Int32) : Option (am_IT) := am_b1 (F_J7_fill_53178_32 I (0 : Int32)) (fun (I_2 : am_IT) => am_b1 (F_J7_fill_53178_33 I_2 (0 : Int32)) (fun (I_4 : am_IT) => am_b1 (am_it am_fu (am_u2 (fun (l2_5 : Int32) (I_6 : am_IT) => if (I_6 1 4) ≤ l2_5 then (some (.inr (I_6))) else (if l2_5 = a1 then (am_let (l2_5 + (1 : Int32)) (fun (l2_15 : Int32) => some (.inl (l2_15, I_6)))) else (am_b1 (F_X0_addOne_30 I_6 l2_5) (fun (I_17 : am_IT) => am_let (l2_5 + (1 : Int32)) (fun (l2_18 : Int32) => some (.inl (l2_18, I_17)))))))) ((0 : Int32), I_4)) (fun (I_7 : am_IT) => some I_7)))
set_option maxRecDepth 100000 in
set_option maxHeartbeats 4000000 in
theorem s_X0_addUp_30 {l : Launch} {d N : Nat} {P : am_PT} (hPl : am_Pl 94 N P) (hd : 4 ≤ d) {I : am_IT} {a1 : Int32} {I2 : am_IT} (hF : F_X0_addUp_30 I a1 = some (I2)) : am_C l d 0 0 mX0_addUp [.ref 30, .int a1] N P I (am_qv N P I2) := by
  refine am_body (sc := am_sc0) (n := 1) (by decide +kernel) (by decide) rfl ?_
  change G am_sc0 l d 0 0 mX0_addUp (am_qv N P I2) 0 [.ref 30, .int a1, .null] [] N P I 0 0
  unfold F_X0_addUp_30 at hF
  refine g_aload_n (pc := 0) dX0_addUp_0 rfl rfl ?_
  refine g_getR (pc := 1) (k := 30) (r := 32) kf_X0_15.r rfl rfl (hPl.get (by decide) rfl) (hPl.lt (by decide)) dX0_addUp_1 ?_
  refine g_iconst (pc := 4) (v := (0 : Int32)) dX0_addUp_4 rfl ?_
  obtain ⟨I_2, h_1, hF⟩ := am_b1_el hF
  refine g_cSv (pc := 5) (As := [.ref 32, .int (0 : Int32)]) (st := []) ky_J7_fill_53178 kl_X0_88 (s_J7_fill_53178_32 (d := 1) (hPl) (Nat.le_refl _) h_1) rfl rfl (Nat.le_trans (by decide) hd) (Nat.le_of_ble_eq_true rfl) (Nat.le_refl _) (Nat.le_refl _) dX0_addUp_5 ?_
  refine g_aload_n (pc := 8) dX0_addUp_8 rfl rfl ?_
  refine g_getR (pc := 9) (k := 30) (r := 33) kf_X0_18.r rfl rfl (hPl.get (by decide) rfl) (hPl.lt (by decide)) dX0_addUp_9 ?_
  refine g_iconst (pc := 12) (v := (0 : Int32)) dX0_addUp_12 rfl ?_
  obtain ⟨I_4, h_3, hF⟩ := am_b1_el hF
  refine g_cSv (pc := 13) (As := [.ref 33, .int (0 : Int32)]) (st := []) ky_J7_fill_53178 kl_X0_88 (s_J7_fill_53178_33 (d := 1) (hPl) (Nat.le_refl _) h_3) rfl rfl (Nat.le_trans (by decide) hd) (Nat.le_of_ble_eq_true rfl) (Nat.le_refl _) (Nat.le_refl _) dX0_addUp_13 ?_
  refine g_iconst (pc := 16) (v := (0 : Int32)) dX0_addUp_16 rfl ?_
  refine n_istore_n (pc := 17) (ls2 := [.ref 30, .int a1, .int (0 : Int32)]) rfl rfl dX0_addUp_17 rfl (Nat.le_of_ble_eq_true rfl) ?_
  obtain ⟨I_7, hL_11, hF⟩ := am_b1_el hF
  have hX_8 : G am_sc0 l d 0 0 mX0_addUp (am_qv N P I2) 45 [.ref 30, .int a1, .null] [] N P I_7 0 0 := by
    cases hF
    exact g_vret (pc := 45) rfl (Nat.le_refl _) (Nat.le_refl _) dX0_addUp_45 ⟨rfl, rfl, rfl, rfl⟩
  clear hF
  have hC := am_loop (C := fun x => G am_sc0 l d 0 0 mX0_addUp (am_qv N P I2) 18 [.ref 30, .int a1, .int x.1] [] N P x.2 0 0) (by
    rintro ⟨l2_5, I_6⟩ rr hF ih_9 hE_10
    replace hF := am_u2_ap hF
    change G am_sc0 l d 0 0 mX0_addUp (am_qv N P I2) 18 [.ref 30, .int a1, .int l2_5] [] N P I_6 0 0
    refine g_iload_n (pc := 18) dX0_addUp_18 rfl rfl ?_
    refine g_aload_n (pc := 19) dX0_addUp_19 rfl rfl ?_
    refine g_getR (pc := 20) (k := 30) (r := 1) kf_X0_31.r rfl rfl (hPl.get (by decide) rfl) (hPl.lt (by decide)) dX0_addUp_20 ?_
    refine g_getI (pc := 23) (k := 1) kf_X0_69.r rfl rfl (hPl.lt (by decide)) dX0_addUp_23 ?_
    refine g_icmp_ge (pc := 26) (tgt := 45) dX0_addUp_26 rfl (fun c_13 => ?_) (fun c_13 => ?_)
    · replace hF := am_yes c_13 hF
      cases hF
      cases hE_10 _ rfl
      exact g_weak hX_8 ⟨Or.inr rfl, Or.inr rfl, Or.inl rfl, trivial⟩
    · replace hF := am_no c_13 hF
      refine g_iload_n (pc := 29) dX0_addUp_29 rfl rfl ?_
      refine g_iload_n (pc := 30) dX0_addUp_30 rfl rfl ?_
      refine g_icmp_eq (pc := 31) (tgt := 39) dX0_addUp_31 rfl (fun c_14 => ?_) (fun c_14 => ?_)
      · replace hF := am_yes c_14 hF
        obtain ⟨l2_15, e_l2_15, hF⟩ := am_let_el hF
        refine n_iinc (pc := 39) (ls2 := [.ref 30, .int a1, .int l2_15]) e_l2_15 rfl rfl rfl dX0_addUp_39 (Nat.le_of_ble_eq_true rfl) ?_
        refine g_goto (pc := 42) (tgt := 18) dX0_addUp_42 rfl ?_
        cases hF
        exact ih_9 (l2_15, I_6) rfl
      · replace hF := am_no c_14 hF
        refine g_aload_n (pc := 34) dX0_addUp_34 rfl rfl ?_
        refine g_iload_n (pc := 35) dX0_addUp_35 rfl rfl ?_
        obtain ⟨I_17, h_16, hF⟩ := am_b1_el hF
        refine g_cVv (pc := 36) (k := 30) (As := [.int l2_5]) (st := []) ky_X0_addOne kl_X0_94 (s_X0_addOne_30 (d := 3) (hPl) (Nat.le_refl _) h_16) rfl rfl rfl (hPl.lt (by decide)) (Nat.le_trans (by decide) hd) (Nat.le_of_ble_eq_true rfl) (Nat.le_refl _) (Nat.le_refl _) dX0_addUp_36 ?_
        obtain ⟨l2_18, e_l2_18, hF⟩ := am_let_el hF
        refine n_iinc (pc := 39) (ls2 := [.ref 30, .int a1, .int l2_18]) e_l2_18 rfl rfl rfl dX0_addUp_39 (Nat.le_of_ble_eq_true rfl) ?_
        refine g_goto (pc := 42) (tgt := 18) dX0_addUp_42 rfl ?_
        cases hF
        exact ih_9 (l2_18, I_17) rfl
    ) _ _ hL_11
  exact hC
def F_X0_worthOfNext_30 (I : am_IT) (a1 : Int32) (a2 : Int32) : Option (Int32) := if am_ix ((a1 * (4 : Int32)) + a2) 28 = true then (am_let (I 32 ((a1 * (4 : Int32)) + a2).toNatClampNeg) (fun (l3_2 : Int32) => am_b1 (am_it am_fu (am_u2 (fun (l3_3 : Int32) (l4_4 : Int32) => if a1 ≤ l4_4 then (some (.inr (l3_3))) else (if am_ix l4_4 7 = true then (if (I 34 l4_4.toNatClampNeg) = a2 then (if am_ix ((a1 * (7 : Int32)) + l4_4) 49 = true then (am_let (l3_3 + (I 33 ((a1 * (7 : Int32)) + l4_4).toNatClampNeg)) (fun (l3_16 : Int32) => am_let (l4_4 + (1 : Int32)) (fun (l4_17 : Int32) => some (.inl (l3_16, l4_17))))) else none) else (am_let (l4_4 + (1 : Int32)) (fun (l4_14 : Int32) => some (.inl (l3_3, l4_14))))) else none))) (l3_2, (0 : Int32))) (fun (l3_5 : Int32) => some l3_5))) else none
set_option maxRecDepth 100000 in
set_option maxHeartbeats 4000000 in
theorem s_X0_worthOfNext_30 {l : Launch} {d N : Nat} {P : am_PT} (hPl : am_Pl 94 N P) (hd : 1 ≤ d) {I : am_IT} {a1 : Int32} {a2 : Int32} {r : Int32} (hF : F_X0_worthOfNext_30 I a1 a2 = some (r)) : am_C l d 0 0 mX0_worthOfNext [.ref 30, .int a1, .int a2] N P I (am_qi r N P I) := by
  refine am_body (sc := am_sc0) (n := 2) (by decide +kernel) (by decide) rfl ?_
  change G am_sc0 l d 0 0 mX0_worthOfNext (am_qi r N P I) 0 [.ref 30, .int a1, .int a2, .null, .null] [] N P I 0 0
  unfold F_X0_worthOfNext_30 at hF
  refine g_aload_n (pc := 0) dX0_worthOfNext_0 rfl rfl ?_
  refine g_getR (pc := 1) (k := 30) (r := 32) kf_X0_15.r rfl rfl (hPl.get (by decide) rfl) (hPl.lt (by decide)) dX0_worthOfNext_1 ?_
  refine g_iload_n (pc := 4) dX0_worthOfNext_4 rfl rfl ?_
  refine g_iconst (pc := 5) (v := (4 : Int32)) dX0_worthOfNext_5 rfl ?_
  refine g_imul (pc := 6) dX0_worthOfNext_6 ?_
  refine g_iload_n (pc := 7) dX0_worthOfNext_7 rfl rfl ?_
  refine g_iadd (pc := 8) dX0_worthOfNext_8 ?_
  obtain ⟨c_1, hF⟩ := am_gd hF
  refine g_iald (pc := 9) (k := 32) rfl (hPl.lt (by decide)) (am_ix_use c_1) dX0_worthOfNext_9 ?_
  obtain ⟨l3_2, e_l3_2, hF⟩ := am_let_el hF
  refine n_istore_n (pc := 10) (ls2 := [.ref 30, .int a1, .int a2, .int l3_2, .null]) e_l3_2 rfl dX0_worthOfNext_10 rfl (Nat.le_of_ble_eq_true rfl) ?_
  refine g_iconst (pc := 11) (v := (0 : Int32)) dX0_worthOfNext_11 rfl ?_
  refine n_istore (pc := 12) (ls2 := [.ref 30, .int a1, .int a2, .int l3_2, .int (0 : Int32)]) rfl rfl dX0_worthOfNext_12 (Nat.le_of_ble_eq_true rfl) ?_
  obtain ⟨l3_5, hL_9, hF⟩ := am_b1_el hF
  have hX_6 : G am_sc0 l d 0 0 mX0_worthOfNext (am_qi r N P I) 52 [.ref 30, .int a1, .int a2, .int l3_5, .null] [] N P I 0 0 := by
    refine g_iload_n (pc := 52) dX0_worthOfNext_52 rfl rfl ?_
    cases hF
    exact g_iret (pc := 53) rfl (Nat.le_refl _) (Nat.le_refl _) dX0_worthOfNext_53 ⟨rfl, rfl, rfl, rfl⟩
  clear hF
  have hC := am_loop (C := fun x => G am_sc0 l d 0 0 mX0_worthOfNext (am_qi r N P I) 14 [.ref 30, .int a1, .int a2, .int x.1, .int x.2] [] N P I 0 0) (by
    rintro ⟨l3_3, l4_4⟩ rr hF ih_7 hE_8
    replace hF := am_u2_ap hF
    change G am_sc0 l d 0 0 mX0_worthOfNext (am_qi r N P I) 14 [.ref 30, .int a1, .int a2, .int l3_3, .int l4_4] [] N P I 0 0
    refine g_iload (pc := 14) dX0_worthOfNext_14 rfl ?_
    refine g_iload_n (pc := 16) dX0_worthOfNext_16 rfl rfl ?_
    refine g_icmp_ge (pc := 17) (tgt := 52) dX0_worthOfNext_17 rfl (fun c_11 => ?_) (fun c_11 => ?_)
    · replace hF := am_yes c_11 hF
      cases hF
      cases hE_8 _ rfl
      exact g_weak hX_6 ⟨Or.inr rfl, Or.inr rfl, Or.inr rfl, Or.inr rfl, Or.inl rfl, trivial⟩
    · replace hF := am_no c_11 hF
      refine g_aload_n (pc := 20) dX0_worthOfNext_20 rfl rfl ?_
      refine g_getR (pc := 21) (k := 30) (r := 34) kf_X0_21.r rfl rfl (hPl.get (by decide) rfl) (hPl.lt (by decide)) dX0_worthOfNext_21 ?_
      refine g_iload (pc := 24) dX0_worthOfNext_24 rfl ?_
      obtain ⟨c_12, hF⟩ := am_gd hF
      refine g_iald (pc := 26) (k := 34) rfl (hPl.lt (by decide)) (am_ix_use c_12) dX0_worthOfNext_26 ?_
      refine g_iload_n (pc := 27) dX0_worthOfNext_27 rfl rfl ?_
      refine g_icmp_ne (pc := 28) (tgt := 46) dX0_worthOfNext_28 rfl (fun c_13 => ?_) (fun c_13 => ?_)
      · replace hF := am_no c_13 hF
        obtain ⟨l4_14, e_l4_14, hF⟩ := am_let_el hF
        refine n_iinc (pc := 46) (ls2 := [.ref 30, .int a1, .int a2, .int l3_3, .int l4_14]) e_l4_14 rfl rfl rfl dX0_worthOfNext_46 (Nat.le_of_ble_eq_true rfl) ?_
        refine g_goto (pc := 49) (tgt := 14) dX0_worthOfNext_49 rfl ?_
        cases hF
        exact ih_7 (l3_3, l4_14) rfl
      · replace hF := am_yes c_13 hF
        refine g_iload_n (pc := 31) dX0_worthOfNext_31 rfl rfl ?_
        refine g_aload_n (pc := 32) dX0_worthOfNext_32 rfl rfl ?_
        refine g_getR (pc := 33) (k := 30) (r := 33) kf_X0_18.r rfl rfl (hPl.get (by decide) rfl) (hPl.lt (by decide)) dX0_worthOfNext_33 ?_
        refine g_iload_n (pc := 36) dX0_worthOfNext_36 rfl rfl ?_
        refine g_bipush (pc := 37) (v := (7 : Int32)) dX0_worthOfNext_37 rfl ?_
        refine g_imul (pc := 39) dX0_worthOfNext_39 ?_
        refine g_iload (pc := 40) dX0_worthOfNext_40 rfl ?_
        refine g_iadd (pc := 42) dX0_worthOfNext_42 ?_
        obtain ⟨c_15, hF⟩ := am_gd hF
        refine g_iald (pc := 43) (k := 33) rfl (hPl.lt (by decide)) (am_ix_use c_15) dX0_worthOfNext_43 ?_
        refine g_iadd (pc := 44) dX0_worthOfNext_44 ?_
        obtain ⟨l3_16, e_l3_16, hF⟩ := am_let_el hF
        refine n_istore_n (pc := 45) (ls2 := [.ref 30, .int a1, .int a2, .int l3_16, .int l4_4]) e_l3_16 rfl dX0_worthOfNext_45 rfl (Nat.le_of_ble_eq_true rfl) ?_
        obtain ⟨l4_17, e_l4_17, hF⟩ := am_let_el hF
        refine n_iinc (pc := 46) (ls2 := [.ref 30, .int a1, .int a2, .int l3_16, .int l4_17]) e_l4_17 rfl rfl rfl dX0_worthOfNext_46 (Nat.le_of_ble_eq_true rfl) ?_
        refine g_goto (pc := 49) (tgt := 14) dX0_worthOfNext_49 rfl ?_
        cases hF
        exact ih_7 (l3_16, l4_17) rfl
    ) _ _ hL_9
  exact hC
