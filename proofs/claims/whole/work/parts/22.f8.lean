def F_X12_round_55 (I : am_IT) : Option (Int32 × am_IT) := am_b1 (F_X12_findsYards_55 I) (fun (I_2 : am_IT) => am_b2 (am_it am_fu (am_u3 (fun (l1_3 : Int32) (l2_4 : Int32) (I_5 : am_IT) => if (I_5 55 5) ≤ l2_4 then (some (.inr (l1_3, I_5))) else (am_let (l2_4 + (1 : Int32)) (fun (l3_14 : Int32) => am_b2 (am_it am_fu (am_u3 (fun (l1_15 : Int32) (l3_16 : Int32) (I_17 : am_IT) => if (I_17 55 5) ≤ l3_16 then (some (.inr (l1_15, I_17))) else (am_b2 (F_X12_tradesOf_55 I_17 l2_4 l3_16) (fun (r_27 : Int32) (I_28 : am_IT) => if r_27 = 0 then (am_let (l3_16 + (1 : Int32)) (fun (l3_31 : Int32) => some (.inl (l1_15, l3_31, I_28)))) else (am_let (l1_15 + (1 : Int32)) (fun (l1_32 : Int32) => am_let (l3_16 + (1 : Int32)) (fun (l3_33 : Int32) => some (.inl (l1_32, l3_33, I_28))))))))) (l1_3, l3_14, I_5)) (fun (l1_18 : Int32) (I_19 : am_IT) => am_let (l2_4 + (1 : Int32)) (fun (l2_34 : Int32) => some (.inl (l1_18, l2_34, I_19)))))))) ((0 : Int32), (0 : Int32), I_2)) (fun (l1_6 : Int32) (I_7 : am_IT) => some (l1_6, I_7)))
set_option maxRecDepth 100000 in
set_option maxHeartbeats 4000000 in
theorem s_X12_round_55 {l : Launch} {d N : Nat} {P : am_PT} (hPl : am_Pl 94 N P) (hd : 4 ≤ d) {I : am_IT} {r : Int32} {I2 : am_IT} (hF : F_X12_round_55 I = some (r, I2)) : am_C l d 0 0 mX12_round [.ref 55] N P I (am_qi r N P I2) := by
  refine am_body (sc := am_sc0) (n := 3) (by decide +kernel) (by decide) rfl ?_
  change G am_sc0 l d 0 0 mX12_round (am_qi r N P I2) 0 [.ref 55, .null, .null, .null] [] N P I 0 0
  unfold F_X12_round_55 at hF
  refine g_aload_n (pc := 0) dX12_round_0 rfl rfl ?_
  obtain ⟨I_2, h_1, hF⟩ := am_b1_el hF
  refine g_cVv (pc := 1) (k := 55) (As := []) (st := []) ky_X12_findsYards kl_X12_286 (s_X12_findsYards_55 (d := 2) (hPl) (Nat.le_refl _) h_1) rfl rfl rfl (hPl.lt (by decide)) (Nat.le_trans (by decide) hd) (Nat.le_of_ble_eq_true rfl) (Nat.le_refl _) (Nat.le_refl _) dX12_round_1 ?_
  refine g_iconst (pc := 4) (v := (0 : Int32)) dX12_round_4 rfl ?_
  refine n_istore_n (pc := 5) (ls2 := [.ref 55, .int (0 : Int32), .null, .null]) rfl rfl dX12_round_5 rfl (Nat.le_of_ble_eq_true rfl) ?_
  refine g_iconst (pc := 6) (v := (0 : Int32)) dX12_round_6 rfl ?_
  refine n_istore_n (pc := 7) (ls2 := [.ref 55, .int (0 : Int32), .int (0 : Int32), .null]) rfl rfl dX12_round_7 rfl (Nat.le_of_ble_eq_true rfl) ?_
  obtain ⟨l1_6, I_7, hL_11, hF⟩ := am_b2_el hF
  have hX_8 : G am_sc0 l d 0 0 mX12_round (am_qi r N P I2) 53 [.ref 55, .int l1_6, .null, .null] [] N P I_7 0 0 := by
    refine g_iload_n (pc := 53) dX12_round_53 rfl rfl ?_
    cases hF
    exact g_iret (pc := 54) rfl (Nat.le_refl _) (Nat.le_refl _) dX12_round_54 ⟨rfl, rfl, rfl, rfl⟩
  clear hF
  have hC := am_loop (C := fun x => G am_sc0 l d 0 0 mX12_round (am_qi r N P I2) 8 [.ref 55, .int x.1, .int x.2.1, .null] [] N P x.2.2 0 0) (by
    rintro ⟨l1_3, l2_4, I_5⟩ rr hF ih_9 hE_10
    replace hF := am_u3_ap hF
    change G am_sc0 l d 0 0 mX12_round (am_qi r N P I2) 8 [.ref 55, .int l1_3, .int l2_4, .null] [] N P I_5 0 0
    refine g_iload_n (pc := 8) dX12_round_8 rfl rfl ?_
    refine g_aload_n (pc := 9) dX12_round_9 rfl rfl ?_
    refine g_getI (pc := 10) (k := 55) kf_X12_145.r rfl rfl (hPl.lt (by decide)) dX12_round_10 ?_
    refine g_icmp_ge (pc := 13) (tgt := 53) dX12_round_13 rfl (fun c_13 => ?_) (fun c_13 => ?_)
    · replace hF := am_yes c_13 hF
      cases hF
      cases hE_10 _ rfl
      exact g_weak hX_8 ⟨Or.inr rfl, Or.inr rfl, Or.inl rfl, Or.inl rfl, trivial⟩
    · replace hF := am_no c_13 hF
      refine g_iload_n (pc := 16) dX12_round_16 rfl rfl ?_
      refine g_iconst (pc := 17) (v := (1 : Int32)) dX12_round_17 rfl ?_
      refine g_iadd (pc := 18) dX12_round_18 ?_
      obtain ⟨l3_14, e_l3_14, hF⟩ := am_let_el hF
      refine n_istore_n (pc := 19) (ls2 := [.ref 55, .int l1_3, .int l2_4, .int l3_14]) e_l3_14 rfl dX12_round_19 rfl (Nat.le_of_ble_eq_true rfl) ?_
      obtain ⟨l1_18, I_19, hL_23, hF⟩ := am_b2_el hF
      have hX_20 : G am_sc0 l d 0 0 mX12_round (am_qi r N P I2) 47 [.ref 55, .int l1_18, .int l2_4, .null] [] N P I_19 0 0 := by
        obtain ⟨l2_34, e_l2_34, hF⟩ := am_let_el hF
        refine n_iinc (pc := 47) (ls2 := [.ref 55, .int l1_18, .int l2_34, .null]) e_l2_34 rfl rfl rfl dX12_round_47 (Nat.le_of_ble_eq_true rfl) ?_
        refine g_goto (pc := 50) (tgt := 8) dX12_round_50 rfl ?_
        cases hF
        exact ih_9 (l1_18, l2_34, I_19) rfl
      clear hF
      have hC := am_loop (C := fun x => G am_sc0 l d 0 0 mX12_round (am_qi r N P I2) 20 [.ref 55, .int x.1, .int l2_4, .int x.2.1] [] N P x.2.2 0 0) (by
        rintro ⟨l1_15, l3_16, I_17⟩ rr hF ih_21 hE_22
        replace hF := am_u3_ap hF
        change G am_sc0 l d 0 0 mX12_round (am_qi r N P I2) 20 [.ref 55, .int l1_15, .int l2_4, .int l3_16] [] N P I_17 0 0
        refine g_iload_n (pc := 20) dX12_round_20 rfl rfl ?_
        refine g_aload_n (pc := 21) dX12_round_21 rfl rfl ?_
        refine g_getI (pc := 22) (k := 55) kf_X12_145.r rfl rfl (hPl.lt (by decide)) dX12_round_22 ?_
        refine g_icmp_ge (pc := 25) (tgt := 47) dX12_round_25 rfl (fun c_25 => ?_) (fun c_25 => ?_)
        · replace hF := am_yes c_25 hF
          cases hF
          cases hE_22 _ rfl
          exact g_weak hX_20 ⟨Or.inr rfl, Or.inr rfl, Or.inr rfl, Or.inl rfl, trivial⟩
        · replace hF := am_no c_25 hF
          refine g_aload_n (pc := 28) dX12_round_28 rfl rfl ?_
          refine g_iload_n (pc := 29) dX12_round_29 rfl rfl ?_
          refine g_iload_n (pc := 30) dX12_round_30 rfl rfl ?_
          obtain ⟨r_27, I_28, h_26, hF⟩ := am_b2_el hF
          refine g_cVz (pc := 31) (k := 55) (As := [.int l2_4, .int l3_16]) (st := []) ky_X12_tradesOf kl_X12_343 (s_X12_tradesOf_55 (d := 3) (hPl) (Nat.le_refl _) h_26) rfl rfl rfl (hPl.lt (by decide)) (Nat.le_trans (by decide) hd) (Nat.le_of_ble_eq_true rfl) (Nat.le_refl _) (Nat.le_refl _) dX12_round_31 ?_
          intro z_29
          refine g_if_eq (pc := 34) (tgt := 41) dX12_round_34 rfl (fun c_30 => ?_) (fun c_30 => ?_)
          · replace hF := am_yes c_30 hF
            obtain ⟨l3_31, e_l3_31, hF⟩ := am_let_el hF
            refine n_iinc (pc := 41) (ls2 := [.ref 55, .int l1_15, .int l2_4, .int l3_31]) e_l3_31 rfl rfl rfl dX12_round_41 (Nat.le_of_ble_eq_true rfl) ?_
            refine g_goto (pc := 44) (tgt := 20) dX12_round_44 rfl ?_
            cases hF
            exact ih_21 (l1_15, l3_31, I_28) rfl
          · replace hF := am_no c_30 hF
            refine g_iload_n (pc := 37) dX12_round_37 rfl rfl ?_
            refine g_iconst (pc := 38) (v := (1 : Int32)) dX12_round_38 rfl ?_
            refine g_iadd (pc := 39) dX12_round_39 ?_
            obtain ⟨l1_32, e_l1_32, hF⟩ := am_let_el hF
            refine n_istore_n (pc := 40) (ls2 := [.ref 55, .int l1_32, .int l2_4, .int l3_16]) e_l1_32 rfl dX12_round_40 rfl (Nat.le_of_ble_eq_true rfl) ?_
            obtain ⟨l3_33, e_l3_33, hF⟩ := am_let_el hF
            refine n_iinc (pc := 41) (ls2 := [.ref 55, .int l1_32, .int l2_4, .int l3_33]) e_l3_33 rfl rfl rfl dX12_round_41 (Nat.le_of_ble_eq_true rfl) ?_
            refine g_goto (pc := 44) (tgt := 20) dX12_round_44 rfl ?_
            cases hF
            exact ih_21 (l1_32, l3_33, I_28) rfl
        ) _ _ hL_23
      exact hC
    ) _ _ hL_11
  exact hC
def F_X12_trade_55 (I : am_IT) : Option (Int32 × am_IT) := am_let (up2 I 55 0 (0 : Int32)) (fun (I_1 : am_IT) => am_b2 (F_X12_round_55 I_1) (fun (r_3 : Int32) (I_4 : am_IT) => some (r_3, I_4)))
set_option maxRecDepth 100000 in
set_option maxHeartbeats 4000000 in
theorem s_X12_trade_55 {l : Launch} {d N : Nat} {P : am_PT} (hPl : am_Pl 94 N P) (hd : 5 ≤ d) {I : am_IT} {r : Int32} {I2 : am_IT} (hF : F_X12_trade_55 I = some (r, I2)) : am_C l d 0 0 mX12_trade [.ref 55] N P I (am_qi r N P I2) := by
  refine am_body (sc := am_sc0) (n := 0) (by decide +kernel) (by decide) rfl ?_
  change G am_sc0 l d 0 0 mX12_trade (am_qi r N P I2) 0 [.ref 55] [] N P I 0 0
  unfold F_X12_trade_55 at hF
  refine g_aload_n (pc := 0) dX12_trade_0 rfl rfl ?_
  refine g_iconst (pc := 1) (v := (0 : Int32)) dX12_trade_1 rfl ?_
  obtain ⟨I_1, e_I_1, hF⟩ := am_let_el hF
  refine n_putI (pc := 2) (k := 55) e_I_1 kf_X12_134 rfl rfl (hPl.lt (by decide)) dX12_trade_2 ?_
  refine g_aload_n (pc := 5) dX12_trade_5 rfl rfl ?_
  obtain ⟨r_3, I_4, h_2, hF⟩ := am_b2_el hF
  refine g_cVi (pc := 6) (k := 55) (As := []) (st := []) ky_X12_round kl_X12_346 (s_X12_round_55 (d := 4) (hPl) (Nat.le_refl _) h_2) rfl rfl rfl (hPl.lt (by decide)) (Nat.le_trans (by decide) hd) (Nat.le_of_ble_eq_true rfl) (Nat.le_refl _) (Nat.le_refl _) dX12_trade_6 ?_
  cases hF
  exact g_iret (pc := 9) rfl (Nat.le_refl _) (Nat.le_refl _) dX12_trade_9 ⟨rfl, rfl, rfl, rfl⟩
def F_X12_stand_55 (I : am_IT) : Option (Int32 × am_IT) := am_let (up2 I 55 0 (0 : Int32)) (fun (I_1 : am_IT) => am_b1 (am_it am_fu (am_u2 (fun (l1_2 : Int32) (I_3 : am_IT) => if (I_3 55 4) ≤ l1_2 then (some (.inr (I_3))) else (if am_ix ((0 : Int32) + l1_2) 35 = true then (if am_ix ((28 : Int32) + l1_2) 35 = true then (am_let (up2 I_3 72 ((28 : Int32) + l1_2).toNatClampNeg (I_3 72 ((0 : Int32) + l1_2).toNatClampNeg)) (fun (I_13 : am_IT) => am_let (l1_2 + (1 : Int32)) (fun (l1_14 : Int32) => some (.inl (l1_14, I_13))))) else none) else none))) ((0 : Int32), I_1)) (fun (I_4 : am_IT) => am_b3 (am_it am_fu (am_u4 (fun (l1_15 : Int32) (l2_16 : Int32) (l3_17 : Int32) (I_18 : am_IT) => if (30 : Int32) ≤ l3_17 then (some (.inr (l1_15, l2_16, I_18))) else (if l2_16 ≤ 0 then (some (.inr (l1_15, l2_16, I_18))) else (am_b2 (F_X12_round_55 I_18) (fun (r_30 : Int32) (I_31 : am_IT) => am_let (l1_15 + r_30) (fun (l1_32 : Int32) => am_let (l3_17 + (1 : Int32)) (fun (l3_33 : Int32) => some (.inl (l1_32, r_30, l3_33, I_31))))))))) ((0 : Int32), (1 : Int32), (0 : Int32), I_4)) (fun (l1_19 : Int32) (l2_20 : Int32) (I_21 : am_IT) => am_b1 (am_it am_fu (am_u2 (fun (l3_34 : Int32) (I_35 : am_IT) => if (I_35 55 4) ≤ l3_34 then (some (.inr (I_35))) else (if am_ix ((28 : Int32) + l3_34) 35 = true then (if am_ix ((0 : Int32) + l3_34) 35 = true then (am_let (up2 I_35 72 ((0 : Int32) + l3_34).toNatClampNeg (I_35 72 ((28 : Int32) + l3_34).toNatClampNeg)) (fun (I_45 : am_IT) => am_let (l3_34 + (1 : Int32)) (fun (l3_46 : Int32) => some (.inl (l3_46, I_45))))) else none) else none))) ((0 : Int32), I_21)) (fun (I_36 : am_IT) => if l2_20 ≤ 0 then (some (l1_19, I_36)) else (some ((-1 : Int32), I_36))))))
set_option maxRecDepth 100000 in
set_option maxHeartbeats 4000000 in
theorem s_X12_stand_55 {l : Launch} {d N : Nat} {P : am_PT} (hPl : am_Pl 94 N P) (hd : 5 ≤ d) {I : am_IT} {r : Int32} {I2 : am_IT} (hF : F_X12_stand_55 I = some (r, I2)) : am_C l d 0 0 mX12_stand [.ref 55] N P I (am_qi r N P I2) := by
  refine am_body (sc := am_sc0) (n := 3) (by decide +kernel) (by decide) rfl ?_
  change G am_sc0 l d 0 0 mX12_stand (am_qi r N P I2) 0 [.ref 55, .null, .null, .null] [] N P I 0 0
  unfold F_X12_stand_55 at hF
  refine g_aload_n (pc := 0) dX12_stand_0 rfl rfl ?_
  refine g_iconst (pc := 1) (v := (0 : Int32)) dX12_stand_1 rfl ?_
  obtain ⟨I_1, e_I_1, hF⟩ := am_let_el hF
  refine n_putI (pc := 2) (k := 55) e_I_1 kf_X12_134 rfl rfl (hPl.lt (by decide)) dX12_stand_2 ?_
  refine g_iconst (pc := 5) (v := (0 : Int32)) dX12_stand_5 rfl ?_
  refine n_istore_n (pc := 6) (ls2 := [.ref 55, .int (0 : Int32), .null, .null]) rfl rfl dX12_stand_6 rfl (Nat.le_of_ble_eq_true rfl) ?_
  obtain ⟨I_4, hL_8, hF⟩ := am_b1_el hF
  have hX_5 : G am_sc0 l d 0 0 mX12_stand (am_qi r N P I2) 38 [.ref 55, .null, .null, .null] [] N P I_4 0 0 := by
    refine g_iconst (pc := 38) (v := (0 : Int32)) dX12_stand_38 rfl ?_
    refine n_istore_n (pc := 39) (ls2 := [.ref 55, .int (0 : Int32), .null, .null]) rfl rfl dX12_stand_39 rfl (Nat.le_of_ble_eq_true rfl) ?_
    refine g_iconst (pc := 40) (v := (1 : Int32)) dX12_stand_40 rfl ?_
    refine n_istore_n (pc := 41) (ls2 := [.ref 55, .int (0 : Int32), .int (1 : Int32), .null]) rfl rfl dX12_stand_41 rfl (Nat.le_of_ble_eq_true rfl) ?_
    refine g_iconst (pc := 42) (v := (0 : Int32)) dX12_stand_42 rfl ?_
    refine n_istore_n (pc := 43) (ls2 := [.ref 55, .int (0 : Int32), .int (1 : Int32), .int (0 : Int32)]) rfl rfl dX12_stand_43 rfl (Nat.le_of_ble_eq_true rfl) ?_
    obtain ⟨l1_19, l2_20, I_21, hL_25, hF⟩ := am_b3_el hF
    have hX_22 : G am_sc0 l d 0 0 mX12_stand (am_qi r N P I2) 69 [.ref 55, .int l1_19, .int l2_20, .null] [] N P I_21 0 0 := by
      refine g_iconst (pc := 69) (v := (0 : Int32)) dX12_stand_69 rfl ?_
      refine n_istore_n (pc := 70) (ls2 := [.ref 55, .int l1_19, .int l2_20, .int (0 : Int32)]) rfl rfl dX12_stand_70 rfl (Nat.le_of_ble_eq_true rfl) ?_
      obtain ⟨I_36, hL_40, hF⟩ := am_b1_el hF
      have hX_37 : G am_sc0 l d 0 0 mX12_stand (am_qi r N P I2) 102 [.ref 55, .int l1_19, .int l2_20, .null] [] N P I_36 0 0 := by
        refine g_iload_n (pc := 102) dX12_stand_102 rfl rfl ?_
        refine g_if_le (pc := 103) (tgt := 110) dX12_stand_103 rfl (fun c_47 => ?_) (fun c_47 => ?_)
        · replace hF := am_yes c_47 hF
          refine g_iload_n (pc := 110) dX12_stand_110 rfl rfl ?_
          cases hF
          exact g_iret (pc := 111) rfl (Nat.le_refl _) (Nat.le_refl _) dX12_stand_111 ⟨rfl, rfl, rfl, rfl⟩
        · replace hF := am_no c_47 hF
          refine g_iconst (pc := 106) (v := (-1 : Int32)) dX12_stand_106 (by decide) ?_
          refine g_goto (pc := 107) (tgt := 111) dX12_stand_107 rfl ?_
          cases hF
          exact g_iret (pc := 111) rfl (Nat.le_refl _) (Nat.le_refl _) dX12_stand_111 ⟨rfl, rfl, rfl, rfl⟩
      clear hF
      have hC := am_loop (C := fun x => G am_sc0 l d 0 0 mX12_stand (am_qi r N P I2) 71 [.ref 55, .int l1_19, .int l2_20, .int x.1] [] N P x.2 0 0) (by
        rintro ⟨l3_34, I_35⟩ rr hF ih_38 hE_39
        replace hF := am_u2_ap hF
        change G am_sc0 l d 0 0 mX12_stand (am_qi r N P I2) 71 [.ref 55, .int l1_19, .int l2_20, .int l3_34] [] N P I_35 0 0
        refine g_iload_n (pc := 71) dX12_stand_71 rfl rfl ?_
        refine g_aload_n (pc := 72) dX12_stand_72 rfl rfl ?_
        refine g_getI (pc := 73) (k := 55) kf_X12_142.r rfl rfl (hPl.lt (by decide)) dX12_stand_73 ?_
        refine g_icmp_ge (pc := 76) (tgt := 102) dX12_stand_76 rfl (fun c_42 => ?_) (fun c_42 => ?_)
        · replace hF := am_yes c_42 hF
          cases hF
          cases hE_39 _ rfl
          exact g_weak hX_37 ⟨Or.inr rfl, Or.inr rfl, Or.inr rfl, Or.inl rfl, trivial⟩
        · replace hF := am_no c_42 hF
          refine g_aload_n (pc := 79) dX12_stand_79 rfl rfl ?_
          refine g_getR (pc := 80) (k := 55) (r := 72) kf_X12_62.r rfl rfl (hPl.get (by decide) rfl) (hPl.lt (by decide)) dX12_stand_80 ?_
          refine g_iconst (pc := 83) (v := (0 : Int32)) dX12_stand_83 rfl ?_
          refine g_iload_n (pc := 84) dX12_stand_84 rfl rfl ?_
          refine g_iadd (pc := 85) dX12_stand_85 ?_
          refine g_aload_n (pc := 86) dX12_stand_86 rfl rfl ?_
          refine g_getR (pc := 87) (k := 55) (r := 72) kf_X12_62.r rfl rfl (hPl.get (by decide) rfl) (hPl.lt (by decide)) dX12_stand_87 ?_
          refine g_bipush (pc := 90) (v := (28 : Int32)) dX12_stand_90 rfl ?_
          refine g_iload_n (pc := 92) dX12_stand_92 rfl rfl ?_
          refine g_iadd (pc := 93) dX12_stand_93 ?_
          obtain ⟨c_43, hF⟩ := am_gd hF
          refine g_iald (pc := 94) (k := 72) rfl (hPl.lt (by decide)) (am_ix_use c_43) dX12_stand_94 ?_
          obtain ⟨c_44, hF⟩ := am_gd hF
          obtain ⟨I_45, e_I_45, hF⟩ := am_let_el hF
          refine n_iast (pc := 95) (k := 72) e_I_45 rfl (hPl.lt (by decide)) (am_ix_use c_44) dX12_stand_95 ?_
          obtain ⟨l3_46, e_l3_46, hF⟩ := am_let_el hF
          refine n_iinc (pc := 96) (ls2 := [.ref 55, .int l1_19, .int l2_20, .int l3_46]) e_l3_46 rfl rfl rfl dX12_stand_96 (Nat.le_of_ble_eq_true rfl) ?_
          refine g_goto (pc := 99) (tgt := 71) dX12_stand_99 rfl ?_
          cases hF
          exact ih_38 (l3_46, I_45) rfl
        ) _ _ hL_40
      exact hC
    clear hF
    have hC := am_loop (C := fun x => G am_sc0 l d 0 0 mX12_stand (am_qi r N P I2) 44 [.ref 55, .int x.1, .int x.2.1, .int x.2.2.1] [] N P x.2.2.2 0 0) (by
      rintro ⟨l1_15, l2_16, l3_17, I_18⟩ rr hF ih_23 hE_24
      replace hF := am_u4_ap hF
      change G am_sc0 l d 0 0 mX12_stand (am_qi r N P I2) 44 [.ref 55, .int l1_15, .int l2_16, .int l3_17] [] N P I_18 0 0
      refine g_iload_n (pc := 44) dX12_stand_44 rfl rfl ?_
      refine g_bipush (pc := 45) (v := (30 : Int32)) dX12_stand_45 rfl ?_
      refine g_icmp_ge (pc := 47) (tgt := 69) dX12_stand_47 rfl (fun c_27 => ?_) (fun c_27 => ?_)
      · replace hF := am_yes c_27 hF
        cases hF
        cases hE_24 _ rfl
        exact g_weak hX_22 ⟨Or.inr rfl, Or.inr rfl, Or.inr rfl, Or.inl rfl, trivial⟩
      · replace hF := am_no c_27 hF
        refine g_iload_n (pc := 50) dX12_stand_50 rfl rfl ?_
        refine g_if_le (pc := 51) (tgt := 69) dX12_stand_51 rfl (fun c_28 => ?_) (fun c_28 => ?_)
        · replace hF := am_yes c_28 hF
          cases hF
          cases hE_24 _ rfl
          exact g_weak hX_22 ⟨Or.inr rfl, Or.inr rfl, Or.inr rfl, Or.inl rfl, trivial⟩
        · replace hF := am_no c_28 hF
          refine g_aload_n (pc := 54) dX12_stand_54 rfl rfl ?_
          obtain ⟨r_30, I_31, h_29, hF⟩ := am_b2_el hF
          refine g_cVi (pc := 55) (k := 55) (As := []) (st := []) ky_X12_round kl_X12_346 (s_X12_round_55 (d := 4) (hPl) (Nat.le_refl _) h_29) rfl rfl rfl (hPl.lt (by decide)) (Nat.le_trans (by decide) hd) (Nat.le_of_ble_eq_true rfl) (Nat.le_refl _) (Nat.le_refl _) dX12_stand_55 ?_
          refine n_istore_n (pc := 58) (ls2 := [.ref 55, .int l1_15, .int r_30, .int l3_17]) rfl rfl dX12_stand_58 rfl (Nat.le_of_ble_eq_true rfl) ?_
          refine g_iload_n (pc := 59) dX12_stand_59 rfl rfl ?_
          refine g_iload_n (pc := 60) dX12_stand_60 rfl rfl ?_
          refine g_iadd (pc := 61) dX12_stand_61 ?_
          obtain ⟨l1_32, e_l1_32, hF⟩ := am_let_el hF
          refine n_istore_n (pc := 62) (ls2 := [.ref 55, .int l1_32, .int r_30, .int l3_17]) e_l1_32 rfl dX12_stand_62 rfl (Nat.le_of_ble_eq_true rfl) ?_
          obtain ⟨l3_33, e_l3_33, hF⟩ := am_let_el hF
          refine n_iinc (pc := 63) (ls2 := [.ref 55, .int l1_32, .int r_30, .int l3_33]) e_l3_33 rfl rfl rfl dX12_stand_63 (Nat.le_of_ble_eq_true rfl) ?_
          refine g_goto (pc := 66) (tgt := 44) dX12_stand_66 rfl ?_
          cases hF
          exact ih_23 (l1_32, r_30, l3_33, I_31) rfl
      ) _ _ hL_25
    exact hC
  clear hF
  have hC := am_loop (C := fun x => G am_sc0 l d 0 0 mX12_stand (am_qi r N P I2) 7 [.ref 55, .int x.1, .null, .null] [] N P x.2 0 0) (by
    rintro ⟨l1_2, I_3⟩ rr hF ih_6 hE_7
    replace hF := am_u2_ap hF
    change G am_sc0 l d 0 0 mX12_stand (am_qi r N P I2) 7 [.ref 55, .int l1_2, .null, .null] [] N P I_3 0 0
    refine g_iload_n (pc := 7) dX12_stand_7 rfl rfl ?_
    refine g_aload_n (pc := 8) dX12_stand_8 rfl rfl ?_
    refine g_getI (pc := 9) (k := 55) kf_X12_142.r rfl rfl (hPl.lt (by decide)) dX12_stand_9 ?_
    refine g_icmp_ge (pc := 12) (tgt := 38) dX12_stand_12 rfl (fun c_10 => ?_) (fun c_10 => ?_)
    · replace hF := am_yes c_10 hF
      cases hF
      cases hE_7 _ rfl
      exact g_weak hX_5 ⟨Or.inr rfl, Or.inl rfl, Or.inl rfl, Or.inl rfl, trivial⟩
    · replace hF := am_no c_10 hF
      refine g_aload_n (pc := 15) dX12_stand_15 rfl rfl ?_
      refine g_getR (pc := 16) (k := 55) (r := 72) kf_X12_62.r rfl rfl (hPl.get (by decide) rfl) (hPl.lt (by decide)) dX12_stand_16 ?_
      refine g_bipush (pc := 19) (v := (28 : Int32)) dX12_stand_19 rfl ?_
      refine g_iload_n (pc := 21) dX12_stand_21 rfl rfl ?_
      refine g_iadd (pc := 22) dX12_stand_22 ?_
      refine g_aload_n (pc := 23) dX12_stand_23 rfl rfl ?_
      refine g_getR (pc := 24) (k := 55) (r := 72) kf_X12_62.r rfl rfl (hPl.get (by decide) rfl) (hPl.lt (by decide)) dX12_stand_24 ?_
      refine g_iconst (pc := 27) (v := (0 : Int32)) dX12_stand_27 rfl ?_
      refine g_iload_n (pc := 28) dX12_stand_28 rfl rfl ?_
      refine g_iadd (pc := 29) dX12_stand_29 ?_
      obtain ⟨c_11, hF⟩ := am_gd hF
      refine g_iald (pc := 30) (k := 72) rfl (hPl.lt (by decide)) (am_ix_use c_11) dX12_stand_30 ?_
      obtain ⟨c_12, hF⟩ := am_gd hF
      obtain ⟨I_13, e_I_13, hF⟩ := am_let_el hF
      refine n_iast (pc := 31) (k := 72) e_I_13 rfl (hPl.lt (by decide)) (am_ix_use c_12) dX12_stand_31 ?_
      obtain ⟨l1_14, e_l1_14, hF⟩ := am_let_el hF
      refine n_iinc (pc := 32) (ls2 := [.ref 55, .int l1_14, .null, .null]) e_l1_14 rfl rfl rfl dX12_stand_32 (Nat.le_of_ble_eq_true rfl) ?_
      refine g_goto (pc := 35) (tgt := 7) dX12_stand_35 rfl ?_
      cases hF
      exact ih_6 (l1_14, I_13) rfl
    ) _ _ hL_8
  exact hC
def F_X12_hope_55 (I : am_IT) (a1 : Int32) (a2 : Int32) (a3 : Int32) (a4 : Int32) (a5 : Int32) : Option (Int32 × am_IT) := am_let (up2 I 55 0 (0 : Int32)) (fun (I_1 : am_IT) => am_b1 (F_X12_isWall_55 I_1 a1) (fun (r_3 : Int32) => if r_3 = 0 then (some ((-10 : Int32), I_1)) else (am_b1 (F_X12_isColour_55 I_1 a2) (fun (r_7 : Int32) => if r_7 = 0 then (some ((-10 : Int32), I_1)) else (am_b1 (F_X12_isIn_55 I_1 a3 (1 : Int32) (I_1 55 5)) (fun (r_11 : Int32) => if r_11 = 0 then (some ((-10 : Int32), I_1)) else (am_b1 (F_X12_isIn_55 I_1 a4 (0 : Int32) (9999 : Int32)) (fun (r_15 : Int32) => if r_15 = 0 then (some ((-10 : Int32), I_1)) else (am_b1 (F_X12_isIn_55 I_1 a5 (0 : Int32) (1 : Int32)) (fun (r_19 : Int32) => if r_19 = 0 then (some ((-10 : Int32), I_1)) else (am_b1 (F_X12_findsYards_55 I_1) (fun (I_23 : am_IT) => am_b1 (am_it am_fu (am_u2 (fun (l6_24 : Int32) (I_25 : am_IT) => if (I_25 55 4) ≤ l6_24 then (some (.inr (I_25))) else (if l6_24 = a1 then (if am_ix ((21 : Int32) + l6_24) 35 = true then (am_let (up2 I_25 72 ((21 : Int32) + l6_24).toNatClampNeg a2) (fun (I_39 : am_IT) => am_let (l6_24 + (1 : Int32)) (fun (l6_40 : Int32) => some (.inl (l6_40, I_39))))) else none) else (if am_ix ((0 : Int32) + l6_24) 35 = true then (if am_ix ((21 : Int32) + l6_24) 35 = true then (am_let (up2 I_25 72 ((21 : Int32) + l6_24).toNatClampNeg (I_25 72 ((0 : Int32) + l6_24).toNatClampNeg)) (fun (I_36 : am_IT) => am_let (l6_24 + (1 : Int32)) (fun (l6_37 : Int32) => some (.inl (l6_37, I_36))))) else none) else none)))) ((0 : Int32), I_23)) (fun (I_26 : am_IT) => am_b1 (am_it am_fu (am_u2 (fun (l6_41 : Int32) (I_42 : am_IT) => if (I_42 55 5) ≤ l6_41 then (some (.inr (I_42))) else (am_b1 (F_X12_worthOf_55 I_42 l6_41 (21 : Int32)) (fun (r_51 : Int32) => am_b1 (F_X12_worthOf_55 I_42 l6_41 (0 : Int32)) (fun (r_53 : Int32) => if am_ix l6_41 7 = true then (am_let (up2 I_42 85 l6_41.toNatClampNeg (r_51 - r_53)) (fun (I_55 : am_IT) => am_let (l6_41 + (1 : Int32)) (fun (l6_56 : Int32) => some (.inl (l6_56, I_55))))) else none))))) ((0 : Int32), I_26)) (fun (I_43 : am_IT) => am_b2 (am_it am_fu (am_u3 (fun (l6_57 : Int32) (l7_58 : Int32) (l8_59 : Int32) => if ((1 : Int32) <<< ((I_43 55 5) &&& 31)) ≤ l8_59 then (some (.inr (l6_57, l7_58))) else (am_b1 (F_X12_ones_55 I_43 l8_59) (fun (r_69 : Int32) => am_b1 (am_it am_fu (am_u2 (fun (l10_70 : Int32) (l11_71 : Int32) => if (I_43 55 5) ≤ l11_71 then (some (.inr (l10_70))) else (if l10_70 = 0 then (some (.inr (l10_70))) else (am_b1 (if ((l8_59 >>> (l11_71 &&& 31)) &&& (1 : Int32)) = (1 : Int32) then (some ((1 : Int32))) else (some ((0 : Int32)))) (fun (v_81 : Int32) => am_b1 (if r_69 < a3 then (some ((0 : Int32))) else (if am_ix l11_71 7 = true then (some (I_43 85 l11_71.toNatClampNeg)) else none)) (fun (v_85 : Int32) => am_b1 (if v_81 = 0 then (some ((0 : Int32))) else (some (a4))) (fun (v_90 : Int32) => am_let (v_85 - v_90) (fun (l13_93 : Int32) => am_b1 (if v_81 = 0 then (some (r_69 + (1 : Int32))) else (some (r_69 - (1 : Int32)))) (fun (v_95 : Int32) => am_b1 (if v_95 < a3 then (some ((0 : Int32))) else (if am_ix l11_71 7 = true then (some (I_43 85 l11_71.toNatClampNeg)) else none)) (fun (v_99 : Int32) => am_b1 (if v_81 = 0 then (some (a4)) else (some ((0 : Int32)))) (fun (v_104 : Int32) => if l13_93 < (v_99 - v_104) then (am_let (l11_71 + (1 : Int32)) (fun (l11_108 : Int32) => some (.inl ((0 : Int32), l11_108)))) else (am_let (l11_71 + (1 : Int32)) (fun (l11_109 : Int32) => some (.inl ((1 : Int32), l11_109))))))))))))))) ((1 : Int32), (0 : Int32))) (fun (l10_72 : Int32) => if l10_72 = 0 then (am_let (l8_59 + (1 : Int32)) (fun (l8_115 : Int32) => some (.inl (l6_57, l7_58, l8_115)))) else (am_let (l6_57 + (1 : Int32)) (fun (l6_111 : Int32) => if l7_58 = (-1 : Int32) then (am_let (l8_59 + (1 : Int32)) (fun (l8_114 : Int32) => some (.inl (l6_111, l8_59, l8_114)))) else (am_let (l8_59 + (1 : Int32)) (fun (l8_113 : Int32) => some (.inl (l6_111, l7_58, l8_113))))))))))) ((0 : Int32), (-1 : Int32), (0 : Int32))) (fun (l6_60 : Int32) (l7_61 : Int32) => if a5 = 0 then (some (l6_60, I_43)) else (some (l7_61, I_43)))))))))))))))))
set_option maxRecDepth 100000 in
set_option maxHeartbeats 4000000 in
theorem s_X12_hope_55 {l : Launch} {d N : Nat} {P : am_PT} (hPl : am_Pl 94 N P) (hd : 3 ≤ d) {I : am_IT} {a1 : Int32} {a2 : Int32} {a3 : Int32} {a4 : Int32} {a5 : Int32} {r : Int32} {I2 : am_IT} (hF : F_X12_hope_55 I a1 a2 a3 a4 a5 = some (r, I2)) : am_C l d 0 0 mX12_hope [.ref 55, .int a1, .int a2, .int a3, .int a4, .int a5] N P I (am_qi r N P I2) := by
  refine am_body (sc := am_sc0) (n := 9) (by decide +kernel) (by decide) rfl ?_
  change G am_sc0 l d 0 0 mX12_hope (am_qi r N P I2) 0 [.ref 55, .int a1, .int a2, .int a3, .int a4, .int a5, .null, .null, .null, .null, .null, .null, .null, .null, .null] [] N P I 0 0
  unfold F_X12_hope_55 at hF
  refine g_aload_n (pc := 0) dX12_hope_0 rfl rfl ?_
  refine g_iconst (pc := 1) (v := (0 : Int32)) dX12_hope_1 rfl ?_
  obtain ⟨I_1, e_I_1, hF⟩ := am_let_el hF
  refine n_putI (pc := 2) (k := 55) e_I_1 kf_X12_134 rfl rfl (hPl.lt (by decide)) dX12_hope_2 ?_
  refine g_aload_n (pc := 5) dX12_hope_5 rfl rfl ?_
  refine g_iload_n (pc := 6) dX12_hope_6 rfl rfl ?_
  obtain ⟨r_3, h_2, hF⟩ := am_b1_el hF
  refine g_cVz (pc := 7) (k := 55) (As := [.int a1]) (st := []) ky_X12_isWall kl_X12_178 (s_X12_isWall_55 (d := 1) (hPl) (Nat.le_refl _) h_2) rfl rfl rfl (hPl.lt (by decide)) (Nat.le_trans (by decide) hd) (Nat.le_of_ble_eq_true rfl) (Nat.le_refl _) (Nat.le_refl _) dX12_hope_7 ?_
  intro z_4
  refine g_if_eq (pc := 10) (tgt := 58) dX12_hope_10 rfl (fun c_5 => ?_) (fun c_5 => ?_)
  · replace hF := am_yes c_5 hF
    refine g_bipush (pc := 58) (v := (-10 : Int32)) dX12_hope_58 (by decide) ?_
    cases hF
    exact g_iret (pc := 60) rfl (Nat.le_refl _) (Nat.le_refl _) dX12_hope_60 ⟨rfl, rfl, rfl, rfl⟩
  · replace hF := am_no c_5 hF
    refine g_aload_n (pc := 13) dX12_hope_13 rfl rfl ?_
    refine g_iload_n (pc := 14) dX12_hope_14 rfl rfl ?_
    obtain ⟨r_7, h_6, hF⟩ := am_b1_el hF
    refine g_cVz (pc := 15) (k := 55) (As := [.int a2]) (st := []) ky_X12_isColour kl_X12_164 (s_X12_isColour_55 (d := 1) (hPl) (Nat.le_refl _) h_6) rfl rfl rfl (hPl.lt (by decide)) (Nat.le_trans (by decide) hd) (Nat.le_of_ble_eq_true rfl) (Nat.le_refl _) (Nat.le_refl _) dX12_hope_15 ?_
    intro z_8
    refine g_if_eq (pc := 18) (tgt := 58) dX12_hope_18 rfl (fun c_9 => ?_) (fun c_9 => ?_)
    · replace hF := am_yes c_9 hF
      refine g_bipush (pc := 58) (v := (-10 : Int32)) dX12_hope_58 (by decide) ?_
      cases hF
      exact g_iret (pc := 60) rfl (Nat.le_refl _) (Nat.le_refl _) dX12_hope_60 ⟨rfl, rfl, rfl, rfl⟩
    · replace hF := am_no c_9 hF
      refine g_aload_n (pc := 21) dX12_hope_21 rfl rfl ?_
      refine g_iload_n (pc := 22) dX12_hope_22 rfl rfl ?_
      refine g_iconst (pc := 23) (v := (1 : Int32)) dX12_hope_23 rfl ?_
      refine g_aload_n (pc := 24) dX12_hope_24 rfl rfl ?_
      refine g_getI (pc := 25) (k := 55) kf_X12_145.r rfl rfl (hPl.lt (by decide)) dX12_hope_25 ?_
      obtain ⟨r_11, h_10, hF⟩ := am_b1_el hF
      refine g_cVz (pc := 28) (k := 55) (As := [.int a3, .int (1 : Int32), .int (I_1 55 5)]) (st := []) ky_X12_isIn kl_X12_148 (s_X12_isIn_55 (d := 1) (hPl) (Nat.le_refl _) h_10) rfl rfl rfl (hPl.lt (by decide)) (Nat.le_trans (by decide) hd) (Nat.le_of_ble_eq_true rfl) (Nat.le_refl _) (Nat.le_refl _) dX12_hope_28 ?_
      intro z_12
      refine g_if_eq (pc := 31) (tgt := 58) dX12_hope_31 rfl (fun c_13 => ?_) (fun c_13 => ?_)
      · replace hF := am_yes c_13 hF
        refine g_bipush (pc := 58) (v := (-10 : Int32)) dX12_hope_58 (by decide) ?_
        cases hF
        exact g_iret (pc := 60) rfl (Nat.le_refl _) (Nat.le_refl _) dX12_hope_60 ⟨rfl, rfl, rfl, rfl⟩
      · replace hF := am_no c_13 hF
        refine g_aload_n (pc := 34) dX12_hope_34 rfl rfl ?_
        refine g_iload (pc := 35) dX12_hope_35 rfl ?_
        refine g_iconst (pc := 37) (v := (0 : Int32)) dX12_hope_37 rfl ?_
        refine g_sipush (pc := 38) (v := (9999 : Int32)) dX12_hope_38 rfl ?_
        obtain ⟨r_15, h_14, hF⟩ := am_b1_el hF
        refine g_cVz (pc := 41) (k := 55) (As := [.int a4, .int (0 : Int32), .int (9999 : Int32)]) (st := []) ky_X12_isIn kl_X12_148 (s_X12_isIn_55 (d := 1) (hPl) (Nat.le_refl _) h_14) rfl rfl rfl (hPl.lt (by decide)) (Nat.le_trans (by decide) hd) (Nat.le_of_ble_eq_true rfl) (Nat.le_refl _) (Nat.le_refl _) dX12_hope_41 ?_
        intro z_16
        refine g_if_eq (pc := 44) (tgt := 58) dX12_hope_44 rfl (fun c_17 => ?_) (fun c_17 => ?_)
        · replace hF := am_yes c_17 hF
          refine g_bipush (pc := 58) (v := (-10 : Int32)) dX12_hope_58 (by decide) ?_
          cases hF
          exact g_iret (pc := 60) rfl (Nat.le_refl _) (Nat.le_refl _) dX12_hope_60 ⟨rfl, rfl, rfl, rfl⟩
        · replace hF := am_no c_17 hF
          refine g_aload_n (pc := 47) dX12_hope_47 rfl rfl ?_
          refine g_iload (pc := 48) dX12_hope_48 rfl ?_
          refine g_iconst (pc := 50) (v := (0 : Int32)) dX12_hope_50 rfl ?_
          refine g_iconst (pc := 51) (v := (1 : Int32)) dX12_hope_51 rfl ?_
          obtain ⟨r_19, h_18, hF⟩ := am_b1_el hF
          refine g_cVz (pc := 52) (k := 55) (As := [.int a5, .int (0 : Int32), .int (1 : Int32)]) (st := []) ky_X12_isIn kl_X12_148 (s_X12_isIn_55 (d := 1) (hPl) (Nat.le_refl _) h_18) rfl rfl rfl (hPl.lt (by decide)) (Nat.le_trans (by decide) hd) (Nat.le_of_ble_eq_true rfl) (Nat.le_refl _) (Nat.le_refl _) dX12_hope_52 ?_
          intro z_20
          refine g_if_ne (pc := 55) (tgt := 61) dX12_hope_55 rfl (fun c_21 => ?_) (fun c_21 => ?_)
          · replace hF := am_no c_21 hF
            refine g_aload_n (pc := 61) dX12_hope_61 rfl rfl ?_
            obtain ⟨I_23, h_22, hF⟩ := am_b1_el hF
            refine g_cVv (pc := 62) (k := 55) (As := []) (st := []) ky_X12_findsYards kl_X12_286 (s_X12_findsYards_55 (d := 2) (hPl) (Nat.le_refl _) h_22) rfl rfl rfl (hPl.lt (by decide)) (Nat.le_trans (by decide) hd) (Nat.le_of_ble_eq_true rfl) (Nat.le_refl _) (Nat.le_refl _) dX12_hope_62 ?_
            refine g_iconst (pc := 65) (v := (0 : Int32)) dX12_hope_65 rfl ?_
            refine n_istore (pc := 66) (ls2 := [.ref 55, .int a1, .int a2, .int a3, .int a4, .int a5, .int (0 : Int32), .null, .null, .null, .null, .null, .null, .null, .null]) rfl rfl dX12_hope_66 (Nat.le_of_ble_eq_true rfl) ?_
            obtain ⟨I_26, hL_30, hF⟩ := am_b1_el hF
            have hX_27 : G am_sc0 l d 0 0 mX12_hope (am_qi r N P I2) 112 [.ref 55, .int a1, .int a2, .int a3, .int a4, .int a5, .null, .null, .null, .null, .null, .null, .null, .null, .null] [] N P I_26 0 0 := by
              refine g_iconst (pc := 112) (v := (0 : Int32)) dX12_hope_112 rfl ?_
              refine n_istore (pc := 113) (ls2 := [.ref 55, .int a1, .int a2, .int a3, .int a4, .int a5, .int (0 : Int32), .null, .null, .null, .null, .null, .null, .null, .null]) rfl rfl dX12_hope_113 (Nat.le_of_ble_eq_true rfl) ?_
              obtain ⟨I_43, hL_47, hF⟩ := am_b1_el hF
              have hX_44 : G am_sc0 l d 0 0 mX12_hope (am_qi r N P I2) 153 [.ref 55, .int a1, .int a2, .int a3, .int a4, .int a5, .null, .null, .null, .null, .null, .null, .null, .null, .null] [] N P I_43 0 0 := by
                refine g_iconst (pc := 153) (v := (0 : Int32)) dX12_hope_153 rfl ?_
                refine n_istore (pc := 154) (ls2 := [.ref 55, .int a1, .int a2, .int a3, .int a4, .int a5, .int (0 : Int32), .null, .null, .null, .null, .null, .null, .null, .null]) rfl rfl dX12_hope_154 (Nat.le_of_ble_eq_true rfl) ?_
                refine g_iconst (pc := 156) (v := (-1 : Int32)) dX12_hope_156 (by decide) ?_
                refine n_istore (pc := 157) (ls2 := [.ref 55, .int a1, .int a2, .int a3, .int a4, .int a5, .int (0 : Int32), .int (-1 : Int32), .null, .null, .null, .null, .null, .null, .null]) rfl rfl dX12_hope_157 (Nat.le_of_ble_eq_true rfl) ?_
                refine g_iconst (pc := 159) (v := (0 : Int32)) dX12_hope_159 rfl ?_
                refine n_istore (pc := 160) (ls2 := [.ref 55, .int a1, .int a2, .int a3, .int a4, .int a5, .int (0 : Int32), .int (-1 : Int32), .int (0 : Int32), .null, .null, .null, .null, .null, .null]) rfl rfl dX12_hope_160 (Nat.le_of_ble_eq_true rfl) ?_
                obtain ⟨l6_60, l7_61, hL_65, hF⟩ := am_b2_el hF
                have hX_62 : G am_sc0 l d 0 0 mX12_hope (am_qi r N P I2) 350 [.ref 55, .int a1, .int a2, .int a3, .int a4, .int a5, .int l6_60, .int l7_61, .null, .null, .null, .null, .null, .null, .null] [] N P I_43 0 0 := by
                  refine g_iload (pc := 350) dX12_hope_350 rfl ?_
                  refine g_if_ne (pc := 352) (tgt := 360) dX12_hope_352 rfl (fun c_116 => ?_) (fun c_116 => ?_)
                  · replace hF := am_no c_116 hF
                    refine g_iload (pc := 360) dX12_hope_360 rfl ?_
                    cases hF
                    exact g_iret (pc := 362) rfl (Nat.le_refl _) (Nat.le_refl _) dX12_hope_362 ⟨rfl, rfl, rfl, rfl⟩
                  · replace hF := am_yes c_116 hF
                    refine g_iload (pc := 355) dX12_hope_355 rfl ?_
                    refine g_goto (pc := 357) (tgt := 362) dX12_hope_357 rfl ?_
                    cases hF
                    exact g_iret (pc := 362) rfl (Nat.le_refl _) (Nat.le_refl _) dX12_hope_362 ⟨rfl, rfl, rfl, rfl⟩
                clear hF
                have hC := am_loop (C := fun x => G am_sc0 l d 0 0 mX12_hope (am_qi r N P I2) 162 [.ref 55, .int a1, .int a2, .int a3, .int a4, .int a5, .int x.1, .int x.2.1, .int x.2.2, .null, .null, .null, .null, .null, .null] [] N P I_43 0 0) (by
                  rintro ⟨l6_57, l7_58, l8_59⟩ rr hF ih_63 hE_64
                  replace hF := am_u3_ap hF
                  change G am_sc0 l d 0 0 mX12_hope (am_qi r N P I2) 162 [.ref 55, .int a1, .int a2, .int a3, .int a4, .int a5, .int l6_57, .int l7_58, .int l8_59, .null, .null, .null, .null, .null, .null] [] N P I_43 0 0
                  refine g_iload (pc := 162) dX12_hope_162 rfl ?_
                  refine g_iconst (pc := 164) (v := (1 : Int32)) dX12_hope_164 rfl ?_
                  refine g_aload_n (pc := 165) dX12_hope_165 rfl rfl ?_
                  refine g_getI (pc := 166) (k := 55) kf_X12_145.r rfl rfl (hPl.lt (by decide)) dX12_hope_166 ?_
                  refine g_ishl (pc := 169) dX12_hope_169 ?_
                  refine g_icmp_ge (pc := 170) (tgt := 350) dX12_hope_170 rfl (fun c_67 => ?_) (fun c_67 => ?_)
                  · replace hF := am_yes c_67 hF
                    cases hF
                    cases hE_64 _ rfl
                    exact g_weak hX_62 ⟨Or.inr rfl, Or.inr rfl, Or.inr rfl, Or.inr rfl, Or.inr rfl, Or.inr rfl, Or.inr rfl, Or.inr rfl, Or.inl rfl, Or.inl rfl, Or.inl rfl, Or.inl rfl, Or.inl rfl, Or.inl rfl, Or.inl rfl, trivial⟩
                  · replace hF := am_no c_67 hF
                    refine g_aload_n (pc := 173) dX12_hope_173 rfl rfl ?_
                    refine g_iload (pc := 174) dX12_hope_174 rfl ?_
                    obtain ⟨r_69, h_68, hF⟩ := am_b1_el hF
                    refine g_cVi (pc := 176) (k := 55) (As := [.int l8_59]) (st := []) ky_X12_ones kl_X12_349 (s_X12_ones_55 (d := 1) (hPl) (Nat.le_refl _) h_68) rfl rfl rfl (hPl.lt (by decide)) (Nat.le_trans (by decide) hd) (Nat.le_of_ble_eq_true rfl) (Nat.le_refl _) (Nat.le_refl _) dX12_hope_176 ?_
                    refine n_istore (pc := 179) (ls2 := [.ref 55, .int a1, .int a2, .int a3, .int a4, .int a5, .int l6_57, .int l7_58, .int l8_59, .int r_69, .null, .null, .null, .null, .null]) rfl rfl dX12_hope_179 (Nat.le_of_ble_eq_true rfl) ?_
                    refine g_iconst (pc := 181) (v := (1 : Int32)) dX12_hope_181 rfl ?_
                    refine n_istore (pc := 182) (ls2 := [.ref 55, .int a1, .int a2, .int a3, .int a4, .int a5, .int l6_57, .int l7_58, .int l8_59, .int r_69, .int (1 : Int32), .null, .null, .null, .null]) rfl rfl dX12_hope_182 (Nat.le_of_ble_eq_true rfl) ?_
                    refine g_iconst (pc := 184) (v := (0 : Int32)) dX12_hope_184 rfl ?_
                    refine n_istore (pc := 185) (ls2 := [.ref 55, .int a1, .int a2, .int a3, .int a4, .int a5, .int l6_57, .int l7_58, .int l8_59, .int r_69, .int (1 : Int32), .int (0 : Int32), .null, .null, .null]) rfl rfl dX12_hope_185 (Nat.le_of_ble_eq_true rfl) ?_
                    obtain ⟨l10_72, hL_76, hF⟩ := am_b1_el hF
                    have hX_73 : G am_sc0 l d 0 0 mX12_hope (am_qi r N P I2) 315 [.ref 55, .int a1, .int a2, .int a3, .int a4, .int a5, .int l6_57, .int l7_58, .int l8_59, .int r_69, .int l10_72, .null, .null, .null, .null] [] N P I_43 0 0 := by
                      refine g_iload (pc := 315) dX12_hope_315 rfl ?_
                      refine g_if_ne (pc := 317) (tgt := 323) dX12_hope_317 rfl (fun c_110 => ?_) (fun c_110 => ?_)
                      · replace hF := am_no c_110 hF
                        refine g_iload (pc := 323) dX12_hope_323 rfl ?_
                        refine g_iconst (pc := 325) (v := (1 : Int32)) dX12_hope_325 rfl ?_
                        refine g_iadd (pc := 326) dX12_hope_326 ?_
                        obtain ⟨l6_111, e_l6_111, hF⟩ := am_let_el hF
                        refine n_istore (pc := 327) (ls2 := [.ref 55, .int a1, .int a2, .int a3, .int a4, .int a5, .int l6_111, .int l7_58, .int l8_59, .int r_69, .int l10_72, .null, .null, .null, .null]) e_l6_111 rfl dX12_hope_327 (Nat.le_of_ble_eq_true rfl) ?_
                        refine g_iload (pc := 329) dX12_hope_329 rfl ?_
                        refine g_iconst (pc := 331) (v := (-1 : Int32)) dX12_hope_331 (by decide) ?_
                        refine g_icmp_ne (pc := 332) (tgt := 340) dX12_hope_332 rfl (fun c_112 => ?_) (fun c_112 => ?_)
                        · replace hF := am_no c_112 hF
                          refine g_iload (pc := 340) dX12_hope_340 rfl ?_
                          refine n_istore (pc := 342) (ls2 := [.ref 55, .int a1, .int a2, .int a3, .int a4, .int a5, .int l6_111, .int l7_58, .int l8_59, .int r_69, .int l10_72, .null, .null, .null, .null]) rfl rfl dX12_hope_342 (Nat.le_of_ble_eq_true rfl) ?_
                          obtain ⟨l8_113, e_l8_113, hF⟩ := am_let_el hF
                          refine n_iinc (pc := 344) (ls2 := [.ref 55, .int a1, .int a2, .int a3, .int a4, .int a5, .int l6_111, .int l7_58, .int l8_113, .int r_69, .int l10_72, .null, .null, .null, .null]) e_l8_113 rfl rfl rfl dX12_hope_344 (Nat.le_of_ble_eq_true rfl) ?_
                          refine g_goto (pc := 347) (tgt := 162) dX12_hope_347 rfl ?_
                          cases hF
                          exact g_weak (ih_63 (l6_111, l7_58, l8_113) rfl) ⟨Or.inr rfl, Or.inr rfl, Or.inr rfl, Or.inr rfl, Or.inr rfl, Or.inr rfl, Or.inr rfl, Or.inr rfl, Or.inr rfl, Or.inl rfl, Or.inl rfl, Or.inl rfl, Or.inl rfl, Or.inl rfl, Or.inl rfl, trivial⟩
                        · replace hF := am_yes c_112 hF
                          refine g_iload (pc := 335) dX12_hope_335 rfl ?_
                          refine g_goto (pc := 337) (tgt := 342) dX12_hope_337 rfl ?_
                          refine n_istore (pc := 342) (ls2 := [.ref 55, .int a1, .int a2, .int a3, .int a4, .int a5, .int l6_111, .int l8_59, .int l8_59, .int r_69, .int l10_72, .null, .null, .null, .null]) rfl rfl dX12_hope_342 (Nat.le_of_ble_eq_true rfl) ?_
                          obtain ⟨l8_114, e_l8_114, hF⟩ := am_let_el hF
                          refine n_iinc (pc := 344) (ls2 := [.ref 55, .int a1, .int a2, .int a3, .int a4, .int a5, .int l6_111, .int l8_59, .int l8_114, .int r_69, .int l10_72, .null, .null, .null, .null]) e_l8_114 rfl rfl rfl dX12_hope_344 (Nat.le_of_ble_eq_true rfl) ?_
                          refine g_goto (pc := 347) (tgt := 162) dX12_hope_347 rfl ?_
                          cases hF
                          exact g_weak (ih_63 (l6_111, l8_59, l8_114) rfl) ⟨Or.inr rfl, Or.inr rfl, Or.inr rfl, Or.inr rfl, Or.inr rfl, Or.inr rfl, Or.inr rfl, Or.inr rfl, Or.inr rfl, Or.inl rfl, Or.inl rfl, Or.inl rfl, Or.inl rfl, Or.inl rfl, Or.inl rfl, trivial⟩
                      · replace hF := am_yes c_110 hF
                        refine g_goto (pc := 320) (tgt := 344) dX12_hope_320 rfl ?_
                        obtain ⟨l8_115, e_l8_115, hF⟩ := am_let_el hF
                        refine n_iinc (pc := 344) (ls2 := [.ref 55, .int a1, .int a2, .int a3, .int a4, .int a5, .int l6_57, .int l7_58, .int l8_115, .int r_69, .int l10_72, .null, .null, .null, .null]) e_l8_115 rfl rfl rfl dX12_hope_344 (Nat.le_of_ble_eq_true rfl) ?_
                        refine g_goto (pc := 347) (tgt := 162) dX12_hope_347 rfl ?_
                        cases hF
                        exact g_weak (ih_63 (l6_57, l7_58, l8_115) rfl) ⟨Or.inr rfl, Or.inr rfl, Or.inr rfl, Or.inr rfl, Or.inr rfl, Or.inr rfl, Or.inr rfl, Or.inr rfl, Or.inr rfl, Or.inl rfl, Or.inl rfl, Or.inl rfl, Or.inl rfl, Or.inl rfl, Or.inl rfl, trivial⟩
                    clear hF
                    have hC := am_loop (C := fun x => G am_sc0 l d 0 0 mX12_hope (am_qi r N P I2) 187 [.ref 55, .int a1, .int a2, .int a3, .int a4, .int a5, .int l6_57, .int l7_58, .int l8_59, .int r_69, .int x.1, .int x.2, .null, .null, .null] [] N P I_43 0 0) (by
                      rintro ⟨l10_70, l11_71⟩ rr hF ih_74 hE_75
                      replace hF := am_u2_ap hF
                      change G am_sc0 l d 0 0 mX12_hope (am_qi r N P I2) 187 [.ref 55, .int a1, .int a2, .int a3, .int a4, .int a5, .int l6_57, .int l7_58, .int l8_59, .int r_69, .int l10_70, .int l11_71, .null, .null, .null] [] N P I_43 0 0
                      refine g_iload (pc := 187) dX12_hope_187 rfl ?_
                      refine g_aload_n (pc := 189) dX12_hope_189 rfl rfl ?_
                      refine g_getI (pc := 190) (k := 55) kf_X12_145.r rfl rfl (hPl.lt (by decide)) dX12_hope_190 ?_
                      refine g_icmp_ge (pc := 193) (tgt := 315) dX12_hope_193 rfl (fun c_78 => ?_) (fun c_78 => ?_)
                      · replace hF := am_yes c_78 hF
                        cases hF
                        cases hE_75 _ rfl
                        exact g_weak hX_73 ⟨Or.inr rfl, Or.inr rfl, Or.inr rfl, Or.inr rfl, Or.inr rfl, Or.inr rfl, Or.inr rfl, Or.inr rfl, Or.inr rfl, Or.inr rfl, Or.inr rfl, Or.inl rfl, Or.inl rfl, Or.inl rfl, Or.inl rfl, trivial⟩
                      · replace hF := am_no c_78 hF
                        refine g_iload (pc := 196) dX12_hope_196 rfl ?_
                        refine g_if_eq (pc := 198) (tgt := 315) dX12_hope_198 rfl (fun c_79 => ?_) (fun c_79 => ?_)
                        · replace hF := am_yes c_79 hF
                          cases hF
                          cases hE_75 _ rfl
                          exact g_weak hX_73 ⟨Or.inr rfl, Or.inr rfl, Or.inr rfl, Or.inr rfl, Or.inr rfl, Or.inr rfl, Or.inr rfl, Or.inr rfl, Or.inr rfl, Or.inr rfl, Or.inr rfl, Or.inl rfl, Or.inl rfl, Or.inl rfl, Or.inl rfl, trivial⟩
                        · replace hF := am_no c_79 hF
                          refine g_iload (pc := 201) dX12_hope_201 rfl ?_
                          refine g_iload (pc := 203) dX12_hope_203 rfl ?_
                          refine g_ishr (pc := 205) dX12_hope_205 ?_
                          refine g_iconst (pc := 206) (v := (1 : Int32)) dX12_hope_206 rfl ?_
                          refine g_iand (pc := 207) dX12_hope_207 ?_
                          refine g_iconst (pc := 208) (v := (1 : Int32)) dX12_hope_208 rfl ?_
                          obtain ⟨v_81, hR_82, hF⟩ := am_b1_el hF
                          have hJ_83 : G am_sc0 l d 0 0 mX12_hope (am_qi r N P I2) 217 [.ref 55, .int a1, .int a2, .int a3, .int a4, .int a5, .int l6_57, .int l7_58, .int l8_59, .int r_69, .int l10_70, .int l11_71, .null, .null, .null] [.int v_81] N P I_43 0 0 := by
                            refine n_istore (pc := 217) (ls2 := [.ref 55, .int a1, .int a2, .int a3, .int a4, .int a5, .int l6_57, .int l7_58, .int l8_59, .int r_69, .int l10_70, .int l11_71, .int v_81, .null, .null]) rfl rfl dX12_hope_217 (Nat.le_of_ble_eq_true rfl) ?_
                            refine g_iload (pc := 219) dX12_hope_219 rfl ?_
                            refine g_iload_n (pc := 221) dX12_hope_221 rfl rfl ?_
                            obtain ⟨v_85, hR_86, hF⟩ := am_b1_el hF
                            have hJ_87 : G am_sc0 l d 0 0 mX12_hope (am_qi r N P I2) 236 [.ref 55, .int a1, .int a2, .int a3, .int a4, .int a5, .int l6_57, .int l7_58, .int l8_59, .int r_69, .int l10_70, .int l11_71, .int v_81, .null, .null] [.int v_85] N P I_43 0 0 := by
                              refine g_iload (pc := 236) dX12_hope_236 rfl ?_
                              obtain ⟨v_90, hR_91, hF⟩ := am_b1_el hF
                              have hJ_92 : G am_sc0 l d 0 0 mX12_hope (am_qi r N P I2) 247 [.ref 55, .int a1, .int a2, .int a3, .int a4, .int a5, .int l6_57, .int l7_58, .int l8_59, .int r_69, .int l10_70, .int l11_71, .int v_81, .null, .null] [.int v_90, .int v_85] N P I_43 0 0 := by
                                refine g_isub (pc := 247) dX12_hope_247 ?_
                                obtain ⟨l13_93, e_l13_93, hF⟩ := am_let_el hF
                                refine n_istore (pc := 248) (ls2 := [.ref 55, .int a1, .int a2, .int a3, .int a4, .int a5, .int l6_57, .int l7_58, .int l8_59, .int r_69, .int l10_70, .int l11_71, .int v_81, .int l13_93, .null]) e_l13_93 rfl dX12_hope_248 (Nat.le_of_ble_eq_true rfl) ?_
                                refine g_iload (pc := 250) dX12_hope_250 rfl ?_
                                obtain ⟨v_95, hR_96, hF⟩ := am_b1_el hF
                                have hJ_97 : G am_sc0 l d 0 0 mX12_hope (am_qi r N P I2) 266 [.ref 55, .int a1, .int a2, .int a3, .int a4, .int a5, .int l6_57, .int l7_58, .int l8_59, .int r_69, .int l10_70, .int l11_71, .int v_81, .int l13_93, .null] [.int v_95] N P I_43 0 0 := by
                                  refine g_iload_n (pc := 266) dX12_hope_266 rfl rfl ?_
                                  obtain ⟨v_99, hR_100, hF⟩ := am_b1_el hF
                                  have hJ_101 : G am_sc0 l d 0 0 mX12_hope (am_qi r N P I2) 281 [.ref 55, .int a1, .int a2, .int a3, .int a4, .int a5, .int l6_57, .int l7_58, .int l8_59, .int r_69, .int l10_70, .int l11_71, .int v_81, .int l13_93, .null] [.int v_99] N P I_43 0 0 := by
                                    refine n_istore (pc := 281) (ls2 := [.ref 55, .int a1, .int a2, .int a3, .int a4, .int a5, .int l6_57, .int l7_58, .int l8_59, .int r_69, .int l10_70, .int l11_71, .int v_81, .int l13_93, .int v_99]) rfl rfl dX12_hope_281 (Nat.le_of_ble_eq_true rfl) ?_
                                    refine g_iload (pc := 283) dX12_hope_283 rfl ?_
                                    refine g_iload (pc := 285) dX12_hope_285 rfl ?_
                                    refine g_iload (pc := 287) dX12_hope_287 rfl ?_
                                    obtain ⟨v_104, hR_105, hF⟩ := am_b1_el hF
                                    have hJ_106 : G am_sc0 l d 0 0 mX12_hope (am_qi r N P I2) 298 [.ref 55, .int a1, .int a2, .int a3, .int a4, .int a5, .int l6_57, .int l7_58, .int l8_59, .int r_69, .int l10_70, .int l11_71, .int v_81, .int l13_93, .int v_99] [.int v_104, .int v_99, .int l13_93] N P I_43 0 0 := by
                                      refine g_isub (pc := 298) dX12_hope_298 ?_
                                      refine g_icmp_lt (pc := 299) (tgt := 306) dX12_hope_299 rfl (fun c_107 => ?_) (fun c_107 => ?_)
                                      · replace hF := am_yes c_107 hF
                                        refine g_iconst (pc := 306) (v := (0 : Int32)) dX12_hope_306 rfl ?_
                                        refine n_istore (pc := 307) (ls2 := [.ref 55, .int a1, .int a2, .int a3, .int a4, .int a5, .int l6_57, .int l7_58, .int l8_59, .int r_69, .int (0 : Int32), .int l11_71, .int v_81, .int l13_93, .int v_99]) rfl rfl dX12_hope_307 (Nat.le_of_ble_eq_true rfl) ?_
                                        obtain ⟨l11_108, e_l11_108, hF⟩ := am_let_el hF
                                        refine n_iinc (pc := 309) (ls2 := [.ref 55, .int a1, .int a2, .int a3, .int a4, .int a5, .int l6_57, .int l7_58, .int l8_59, .int r_69, .int (0 : Int32), .int l11_108, .int v_81, .int l13_93, .int v_99]) e_l11_108 rfl rfl rfl dX12_hope_309 (Nat.le_of_ble_eq_true rfl) ?_
                                        refine g_goto (pc := 312) (tgt := 187) dX12_hope_312 rfl ?_
                                        cases hF
                                        exact g_weak (ih_74 ((0 : Int32), l11_108) rfl) ⟨Or.inr rfl, Or.inr rfl, Or.inr rfl, Or.inr rfl, Or.inr rfl, Or.inr rfl, Or.inr rfl, Or.inr rfl, Or.inr rfl, Or.inr rfl, Or.inr rfl, Or.inr rfl, Or.inl rfl, Or.inl rfl, Or.inl rfl, trivial⟩
                                      · replace hF := am_no c_107 hF
                                        refine g_iconst (pc := 302) (v := (1 : Int32)) dX12_hope_302 rfl ?_
                                        refine g_goto (pc := 303) (tgt := 307) dX12_hope_303 rfl ?_
                                        refine n_istore (pc := 307) (ls2 := [.ref 55, .int a1, .int a2, .int a3, .int a4, .int a5, .int l6_57, .int l7_58, .int l8_59, .int r_69, .int (1 : Int32), .int l11_71, .int v_81, .int l13_93, .int v_99]) rfl rfl dX12_hope_307 (Nat.le_of_ble_eq_true rfl) ?_
                                        obtain ⟨l11_109, e_l11_109, hF⟩ := am_let_el hF
                                        refine n_iinc (pc := 309) (ls2 := [.ref 55, .int a1, .int a2, .int a3, .int a4, .int a5, .int l6_57, .int l7_58, .int l8_59, .int r_69, .int (1 : Int32), .int l11_109, .int v_81, .int l13_93, .int v_99]) e_l11_109 rfl rfl rfl dX12_hope_309 (Nat.le_of_ble_eq_true rfl) ?_
                                        refine g_goto (pc := 312) (tgt := 187) dX12_hope_312 rfl ?_
                                        cases hF
                                        exact g_weak (ih_74 ((1 : Int32), l11_109) rfl) ⟨Or.inr rfl, Or.inr rfl, Or.inr rfl, Or.inr rfl, Or.inr rfl, Or.inr rfl, Or.inr rfl, Or.inr rfl, Or.inr rfl, Or.inr rfl, Or.inr rfl, Or.inr rfl, Or.inl rfl, Or.inl rfl, Or.inl rfl, trivial⟩
                                    clear hF
                                    have hF := hR_105
                                    clear hR_105
                                    refine g_if_eq (pc := 289) (tgt := 296) dX12_hope_289 rfl (fun c_103 => ?_) (fun c_103 => ?_)
                                    · replace hF := am_yes c_103 hF
                                      refine g_iload (pc := 296) dX12_hope_296 rfl ?_
                                      cases hF
                                      exact hJ_106
                                    · replace hF := am_no c_103 hF
                                      refine g_iconst (pc := 292) (v := (0 : Int32)) dX12_hope_292 rfl ?_
                                      refine g_goto (pc := 293) (tgt := 298) dX12_hope_293 rfl ?_
                                      cases hF
                                      exact hJ_106
                                  clear hF
                                  have hF := hR_100
                                  clear hR_100
                                  refine g_icmp_lt (pc := 267) (tgt := 280) dX12_hope_267 rfl (fun c_98 => ?_) (fun c_98 => ?_)
                                  · replace hF := am_yes c_98 hF
                                    refine g_iconst (pc := 280) (v := (0 : Int32)) dX12_hope_280 rfl ?_
                                    cases hF
                                    exact hJ_101
                                  · replace hF := am_no c_98 hF
                                    refine g_aload_n (pc := 270) dX12_hope_270 rfl rfl ?_
                                    refine g_getR (pc := 271) (k := 55) (r := 85) kf_X12_107.r rfl rfl (hPl.get (by decide) rfl) (hPl.lt (by decide)) dX12_hope_271 ?_
                                    refine g_iload (pc := 274) dX12_hope_274 rfl ?_
                                    obtain ⟨c_102, hF⟩ := am_gd hF
                                    refine g_iald (pc := 276) (k := 85) rfl (hPl.lt (by decide)) (am_ix_use c_102) dX12_hope_276 ?_
                                    refine g_goto (pc := 277) (tgt := 281) dX12_hope_277 rfl ?_
                                    cases hF
                                    exact hJ_101
                                clear hF
                                have hF := hR_96
                                clear hR_96
                                refine g_if_eq (pc := 252) (tgt := 262) dX12_hope_252 rfl (fun c_94 => ?_) (fun c_94 => ?_)
                                · replace hF := am_yes c_94 hF
                                  refine g_iload (pc := 262) dX12_hope_262 rfl ?_
                                  refine g_iconst (pc := 264) (v := (1 : Int32)) dX12_hope_264 rfl ?_
                                  refine g_iadd (pc := 265) dX12_hope_265 ?_
                                  cases hF
                                  exact hJ_97
                                · replace hF := am_no c_94 hF
                                  refine g_iload (pc := 255) dX12_hope_255 rfl ?_
                                  refine g_iconst (pc := 257) (v := (1 : Int32)) dX12_hope_257 rfl ?_
                                  refine g_isub (pc := 258) dX12_hope_258 ?_
                                  refine g_goto (pc := 259) (tgt := 266) dX12_hope_259 rfl ?_
                                  cases hF
                                  exact hJ_97
                              clear hF
                              have hF := hR_91
                              clear hR_91
                              refine g_if_eq (pc := 238) (tgt := 246) dX12_hope_238 rfl (fun c_89 => ?_) (fun c_89 => ?_)
                              · replace hF := am_yes c_89 hF
                                refine g_iconst (pc := 246) (v := (0 : Int32)) dX12_hope_246 rfl ?_
                                cases hF
                                exact hJ_92
                              · replace hF := am_no c_89 hF
                                refine g_iload (pc := 241) dX12_hope_241 rfl ?_
                                refine g_goto (pc := 243) (tgt := 247) dX12_hope_243 rfl ?_
                                cases hF
                                exact hJ_92
                            clear hF
                            have hF := hR_86
                            clear hR_86
                            refine g_icmp_lt (pc := 222) (tgt := 235) dX12_hope_222 rfl (fun c_84 => ?_) (fun c_84 => ?_)
                            · replace hF := am_yes c_84 hF
                              refine g_iconst (pc := 235) (v := (0 : Int32)) dX12_hope_235 rfl ?_
                              cases hF
                              exact hJ_87
                            · replace hF := am_no c_84 hF
                              refine g_aload_n (pc := 225) dX12_hope_225 rfl rfl ?_
                              refine g_getR (pc := 226) (k := 55) (r := 85) kf_X12_107.r rfl rfl (hPl.get (by decide) rfl) (hPl.lt (by decide)) dX12_hope_226 ?_
                              refine g_iload (pc := 229) dX12_hope_229 rfl ?_
                              obtain ⟨c_88, hF⟩ := am_gd hF
                              refine g_iald (pc := 231) (k := 85) rfl (hPl.lt (by decide)) (am_ix_use c_88) dX12_hope_231 ?_
                              refine g_goto (pc := 232) (tgt := 236) dX12_hope_232 rfl ?_
                              cases hF
                              exact hJ_87
                          clear hF
                          have hF := hR_82
                          clear hR_82
                          refine g_icmp_ne (pc := 209) (tgt := 216) dX12_hope_209 rfl (fun c_80 => ?_) (fun c_80 => ?_)
                          · replace hF := am_no c_80 hF
                            refine g_iconst (pc := 216) (v := (0 : Int32)) dX12_hope_216 rfl ?_
                            cases hF
                            exact hJ_83
                          · replace hF := am_yes c_80 hF
                            refine g_iconst (pc := 212) (v := (1 : Int32)) dX12_hope_212 rfl ?_
                            refine g_goto (pc := 213) (tgt := 217) dX12_hope_213 rfl ?_
                            cases hF
                            exact hJ_83
                      ) _ _ hL_76
                    exact hC
                  ) _ _ hL_65
                exact hC
              clear hF
              have hC := am_loop (C := fun x => G am_sc0 l d 0 0 mX12_hope (am_qi r N P I2) 115 [.ref 55, .int a1, .int a2, .int a3, .int a4, .int a5, .int x.1, .null, .null, .null, .null, .null, .null, .null, .null] [] N P x.2 0 0) (by
                rintro ⟨l6_41, I_42⟩ rr hF ih_45 hE_46
                replace hF := am_u2_ap hF
                change G am_sc0 l d 0 0 mX12_hope (am_qi r N P I2) 115 [.ref 55, .int a1, .int a2, .int a3, .int a4, .int a5, .int l6_41, .null, .null, .null, .null, .null, .null, .null, .null] [] N P I_42 0 0
                refine g_iload (pc := 115) dX12_hope_115 rfl ?_
                refine g_aload_n (pc := 117) dX12_hope_117 rfl rfl ?_
                refine g_getI (pc := 118) (k := 55) kf_X12_145.r rfl rfl (hPl.lt (by decide)) dX12_hope_118 ?_
                refine g_icmp_ge (pc := 121) (tgt := 153) dX12_hope_121 rfl (fun c_49 => ?_) (fun c_49 => ?_)
                · replace hF := am_yes c_49 hF
                  cases hF
                  cases hE_46 _ rfl
                  exact g_weak hX_44 ⟨Or.inr rfl, Or.inr rfl, Or.inr rfl, Or.inr rfl, Or.inr rfl, Or.inr rfl, Or.inl rfl, Or.inl rfl, Or.inl rfl, Or.inl rfl, Or.inl rfl, Or.inl rfl, Or.inl rfl, Or.inl rfl, Or.inl rfl, trivial⟩
                · replace hF := am_no c_49 hF
                  refine g_aload_n (pc := 124) dX12_hope_124 rfl rfl ?_
                  refine g_getR (pc := 125) (k := 55) (r := 85) kf_X12_107.r rfl rfl (hPl.get (by decide) rfl) (hPl.lt (by decide)) dX12_hope_125 ?_
                  refine g_iload (pc := 128) dX12_hope_128 rfl ?_
                  refine g_aload_n (pc := 130) dX12_hope_130 rfl rfl ?_
                  refine g_iload (pc := 131) dX12_hope_131 rfl ?_
                  refine g_bipush (pc := 133) (v := (21 : Int32)) dX12_hope_133 rfl ?_
                  obtain ⟨r_51, h_50, hF⟩ := am_b1_el hF
                  refine g_cVi (pc := 135) (k := 55) (As := [.int l6_41, .int (21 : Int32)]) (st := [.int l6_41, .ref 85]) ky_X12_worthOf kl_X12_289 (s_X12_worthOf_55 (d := 2) (hPl) (Nat.le_refl _) h_50) rfl rfl rfl (hPl.lt (by decide)) (Nat.le_trans (by decide) hd) (Nat.le_of_ble_eq_true rfl) (Nat.le_refl _) (Nat.le_refl _) dX12_hope_135 ?_
                  refine g_aload_n (pc := 138) dX12_hope_138 rfl rfl ?_
                  refine g_iload (pc := 139) dX12_hope_139 rfl ?_
                  refine g_iconst (pc := 141) (v := (0 : Int32)) dX12_hope_141 rfl ?_
                  obtain ⟨r_53, h_52, hF⟩ := am_b1_el hF
                  refine g_cVi (pc := 142) (k := 55) (As := [.int l6_41, .int (0 : Int32)]) (st := [.int r_51, .int l6_41, .ref 85]) ky_X12_worthOf kl_X12_289 (s_X12_worthOf_55 (d := 2) (hPl) (Nat.le_refl _) h_52) rfl rfl rfl (hPl.lt (by decide)) (Nat.le_trans (by decide) hd) (Nat.le_of_ble_eq_true rfl) (Nat.le_refl _) (Nat.le_refl _) dX12_hope_142 ?_
                  refine g_isub (pc := 145) dX12_hope_145 ?_
                  obtain ⟨c_54, hF⟩ := am_gd hF
                  obtain ⟨I_55, e_I_55, hF⟩ := am_let_el hF
                  refine n_iast (pc := 146) (k := 85) e_I_55 rfl (hPl.lt (by decide)) (am_ix_use c_54) dX12_hope_146 ?_
                  obtain ⟨l6_56, e_l6_56, hF⟩ := am_let_el hF
                  refine n_iinc (pc := 147) (ls2 := [.ref 55, .int a1, .int a2, .int a3, .int a4, .int a5, .int l6_56, .null, .null, .null, .null, .null, .null, .null, .null]) e_l6_56 rfl rfl rfl dX12_hope_147 (Nat.le_of_ble_eq_true rfl) ?_
                  refine g_goto (pc := 150) (tgt := 115) dX12_hope_150 rfl ?_
                  cases hF
                  exact ih_45 (l6_56, I_55) rfl
                ) _ _ hL_47
              exact hC
            clear hF
            have hC := am_loop (C := fun x => G am_sc0 l d 0 0 mX12_hope (am_qi r N P I2) 68 [.ref 55, .int a1, .int a2, .int a3, .int a4, .int a5, .int x.1, .null, .null, .null, .null, .null, .null, .null, .null] [] N P x.2 0 0) (by
              rintro ⟨l6_24, I_25⟩ rr hF ih_28 hE_29
              replace hF := am_u2_ap hF
              change G am_sc0 l d 0 0 mX12_hope (am_qi r N P I2) 68 [.ref 55, .int a1, .int a2, .int a3, .int a4, .int a5, .int l6_24, .null, .null, .null, .null, .null, .null, .null, .null] [] N P I_25 0 0
              refine g_iload (pc := 68) dX12_hope_68 rfl ?_
              refine g_aload_n (pc := 70) dX12_hope_70 rfl rfl ?_
              refine g_getI (pc := 71) (k := 55) kf_X12_142.r rfl rfl (hPl.lt (by decide)) dX12_hope_71 ?_
              refine g_icmp_ge (pc := 74) (tgt := 112) dX12_hope_74 rfl (fun c_32 => ?_) (fun c_32 => ?_)
              · replace hF := am_yes c_32 hF
                cases hF
                cases hE_29 _ rfl
                exact g_weak hX_27 ⟨Or.inr rfl, Or.inr rfl, Or.inr rfl, Or.inr rfl, Or.inr rfl, Or.inr rfl, Or.inl rfl, Or.inl rfl, Or.inl rfl, Or.inl rfl, Or.inl rfl, Or.inl rfl, Or.inl rfl, Or.inl rfl, Or.inl rfl, trivial⟩
              · replace hF := am_no c_32 hF
                refine g_aload_n (pc := 77) dX12_hope_77 rfl rfl ?_
                refine g_getR (pc := 78) (k := 55) (r := 72) kf_X12_62.r rfl rfl (hPl.get (by decide) rfl) (hPl.lt (by decide)) dX12_hope_78 ?_
                refine g_bipush (pc := 81) (v := (21 : Int32)) dX12_hope_81 rfl ?_
                refine g_iload (pc := 83) dX12_hope_83 rfl ?_
                refine g_iadd (pc := 85) dX12_hope_85 ?_
                refine g_iload (pc := 86) dX12_hope_86 rfl ?_
                refine g_iload_n (pc := 88) dX12_hope_88 rfl rfl ?_
                refine g_icmp_ne (pc := 89) (tgt := 96) dX12_hope_89 rfl (fun c_33 => ?_) (fun c_33 => ?_)
                · replace hF := am_no c_33 hF
                  refine g_aload_n (pc := 96) dX12_hope_96 rfl rfl ?_
                  refine g_getR (pc := 97) (k := 55) (r := 72) kf_X12_62.r rfl rfl (hPl.get (by decide) rfl) (hPl.lt (by decide)) dX12_hope_97 ?_
                  refine g_iconst (pc := 100) (v := (0 : Int32)) dX12_hope_100 rfl ?_
                  refine g_iload (pc := 101) dX12_hope_101 rfl ?_
                  refine g_iadd (pc := 103) dX12_hope_103 ?_
                  obtain ⟨c_34, hF⟩ := am_gd hF
                  refine g_iald (pc := 104) (k := 72) rfl (hPl.lt (by decide)) (am_ix_use c_34) dX12_hope_104 ?_
                  obtain ⟨c_35, hF⟩ := am_gd hF
                  obtain ⟨I_36, e_I_36, hF⟩ := am_let_el hF
                  refine n_iast (pc := 105) (k := 72) e_I_36 rfl (hPl.lt (by decide)) (am_ix_use c_35) dX12_hope_105 ?_
                  obtain ⟨l6_37, e_l6_37, hF⟩ := am_let_el hF
                  refine n_iinc (pc := 106) (ls2 := [.ref 55, .int a1, .int a2, .int a3, .int a4, .int a5, .int l6_37, .null, .null, .null, .null, .null, .null, .null, .null]) e_l6_37 rfl rfl rfl dX12_hope_106 (Nat.le_of_ble_eq_true rfl) ?_
                  refine g_goto (pc := 109) (tgt := 68) dX12_hope_109 rfl ?_
                  cases hF
                  exact ih_28 (l6_37, I_36) rfl
                · replace hF := am_yes c_33 hF
                  refine g_iload_n (pc := 92) dX12_hope_92 rfl rfl ?_
                  refine g_goto (pc := 93) (tgt := 105) dX12_hope_93 rfl ?_
                  obtain ⟨c_38, hF⟩ := am_gd hF
                  obtain ⟨I_39, e_I_39, hF⟩ := am_let_el hF
                  refine n_iast (pc := 105) (k := 72) e_I_39 rfl (hPl.lt (by decide)) (am_ix_use c_38) dX12_hope_105 ?_
                  obtain ⟨l6_40, e_l6_40, hF⟩ := am_let_el hF
                  refine n_iinc (pc := 106) (ls2 := [.ref 55, .int a1, .int a2, .int a3, .int a4, .int a5, .int l6_40, .null, .null, .null, .null, .null, .null, .null, .null]) e_l6_40 rfl rfl rfl dX12_hope_106 (Nat.le_of_ble_eq_true rfl) ?_
                  refine g_goto (pc := 109) (tgt := 68) dX12_hope_109 rfl ?_
                  cases hF
                  exact ih_28 (l6_40, I_39) rfl
              ) _ _ hL_30
            exact hC
          · replace hF := am_yes c_21 hF
            refine g_bipush (pc := 58) (v := (-10 : Int32)) dX12_hope_58 (by decide) ?_
            cases hF
            exact g_iret (pc := 60) rfl (Nat.le_refl _) (Nat.le_refl _) dX12_hope_60 ⟨rfl, rfl, rfl, rfl⟩
def F_X12_restWith_55 (I : am_IT) (a1 : Int32) (a2 : Int32) : Option (Int32) := am_b1 (am_it am_fu (am_u2 (fun (l3_1 : Int32) (l4_2 : Int32) => if (8 : Int32) ≤ l4_2 then (some (.inr (l3_1))) else (if ((a2 >>> (l4_2 &&& 31)) &&& (1 : Int32)) = (1 : Int32) then (am_let (l4_2 + (1 : Int32)) (fun (l4_18 : Int32) => some (.inl (l3_1, l4_18)))) else (am_b1 (F_X12_worthFrom_55 I l4_2 a1 (0 : Int32)) (fun (r_12 : Int32) => if am_ix (((256 : Int32) * (a1 + (1 : Int32))) + (a2 ||| ((1 : Int32) <<< (l4_2 &&& 31)))) 2048 = true then (am_let (r_12 + (I 88 (((256 : Int32) * (a1 + (1 : Int32))) + (a2 ||| ((1 : Int32) <<< (l4_2 &&& 31)))).toNatClampNeg)) (fun (l5_14 : Int32) => if l5_14 ≤ l3_1 then (am_let (l4_2 + (1 : Int32)) (fun (l4_16 : Int32) => some (.inl (l3_1, l4_16)))) else (am_let (l4_2 + (1 : Int32)) (fun (l4_17 : Int32) => some (.inl (l5_14, l4_17)))))) else none))))) ((-1000000000 : Int32), (0 : Int32))) (fun (l3_3 : Int32) => some l3_3)
set_option maxRecDepth 100000 in
set_option maxHeartbeats 4000000 in
theorem s_X12_restWith_55 {l : Launch} {d N : Nat} {P : am_PT} (hPl : am_Pl 94 N P) (hd : 2 ≤ d) {I : am_IT} {a1 : Int32} {a2 : Int32} {r : Int32} (hF : F_X12_restWith_55 I a1 a2 = some (r)) : am_C l d 0 0 mX12_restWith [.ref 55, .int a1, .int a2] N P I (am_qi r N P I) := by
  refine am_body (sc := am_sc0) (n := 3) (by decide +kernel) (by decide) rfl ?_
  change G am_sc0 l d 0 0 mX12_restWith (am_qi r N P I) 0 [.ref 55, .int a1, .int a2, .null, .null, .null] [] N P I 0 0
  unfold F_X12_restWith_55 at hF
  refine g_ldcw (pc := 0) dX12_restWith_0 kc_X12_352 ?_
  refine n_istore_n (pc := 3) (ls2 := [.ref 55, .int a1, .int a2, .int (-1000000000 : Int32), .null, .null]) rfl rfl dX12_restWith_3 rfl (Nat.le_of_ble_eq_true rfl) ?_
  refine g_iconst (pc := 4) (v := (0 : Int32)) dX12_restWith_4 rfl ?_
  refine n_istore (pc := 5) (ls2 := [.ref 55, .int a1, .int a2, .int (-1000000000 : Int32), .int (0 : Int32), .null]) rfl rfl dX12_restWith_5 (Nat.le_of_ble_eq_true rfl) ?_
  obtain ⟨l3_3, hL_7, hF⟩ := am_b1_el hF
  have hX_4 : G am_sc0 l d 0 0 mX12_restWith (am_qi r N P I) 76 [.ref 55, .int a1, .int a2, .int l3_3, .null, .null] [] N P I 0 0 := by
    refine g_iload_n (pc := 76) dX12_restWith_76 rfl rfl ?_
    cases hF
    exact g_iret (pc := 77) rfl (Nat.le_refl _) (Nat.le_refl _) dX12_restWith_77 ⟨rfl, rfl, rfl, rfl⟩
  clear hF
  have hC := am_loop (C := fun x => G am_sc0 l d 0 0 mX12_restWith (am_qi r N P I) 7 [.ref 55, .int a1, .int a2, .int x.1, .int x.2, .null] [] N P I 0 0) (by
    rintro ⟨l3_1, l4_2⟩ rr hF ih_5 hE_6
    replace hF := am_u2_ap hF
    change G am_sc0 l d 0 0 mX12_restWith (am_qi r N P I) 7 [.ref 55, .int a1, .int a2, .int l3_1, .int l4_2, .null] [] N P I 0 0
    refine g_iload (pc := 7) dX12_restWith_7 rfl ?_
    refine g_bipush (pc := 9) (v := (8 : Int32)) dX12_restWith_9 rfl ?_
    refine g_icmp_ge (pc := 11) (tgt := 76) dX12_restWith_11 rfl (fun c_9 => ?_) (fun c_9 => ?_)
    · replace hF := am_yes c_9 hF
      cases hF
      cases hE_6 _ rfl
      exact g_weak hX_4 ⟨Or.inr rfl, Or.inr rfl, Or.inr rfl, Or.inr rfl, Or.inl rfl, Or.inl rfl, trivial⟩
    · replace hF := am_no c_9 hF
      refine g_iload_n (pc := 14) dX12_restWith_14 rfl rfl ?_
      refine g_iload (pc := 15) dX12_restWith_15 rfl ?_
      refine g_ishr (pc := 17) dX12_restWith_17 ?_
      refine g_iconst (pc := 18) (v := (1 : Int32)) dX12_restWith_18 rfl ?_
      refine g_iand (pc := 19) dX12_restWith_19 ?_
      refine g_iconst (pc := 20) (v := (1 : Int32)) dX12_restWith_20 rfl ?_
      refine g_icmp_ne (pc := 21) (tgt := 27) dX12_restWith_21 rfl (fun c_10 => ?_) (fun c_10 => ?_)
      · replace hF := am_no c_10 hF
        refine g_aload_n (pc := 27) dX12_restWith_27 rfl rfl ?_
        refine g_iload (pc := 28) dX12_restWith_28 rfl ?_
        refine g_iload_n (pc := 30) dX12_restWith_30 rfl rfl ?_
        refine g_iconst (pc := 31) (v := (0 : Int32)) dX12_restWith_31 rfl ?_
        obtain ⟨r_12, h_11, hF⟩ := am_b1_el hF
        refine g_cVi (pc := 32) (k := 55) (As := [.int l4_2, .int a1, .int (0 : Int32)]) (st := []) ky_X12_worthFrom kl_X12_282 (s_X12_worthFrom_55 (d := 1) (hPl) (Nat.le_refl _) h_11) rfl rfl rfl (hPl.lt (by decide)) (Nat.le_trans (by decide) hd) (Nat.le_of_ble_eq_true rfl) (Nat.le_refl _) (Nat.le_refl _) dX12_restWith_32 ?_
        refine g_aload_n (pc := 35) dX12_restWith_35 rfl rfl ?_
        refine g_getR (pc := 36) (k := 55) (r := 88) kf_X12_116.r rfl rfl (hPl.get (by decide) rfl) (hPl.lt (by decide)) dX12_restWith_36 ?_
        refine g_sipush (pc := 39) (v := (256 : Int32)) dX12_restWith_39 rfl ?_
        refine g_iload_n (pc := 42) dX12_restWith_42 rfl rfl ?_
        refine g_iconst (pc := 43) (v := (1 : Int32)) dX12_restWith_43 rfl ?_
        refine g_iadd (pc := 44) dX12_restWith_44 ?_
        refine g_imul (pc := 45) dX12_restWith_45 ?_
        refine g_iload_n (pc := 46) dX12_restWith_46 rfl rfl ?_
        refine g_iconst (pc := 47) (v := (1 : Int32)) dX12_restWith_47 rfl ?_
        refine g_iload (pc := 48) dX12_restWith_48 rfl ?_
        refine g_ishl (pc := 50) dX12_restWith_50 ?_
        refine g_ior (pc := 51) dX12_restWith_51 ?_
        refine g_iadd (pc := 52) dX12_restWith_52 ?_
        obtain ⟨c_13, hF⟩ := am_gd hF
        refine g_iald (pc := 53) (k := 88) rfl (hPl.lt (by decide)) (am_ix_use c_13) dX12_restWith_53 ?_
        refine g_iadd (pc := 54) dX12_restWith_54 ?_
        obtain ⟨l5_14, e_l5_14, hF⟩ := am_let_el hF
        refine n_istore (pc := 55) (ls2 := [.ref 55, .int a1, .int a2, .int l3_1, .int l4_2, .int l5_14]) e_l5_14 rfl dX12_restWith_55 (Nat.le_of_ble_eq_true rfl) ?_
        refine g_iload (pc := 57) dX12_restWith_57 rfl ?_
        refine g_iload_n (pc := 59) dX12_restWith_59 rfl rfl ?_
        refine g_icmp_le (pc := 60) (tgt := 68) dX12_restWith_60 rfl (fun c_15 => ?_) (fun c_15 => ?_)
        · replace hF := am_yes c_15 hF
          refine g_iload_n (pc := 68) dX12_restWith_68 rfl rfl ?_
          refine n_istore_n (pc := 69) (ls2 := [.ref 55, .int a1, .int a2, .int l3_1, .int l4_2, .int l5_14]) rfl rfl dX12_restWith_69 rfl (Nat.le_of_ble_eq_true rfl) ?_
          obtain ⟨l4_16, e_l4_16, hF⟩ := am_let_el hF
          refine n_iinc (pc := 70) (ls2 := [.ref 55, .int a1, .int a2, .int l3_1, .int l4_16, .int l5_14]) e_l4_16 rfl rfl rfl dX12_restWith_70 (Nat.le_of_ble_eq_true rfl) ?_
          refine g_goto (pc := 73) (tgt := 7) dX12_restWith_73 rfl ?_
          cases hF
          exact g_weak (ih_5 (l3_1, l4_16) rfl) ⟨Or.inr rfl, Or.inr rfl, Or.inr rfl, Or.inr rfl, Or.inr rfl, Or.inl rfl, trivial⟩
        · replace hF := am_no c_15 hF
          refine g_iload (pc := 63) dX12_restWith_63 rfl ?_
          refine g_goto (pc := 65) (tgt := 69) dX12_restWith_65 rfl ?_
          refine n_istore_n (pc := 69) (ls2 := [.ref 55, .int a1, .int a2, .int l5_14, .int l4_2, .int l5_14]) rfl rfl dX12_restWith_69 rfl (Nat.le_of_ble_eq_true rfl) ?_
          obtain ⟨l4_17, e_l4_17, hF⟩ := am_let_el hF
          refine n_iinc (pc := 70) (ls2 := [.ref 55, .int a1, .int a2, .int l5_14, .int l4_17, .int l5_14]) e_l4_17 rfl rfl rfl dX12_restWith_70 (Nat.le_of_ble_eq_true rfl) ?_
          refine g_goto (pc := 73) (tgt := 7) dX12_restWith_73 rfl ?_
          cases hF
          exact g_weak (ih_5 (l5_14, l4_17) rfl) ⟨Or.inr rfl, Or.inr rfl, Or.inr rfl, Or.inr rfl, Or.inr rfl, Or.inl rfl, trivial⟩
      · replace hF := am_yes c_10 hF
        refine g_goto (pc := 24) (tgt := 70) dX12_restWith_24 rfl ?_
        obtain ⟨l4_18, e_l4_18, hF⟩ := am_let_el hF
        refine n_iinc (pc := 70) (ls2 := [.ref 55, .int a1, .int a2, .int l3_1, .int l4_18, .null]) e_l4_18 rfl rfl rfl dX12_restWith_70 (Nat.le_of_ble_eq_true rfl) ?_
        refine g_goto (pc := 73) (tgt := 7) dX12_restWith_73 rfl ?_
        cases hF
        exact ih_5 (l3_1, l4_18) rfl
    ) _ _ hL_7
  exact hC
def F_X12_findsHomes_55 (I : am_IT) : Option (am_IT) := am_b1 (F_X12_findsYards_55 I) (fun (I_2 : am_IT) => am_b1 (am_it am_fu (am_u2 (fun (l1_3 : Int32) (I_4 : am_IT) => if (256 : Int32) ≤ l1_3 then (some (.inr (I_4))) else (if am_ix (((256 : Int32) * (I_4 55 5)) + l1_3) 2048 = true then (am_let (up2 I_4 88 (((256 : Int32) * (I_4 55 5)) + l1_3).toNatClampNeg (0 : Int32)) (fun (I_13 : am_IT) => am_let (l1_3 + (1 : Int32)) (fun (l1_14 : Int32) => some (.inl (l1_14, I_13))))) else none))) ((0 : Int32), I_2)) (fun (I_5 : am_IT) => am_let ((I_5 55 5) - (1 : Int32)) (fun (l1_15 : Int32) => am_b1 (am_it am_fu (am_u2 (fun (l1_16 : Int32) (I_17 : am_IT) => if l1_16 < 0 then (some (.inr (I_17))) else (am_b1 (am_it am_fu (am_u2 (fun (l2_25 : Int32) (I_26 : am_IT) => if (256 : Int32) ≤ l2_25 then (some (.inr (I_26))) else (am_b1 (F_X12_ones_55 I_26 l2_25) (fun (r_35 : Int32) => if r_35 = l1_16 then (am_b1 (F_X12_restWith_55 I_26 l1_16 l2_25) (fun (r_39 : Int32) => if am_ix (((256 : Int32) * l1_16) + l2_25) 2048 = true then (am_let (up2 I_26 88 (((256 : Int32) * l1_16) + l2_25).toNatClampNeg r_39) (fun (I_41 : am_IT) => am_let (l2_25 + (1 : Int32)) (fun (l2_42 : Int32) => some (.inl (l2_42, I_41))))) else none)) else (am_let (l2_25 + (1 : Int32)) (fun (l2_37 : Int32) => some (.inl (l2_37, I_26)))))))) ((0 : Int32), I_17)) (fun (I_27 : am_IT) => am_let (l1_16 + (-1 : Int32)) (fun (l1_43 : Int32) => some (.inl (l1_43, I_27))))))) (l1_15, I_5)) (fun (I_18 : am_IT) => am_b1 (am_it am_fu (am_u3 (fun (l1_44 : Int32) (l2_45 : Int32) (I_46 : am_IT) => if (I_46 55 5) ≤ l2_45 then (some (.inr (I_46))) else (am_b1 (am_it am_fu (fun (l3_54 : Int32) => if ((l1_44 >>> (l3_54 &&& 31)) &&& (1 : Int32)) = (1 : Int32) then (am_let (l3_54 + (1 : Int32)) (fun (l3_62 : Int32) => some (.inl (l3_62)))) else (am_b1 (F_X12_worthFrom_55 I_46 l3_54 l2_45 (0 : Int32)) (fun (r_64 : Int32) => if am_ix (((256 : Int32) * (l2_45 + (1 : Int32))) + (l1_44 ||| ((1 : Int32) <<< (l3_54 &&& 31)))) 2048 = true then (if am_ix (((256 : Int32) * l2_45) + l1_44) 2048 = true then (if (r_64 + (I_46 88 (((256 : Int32) * (l2_45 + (1 : Int32))) + (l1_44 ||| ((1 : Int32) <<< (l3_54 &&& 31)))).toNatClampNeg)) = (I_46 88 (((256 : Int32) * l2_45) + l1_44).toNatClampNeg) then (some (.inr (l3_54))) else (am_let (l3_54 + (1 : Int32)) (fun (l3_68 : Int32) => some (.inl (l3_68))))) else none) else none))) (0 : Int32)) (fun (l3_55 : Int32) => if am_ix l2_45 7 = true then (am_let (up2 I_46 89 l2_45.toNatClampNeg l3_55) (fun (I_70 : am_IT) => am_let (l1_44 ||| ((1 : Int32) <<< (l3_55 &&& 31))) (fun (l1_71 : Int32) => am_let (l2_45 + (1 : Int32)) (fun (l2_72 : Int32) => some (.inl (l1_71, l2_72, I_70)))))) else none)))) ((0 : Int32), (0 : Int32), I_18)) (fun (I_47 : am_IT) => some I_47)))))
set_option maxRecDepth 100000 in
set_option maxHeartbeats 4000000 in
theorem s_X12_findsHomes_55 {l : Launch} {d N : Nat} {P : am_PT} (hPl : am_Pl 94 N P) (hd : 3 ≤ d) {I : am_IT} {I2 : am_IT} (hF : F_X12_findsHomes_55 I = some (I2)) : am_C l d 0 0 mX12_findsHomes [.ref 55] N P I (am_qv N P I2) := by
  refine am_body (sc := am_sc0) (n := 3) (by decide +kernel) (by decide) rfl ?_
  change G am_sc0 l d 0 0 mX12_findsHomes (am_qv N P I2) 0 [.ref 55, .null, .null, .null] [] N P I 0 0
  unfold F_X12_findsHomes_55 at hF
  refine g_aload_n (pc := 0) dX12_findsHomes_0 rfl rfl ?_
  obtain ⟨I_2, h_1, hF⟩ := am_b1_el hF
  refine g_cVv (pc := 1) (k := 55) (As := []) (st := []) ky_X12_findsYards kl_X12_286 (s_X12_findsYards_55 (d := 2) (hPl) (Nat.le_refl _) h_1) rfl rfl rfl (hPl.lt (by decide)) (Nat.le_trans (by decide) hd) (Nat.le_of_ble_eq_true rfl) (Nat.le_refl _) (Nat.le_refl _) dX12_findsHomes_1 ?_
  refine g_iconst (pc := 4) (v := (0 : Int32)) dX12_findsHomes_4 rfl ?_
  refine n_istore_n (pc := 5) (ls2 := [.ref 55, .int (0 : Int32), .null, .null]) rfl rfl dX12_findsHomes_5 rfl (Nat.le_of_ble_eq_true rfl) ?_
  obtain ⟨I_5, hL_9, hF⟩ := am_b1_el hF
  have hX_6 : G am_sc0 l d 0 0 mX12_findsHomes (am_qv N P I2) 35 [.ref 55, .null, .null, .null] [] N P I_5 0 0 := by
    refine g_aload_n (pc := 35) dX12_findsHomes_35 rfl rfl ?_
    refine g_getI (pc := 36) (k := 55) kf_X12_145.r rfl rfl (hPl.lt (by decide)) dX12_findsHomes_36 ?_
    refine g_iconst (pc := 39) (v := (1 : Int32)) dX12_findsHomes_39 rfl ?_
    refine g_isub (pc := 40) dX12_findsHomes_40 ?_
    obtain ⟨l1_15, e_l1_15, hF⟩ := am_let_el hF
    refine n_istore_n (pc := 41) (ls2 := [.ref 55, .int l1_15, .null, .null]) e_l1_15 rfl dX12_findsHomes_41 rfl (Nat.le_of_ble_eq_true rfl) ?_
    obtain ⟨I_18, hL_22, hF⟩ := am_b1_el hF
    have hX_19 : G am_sc0 l d 0 0 mX12_findsHomes (am_qv N P I2) 94 [.ref 55, .null, .null, .null] [] N P I_18 0 0 := by
      refine g_iconst (pc := 94) (v := (0 : Int32)) dX12_findsHomes_94 rfl ?_
      refine n_istore_n (pc := 95) (ls2 := [.ref 55, .int (0 : Int32), .null, .null]) rfl rfl dX12_findsHomes_95 rfl (Nat.le_of_ble_eq_true rfl) ?_
      refine g_iconst (pc := 96) (v := (0 : Int32)) dX12_findsHomes_96 rfl ?_
      refine n_istore_n (pc := 97) (ls2 := [.ref 55, .int (0 : Int32), .int (0 : Int32), .null]) rfl rfl dX12_findsHomes_97 rfl (Nat.le_of_ble_eq_true rfl) ?_
      obtain ⟨I_47, hL_51, hF⟩ := am_b1_el hF
      have hX_48 : G am_sc0 l d 0 0 mX12_findsHomes (am_qv N P I2) 184 [.ref 55, .null, .null, .null] [] N P I_47 0 0 := by
        cases hF
        exact g_vret (pc := 184) rfl (Nat.le_refl _) (Nat.le_refl _) dX12_findsHomes_184 ⟨rfl, rfl, rfl, rfl⟩
      clear hF
      have hC := am_loop (C := fun x => G am_sc0 l d 0 0 mX12_findsHomes (am_qv N P I2) 98 [.ref 55, .int x.1, .int x.2.1, .null] [] N P x.2.2 0 0) (by
        rintro ⟨l1_44, l2_45, I_46⟩ rr hF ih_49 hE_50
        replace hF := am_u3_ap hF
        change G am_sc0 l d 0 0 mX12_findsHomes (am_qv N P I2) 98 [.ref 55, .int l1_44, .int l2_45, .null] [] N P I_46 0 0
        refine g_iload_n (pc := 98) dX12_findsHomes_98 rfl rfl ?_
        refine g_aload_n (pc := 99) dX12_findsHomes_99 rfl rfl ?_
        refine g_getI (pc := 100) (k := 55) kf_X12_145.r rfl rfl (hPl.lt (by decide)) dX12_findsHomes_100 ?_
        refine g_icmp_ge (pc := 103) (tgt := 184) dX12_findsHomes_103 rfl (fun c_53 => ?_) (fun c_53 => ?_)
        · replace hF := am_yes c_53 hF
          cases hF
          cases hE_50 _ rfl
          exact g_weak hX_48 ⟨Or.inr rfl, Or.inl rfl, Or.inl rfl, Or.inl rfl, trivial⟩
        · replace hF := am_no c_53 hF
          refine g_iconst (pc := 106) (v := (0 : Int32)) dX12_findsHomes_106 rfl ?_
          refine n_istore_n (pc := 107) (ls2 := [.ref 55, .int l1_44, .int l2_45, .int (0 : Int32)]) rfl rfl dX12_findsHomes_107 rfl (Nat.le_of_ble_eq_true rfl) ?_
          obtain ⟨l3_55, hL_59, hF⟩ := am_b1_el hF
          have hX_56 : G am_sc0 l d 0 0 mX12_findsHomes (am_qv N P I2) 165 [.ref 55, .int l1_44, .int l2_45, .int l3_55] [] N P I_46 0 0 := by
            refine g_aload_n (pc := 165) dX12_findsHomes_165 rfl rfl ?_
            refine g_getR (pc := 166) (k := 55) (r := 89) kf_X12_119.r rfl rfl (hPl.get (by decide) rfl) (hPl.lt (by decide)) dX12_findsHomes_166 ?_
            refine g_iload_n (pc := 169) dX12_findsHomes_169 rfl rfl ?_
            refine g_iload_n (pc := 170) dX12_findsHomes_170 rfl rfl ?_
            obtain ⟨c_69, hF⟩ := am_gd hF
            obtain ⟨I_70, e_I_70, hF⟩ := am_let_el hF
            refine n_iast (pc := 171) (k := 89) e_I_70 rfl (hPl.lt (by decide)) (am_ix_use c_69) dX12_findsHomes_171 ?_
            refine g_iload_n (pc := 172) dX12_findsHomes_172 rfl rfl ?_
            refine g_iconst (pc := 173) (v := (1 : Int32)) dX12_findsHomes_173 rfl ?_
            refine g_iload_n (pc := 174) dX12_findsHomes_174 rfl rfl ?_
            refine g_ishl (pc := 175) dX12_findsHomes_175 ?_
            refine g_ior (pc := 176) dX12_findsHomes_176 ?_
            obtain ⟨l1_71, e_l1_71, hF⟩ := am_let_el hF
            refine n_istore_n (pc := 177) (ls2 := [.ref 55, .int l1_71, .int l2_45, .int l3_55]) e_l1_71 rfl dX12_findsHomes_177 rfl (Nat.le_of_ble_eq_true rfl) ?_
            obtain ⟨l2_72, e_l2_72, hF⟩ := am_let_el hF
            refine n_iinc (pc := 178) (ls2 := [.ref 55, .int l1_71, .int l2_72, .int l3_55]) e_l2_72 rfl rfl rfl dX12_findsHomes_178 (Nat.le_of_ble_eq_true rfl) ?_
            refine g_goto (pc := 181) (tgt := 98) dX12_findsHomes_181 rfl ?_
            cases hF
            exact g_weak (ih_49 (l1_71, l2_72, I_70) rfl) ⟨Or.inr rfl, Or.inr rfl, Or.inr rfl, Or.inl rfl, trivial⟩
          clear hF
          have hC := am_loop (C := fun x => G am_sc0 l d 0 0 mX12_findsHomes (am_qv N P I2) 108 [.ref 55, .int l1_44, .int l2_45, .int x] [] N P I_46 0 0) (by
            intro l3_54 rr hF ih_57 hE_58
            refine g_iload_n (pc := 108) dX12_findsHomes_108 rfl rfl ?_
            refine g_iload_n (pc := 109) dX12_findsHomes_109 rfl rfl ?_
            refine g_ishr (pc := 110) dX12_findsHomes_110 ?_
            refine g_iconst (pc := 111) (v := (1 : Int32)) dX12_findsHomes_111 rfl ?_
            refine g_iand (pc := 112) dX12_findsHomes_112 ?_
            refine g_iconst (pc := 113) (v := (1 : Int32)) dX12_findsHomes_113 rfl ?_
            refine g_icmp_eq (pc := 114) (tgt := 158) dX12_findsHomes_114 rfl (fun c_61 => ?_) (fun c_61 => ?_)
            · replace hF := am_yes c_61 hF
              refine g_iload_n (pc := 158) dX12_findsHomes_158 rfl rfl ?_
              refine g_iconst (pc := 159) (v := (1 : Int32)) dX12_findsHomes_159 rfl ?_
              refine g_iadd (pc := 160) dX12_findsHomes_160 ?_
              obtain ⟨l3_62, e_l3_62, hF⟩ := am_let_el hF
              refine n_istore_n (pc := 161) (ls2 := [.ref 55, .int l1_44, .int l2_45, .int l3_62]) e_l3_62 rfl dX12_findsHomes_161 rfl (Nat.le_of_ble_eq_true rfl) ?_
              refine g_goto (pc := 162) (tgt := 108) dX12_findsHomes_162 rfl ?_
              cases hF
              exact ih_57 (l3_62) rfl
            · replace hF := am_no c_61 hF
              refine g_aload_n (pc := 117) dX12_findsHomes_117 rfl rfl ?_
              refine g_iload_n (pc := 118) dX12_findsHomes_118 rfl rfl ?_
              refine g_iload_n (pc := 119) dX12_findsHomes_119 rfl rfl ?_
              refine g_iconst (pc := 120) (v := (0 : Int32)) dX12_findsHomes_120 rfl ?_
              obtain ⟨r_64, h_63, hF⟩ := am_b1_el hF
              refine g_cVi (pc := 121) (k := 55) (As := [.int l3_54, .int l2_45, .int (0 : Int32)]) (st := []) ky_X12_worthFrom kl_X12_282 (s_X12_worthFrom_55 (d := 1) (hPl) (Nat.le_refl _) h_63) rfl rfl rfl (hPl.lt (by decide)) (Nat.le_trans (by decide) hd) (Nat.le_of_ble_eq_true rfl) (Nat.le_refl _) (Nat.le_refl _) dX12_findsHomes_121 ?_
              refine g_aload_n (pc := 124) dX12_findsHomes_124 rfl rfl ?_
              refine g_getR (pc := 125) (k := 55) (r := 88) kf_X12_116.r rfl rfl (hPl.get (by decide) rfl) (hPl.lt (by decide)) dX12_findsHomes_125 ?_
              refine g_sipush (pc := 128) (v := (256 : Int32)) dX12_findsHomes_128 rfl ?_
              refine g_iload_n (pc := 131) dX12_findsHomes_131 rfl rfl ?_
              refine g_iconst (pc := 132) (v := (1 : Int32)) dX12_findsHomes_132 rfl ?_
              refine g_iadd (pc := 133) dX12_findsHomes_133 ?_
              refine g_imul (pc := 134) dX12_findsHomes_134 ?_
              refine g_iload_n (pc := 135) dX12_findsHomes_135 rfl rfl ?_
              refine g_iconst (pc := 136) (v := (1 : Int32)) dX12_findsHomes_136 rfl ?_
              refine g_iload_n (pc := 137) dX12_findsHomes_137 rfl rfl ?_
              refine g_ishl (pc := 138) dX12_findsHomes_138 ?_
              refine g_ior (pc := 139) dX12_findsHomes_139 ?_
              refine g_iadd (pc := 140) dX12_findsHomes_140 ?_
              obtain ⟨c_65, hF⟩ := am_gd hF
              refine g_iald (pc := 141) (k := 88) rfl (hPl.lt (by decide)) (am_ix_use c_65) dX12_findsHomes_141 ?_
              refine g_iadd (pc := 142) dX12_findsHomes_142 ?_
              refine g_aload_n (pc := 143) dX12_findsHomes_143 rfl rfl ?_
              refine g_getR (pc := 144) (k := 55) (r := 88) kf_X12_116.r rfl rfl (hPl.get (by decide) rfl) (hPl.lt (by decide)) dX12_findsHomes_144 ?_
              refine g_sipush (pc := 147) (v := (256 : Int32)) dX12_findsHomes_147 rfl ?_
              refine g_iload_n (pc := 150) dX12_findsHomes_150 rfl rfl ?_
              refine g_imul (pc := 151) dX12_findsHomes_151 ?_
              refine g_iload_n (pc := 152) dX12_findsHomes_152 rfl rfl ?_
              refine g_iadd (pc := 153) dX12_findsHomes_153 ?_
              obtain ⟨c_66, hF⟩ := am_gd hF
              refine g_iald (pc := 154) (k := 88) rfl (hPl.lt (by decide)) (am_ix_use c_66) dX12_findsHomes_154 ?_
              refine g_icmp_eq (pc := 155) (tgt := 165) dX12_findsHomes_155 rfl (fun c_67 => ?_) (fun c_67 => ?_)
              · replace hF := am_yes c_67 hF
                cases hF
                cases hE_58 _ rfl
                exact hX_56
              · replace hF := am_no c_67 hF
                refine g_iload_n (pc := 158) dX12_findsHomes_158 rfl rfl ?_
                refine g_iconst (pc := 159) (v := (1 : Int32)) dX12_findsHomes_159 rfl ?_
                refine g_iadd (pc := 160) dX12_findsHomes_160 ?_
                obtain ⟨l3_68, e_l3_68, hF⟩ := am_let_el hF
                refine n_istore_n (pc := 161) (ls2 := [.ref 55, .int l1_44, .int l2_45, .int l3_68]) e_l3_68 rfl dX12_findsHomes_161 rfl (Nat.le_of_ble_eq_true rfl) ?_
                refine g_goto (pc := 162) (tgt := 108) dX12_findsHomes_162 rfl ?_
                cases hF
                exact ih_57 (l3_68) rfl
            ) _ _ hL_59
          exact hC
        ) _ _ hL_51
      exact hC
    clear hF
    have hC := am_loop (C := fun x => G am_sc0 l d 0 0 mX12_findsHomes (am_qv N P I2) 42 [.ref 55, .int x.1, .null, .null] [] N P x.2 0 0) (by
      rintro ⟨l1_16, I_17⟩ rr hF ih_20 hE_21
      replace hF := am_u2_ap hF
      change G am_sc0 l d 0 0 mX12_findsHomes (am_qv N P I2) 42 [.ref 55, .int l1_16, .null, .null] [] N P I_17 0 0
      refine g_iload_n (pc := 42) dX12_findsHomes_42 rfl rfl ?_
      refine g_if_lt (pc := 43) (tgt := 94) dX12_findsHomes_43 rfl (fun c_24 => ?_) (fun c_24 => ?_)
      · replace hF := am_yes c_24 hF
        cases hF
        cases hE_21 _ rfl
        exact g_weak hX_19 ⟨Or.inr rfl, Or.inl rfl, Or.inl rfl, Or.inl rfl, trivial⟩
      · replace hF := am_no c_24 hF
        refine g_iconst (pc := 46) (v := (0 : Int32)) dX12_findsHomes_46 rfl ?_
        refine n_istore_n (pc := 47) (ls2 := [.ref 55, .int l1_16, .int (0 : Int32), .null]) rfl rfl dX12_findsHomes_47 rfl (Nat.le_of_ble_eq_true rfl) ?_
        obtain ⟨I_27, hL_31, hF⟩ := am_b1_el hF
        have hX_28 : G am_sc0 l d 0 0 mX12_findsHomes (am_qv N P I2) 88 [.ref 55, .int l1_16, .null, .null] [] N P I_27 0 0 := by
          obtain ⟨l1_43, e_l1_43, hF⟩ := am_let_el hF
          refine n_iinc (pc := 88) (ls2 := [.ref 55, .int l1_43, .null, .null]) e_l1_43 (by rw [show Int32.ofInt (-1) = (-1 : Int32) from by decide]) rfl rfl dX12_findsHomes_88 (Nat.le_of_ble_eq_true rfl) ?_
          refine g_goto (pc := 91) (tgt := 42) dX12_findsHomes_91 rfl ?_
          cases hF
          exact ih_20 (l1_43, I_27) rfl
        clear hF
        have hC := am_loop (C := fun x => G am_sc0 l d 0 0 mX12_findsHomes (am_qv N P I2) 48 [.ref 55, .int l1_16, .int x.1, .null] [] N P x.2 0 0) (by
          rintro ⟨l2_25, I_26⟩ rr hF ih_29 hE_30
          replace hF := am_u2_ap hF
          change G am_sc0 l d 0 0 mX12_findsHomes (am_qv N P I2) 48 [.ref 55, .int l1_16, .int l2_25, .null] [] N P I_26 0 0
          refine g_iload_n (pc := 48) dX12_findsHomes_48 rfl rfl ?_
          refine g_sipush (pc := 49) (v := (256 : Int32)) dX12_findsHomes_49 rfl ?_
          refine g_icmp_ge (pc := 52) (tgt := 88) dX12_findsHomes_52 rfl (fun c_33 => ?_) (fun c_33 => ?_)
          · replace hF := am_yes c_33 hF
            cases hF
            cases hE_30 _ rfl
            exact g_weak hX_28 ⟨Or.inr rfl, Or.inr rfl, Or.inl rfl, Or.inl rfl, trivial⟩
          · replace hF := am_no c_33 hF
            refine g_aload_n (pc := 55) dX12_findsHomes_55 rfl rfl ?_
            refine g_iload_n (pc := 56) dX12_findsHomes_56 rfl rfl ?_
            obtain ⟨r_35, h_34, hF⟩ := am_b1_el hF
            refine g_cVi (pc := 57) (k := 55) (As := [.int l2_25]) (st := []) ky_X12_ones kl_X12_349 (s_X12_ones_55 (d := 1) (hPl) (Nat.le_refl _) h_34) rfl rfl rfl (hPl.lt (by decide)) (Nat.le_trans (by decide) hd) (Nat.le_of_ble_eq_true rfl) (Nat.le_refl _) (Nat.le_refl _) dX12_findsHomes_57 ?_
            refine g_iload_n (pc := 60) dX12_findsHomes_60 rfl rfl ?_
            refine g_icmp_ne (pc := 61) (tgt := 82) dX12_findsHomes_61 rfl (fun c_36 => ?_) (fun c_36 => ?_)
            · replace hF := am_no c_36 hF
              obtain ⟨l2_37, e_l2_37, hF⟩ := am_let_el hF
              refine n_iinc (pc := 82) (ls2 := [.ref 55, .int l1_16, .int l2_37, .null]) e_l2_37 rfl rfl rfl dX12_findsHomes_82 (Nat.le_of_ble_eq_true rfl) ?_
              refine g_goto (pc := 85) (tgt := 48) dX12_findsHomes_85 rfl ?_
              cases hF
              exact ih_29 (l2_37, I_26) rfl
            · replace hF := am_yes c_36 hF
              refine g_aload_n (pc := 64) dX12_findsHomes_64 rfl rfl ?_
              refine g_getR (pc := 65) (k := 55) (r := 88) kf_X12_116.r rfl rfl (hPl.get (by decide) rfl) (hPl.lt (by decide)) dX12_findsHomes_65 ?_
              refine g_sipush (pc := 68) (v := (256 : Int32)) dX12_findsHomes_68 rfl ?_
              refine g_iload_n (pc := 71) dX12_findsHomes_71 rfl rfl ?_
              refine g_imul (pc := 72) dX12_findsHomes_72 ?_
              refine g_iload_n (pc := 73) dX12_findsHomes_73 rfl rfl ?_
              refine g_iadd (pc := 74) dX12_findsHomes_74 ?_
              refine g_aload_n (pc := 75) dX12_findsHomes_75 rfl rfl ?_
              refine g_iload_n (pc := 76) dX12_findsHomes_76 rfl rfl ?_
              refine g_iload_n (pc := 77) dX12_findsHomes_77 rfl rfl ?_
              obtain ⟨r_39, h_38, hF⟩ := am_b1_el hF
              refine g_cVi (pc := 78) (k := 55) (As := [.int l1_16, .int l2_25]) (st := [.int (((256 : Int32) * l1_16) + l2_25), .ref 88]) ky_X12_restWith kl_X12_353 (s_X12_restWith_55 (d := 2) (hPl) (Nat.le_refl _) h_38) rfl rfl rfl (hPl.lt (by decide)) (Nat.le_trans (by decide) hd) (Nat.le_of_ble_eq_true rfl) (Nat.le_refl _) (Nat.le_refl _) dX12_findsHomes_78 ?_
              obtain ⟨c_40, hF⟩ := am_gd hF
              obtain ⟨I_41, e_I_41, hF⟩ := am_let_el hF
              refine n_iast (pc := 81) (k := 88) e_I_41 rfl (hPl.lt (by decide)) (am_ix_use c_40) dX12_findsHomes_81 ?_
              obtain ⟨l2_42, e_l2_42, hF⟩ := am_let_el hF
              refine n_iinc (pc := 82) (ls2 := [.ref 55, .int l1_16, .int l2_42, .null]) e_l2_42 rfl rfl rfl dX12_findsHomes_82 (Nat.le_of_ble_eq_true rfl) ?_
              refine g_goto (pc := 85) (tgt := 48) dX12_findsHomes_85 rfl ?_
              cases hF
              exact ih_29 (l2_42, I_41) rfl
          ) _ _ hL_31
        exact hC
      ) _ _ hL_22
    exact hC
  clear hF
  have hC := am_loop (C := fun x => G am_sc0 l d 0 0 mX12_findsHomes (am_qv N P I2) 6 [.ref 55, .int x.1, .null, .null] [] N P x.2 0 0) (by
    rintro ⟨l1_3, I_4⟩ rr hF ih_7 hE_8
    replace hF := am_u2_ap hF
    change G am_sc0 l d 0 0 mX12_findsHomes (am_qv N P I2) 6 [.ref 55, .int l1_3, .null, .null] [] N P I_4 0 0
    refine g_iload_n (pc := 6) dX12_findsHomes_6 rfl rfl ?_
    refine g_sipush (pc := 7) (v := (256 : Int32)) dX12_findsHomes_7 rfl ?_
    refine g_icmp_ge (pc := 10) (tgt := 35) dX12_findsHomes_10 rfl (fun c_11 => ?_) (fun c_11 => ?_)
    · replace hF := am_yes c_11 hF
      cases hF
      cases hE_8 _ rfl
      exact g_weak hX_6 ⟨Or.inr rfl, Or.inl rfl, Or.inl rfl, Or.inl rfl, trivial⟩
    · replace hF := am_no c_11 hF
      refine g_aload_n (pc := 13) dX12_findsHomes_13 rfl rfl ?_
      refine g_getR (pc := 14) (k := 55) (r := 88) kf_X12_116.r rfl rfl (hPl.get (by decide) rfl) (hPl.lt (by decide)) dX12_findsHomes_14 ?_
      refine g_sipush (pc := 17) (v := (256 : Int32)) dX12_findsHomes_17 rfl ?_
      refine g_aload_n (pc := 20) dX12_findsHomes_20 rfl rfl ?_
      refine g_getI (pc := 21) (k := 55) kf_X12_145.r rfl rfl (hPl.lt (by decide)) dX12_findsHomes_21 ?_
      refine g_imul (pc := 24) dX12_findsHomes_24 ?_
      refine g_iload_n (pc := 25) dX12_findsHomes_25 rfl rfl ?_
      refine g_iadd (pc := 26) dX12_findsHomes_26 ?_
      refine g_iconst (pc := 27) (v := (0 : Int32)) dX12_findsHomes_27 rfl ?_
      obtain ⟨c_12, hF⟩ := am_gd hF
      obtain ⟨I_13, e_I_13, hF⟩ := am_let_el hF
      refine n_iast (pc := 28) (k := 88) e_I_13 rfl (hPl.lt (by decide)) (am_ix_use c_12) dX12_findsHomes_28 ?_
      obtain ⟨l1_14, e_l1_14, hF⟩ := am_let_el hF
      refine n_iinc (pc := 29) (ls2 := [.ref 55, .int l1_14, .null, .null]) e_l1_14 rfl rfl rfl dX12_findsHomes_29 (Nat.le_of_ble_eq_true rfl) ?_
      refine g_goto (pc := 32) (tgt := 6) dX12_findsHomes_32 rfl ?_
      cases hF
      exact ih_7 (l1_14, I_13) rfl
    ) _ _ hL_9
  exact hC
def F_X12_homes_55 (I : am_IT) (a1 : Int32) : Option (Int32 × am_IT) := am_let (up2 I 55 0 (0 : Int32)) (fun (I_1 : am_IT) => if a1 = 0 then (am_b1 (F_X12_findsHomes_55 I_1) (fun (I_4 : am_IT) => if a1 = 0 then (if am_ix (0 : Int32) 2048 = true then (some (I_4 88 (0 : Int32).toNatClampNeg, I_4)) else none) else (if am_ix (a1 - (10 : Int32)) 7 = true then (some (I_4 89 (a1 - (10 : Int32)).toNatClampNeg, I_4)) else none))) else (am_b1 (F_X12_isIn_55 I_1 a1 (10 : Int32) ((9 : Int32) + (I_1 55 5))) (fun (r_9 : Int32) => if r_9 = 0 then (some ((-100000 : Int32), I_1)) else (am_b1 (F_X12_findsHomes_55 I_1) (fun (I_13 : am_IT) => if a1 = 0 then (if am_ix (0 : Int32) 2048 = true then (some (I_13 88 (0 : Int32).toNatClampNeg, I_13)) else none) else (if am_ix (a1 - (10 : Int32)) 7 = true then (some (I_13 89 (a1 - (10 : Int32)).toNatClampNeg, I_13)) else none))))))
set_option maxRecDepth 100000 in
set_option maxHeartbeats 4000000 in
theorem s_X12_homes_55 {l : Launch} {d N : Nat} {P : am_PT} (hPl : am_Pl 94 N P) (hd : 4 ≤ d) {I : am_IT} {a1 : Int32} {r : Int32} {I2 : am_IT} (hF : F_X12_homes_55 I a1 = some (r, I2)) : am_C l d 0 0 mX12_homes [.ref 55, .int a1] N P I (am_qi r N P I2) := by
  refine am_body (sc := am_sc0) (n := 0) (by decide +kernel) (by decide) rfl ?_
  change G am_sc0 l d 0 0 mX12_homes (am_qi r N P I2) 0 [.ref 55, .int a1] [] N P I 0 0
  unfold F_X12_homes_55 at hF
  refine g_aload_n (pc := 0) dX12_homes_0 rfl rfl ?_
  refine g_iconst (pc := 1) (v := (0 : Int32)) dX12_homes_1 rfl ?_
  obtain ⟨I_1, e_I_1, hF⟩ := am_let_el hF
  refine n_putI (pc := 2) (k := 55) e_I_1 kf_X12_134 rfl rfl (hPl.lt (by decide)) dX12_homes_2 ?_
  refine g_iload_n (pc := 5) dX12_homes_5 rfl rfl ?_
  refine g_if_eq (pc := 6) (tgt := 30) dX12_homes_6 rfl (fun c_2 => ?_) (fun c_2 => ?_)
  · replace hF := am_yes c_2 hF
    refine g_aload_n (pc := 30) dX12_homes_30 rfl rfl ?_
    obtain ⟨I_4, h_3, hF⟩ := am_b1_el hF
    refine g_cVv (pc := 31) (k := 55) (As := []) (st := []) ky_X12_findsHomes kl_X12_356 (s_X12_findsHomes_55 (d := 3) (hPl) (Nat.le_refl _) h_3) rfl rfl rfl (hPl.lt (by decide)) (Nat.le_trans (by decide) hd) (Nat.le_of_ble_eq_true rfl) (Nat.le_refl _) (Nat.le_refl _) dX12_homes_31 ?_
    refine g_iload_n (pc := 34) dX12_homes_34 rfl rfl ?_
    refine g_if_ne (pc := 35) (tgt := 47) dX12_homes_35 rfl (fun c_5 => ?_) (fun c_5 => ?_)
    · replace hF := am_no c_5 hF
      refine g_aload_n (pc := 47) dX12_homes_47 rfl rfl ?_
      refine g_getR (pc := 48) (k := 55) (r := 89) kf_X12_119.r rfl rfl (hPl.get (by decide) rfl) (hPl.lt (by decide)) dX12_homes_48 ?_
      refine g_iload_n (pc := 51) dX12_homes_51 rfl rfl ?_
      refine g_bipush (pc := 52) (v := (10 : Int32)) dX12_homes_52 rfl ?_
      refine g_isub (pc := 54) dX12_homes_54 ?_
      obtain ⟨c_6, hF⟩ := am_gd hF
      refine g_iald (pc := 55) (k := 89) rfl (hPl.lt (by decide)) (am_ix_use c_6) dX12_homes_55 ?_
      cases hF
      exact g_iret (pc := 56) rfl (Nat.le_refl _) (Nat.le_refl _) dX12_homes_56 ⟨rfl, rfl, rfl, rfl⟩
    · replace hF := am_yes c_5 hF
      refine g_aload_n (pc := 38) dX12_homes_38 rfl rfl ?_
      refine g_getR (pc := 39) (k := 55) (r := 88) kf_X12_116.r rfl rfl (hPl.get (by decide) rfl) (hPl.lt (by decide)) dX12_homes_39 ?_
      refine g_iconst (pc := 42) (v := (0 : Int32)) dX12_homes_42 rfl ?_
      obtain ⟨c_7, hF⟩ := am_gd hF
      refine g_iald (pc := 43) (k := 88) rfl (hPl.lt (by decide)) (am_ix_use c_7) dX12_homes_43 ?_
      refine g_goto (pc := 44) (tgt := 56) dX12_homes_44 rfl ?_
      cases hF
      exact g_iret (pc := 56) rfl (Nat.le_refl _) (Nat.le_refl _) dX12_homes_56 ⟨rfl, rfl, rfl, rfl⟩
  · replace hF := am_no c_2 hF
    refine g_aload_n (pc := 9) dX12_homes_9 rfl rfl ?_
    refine g_iload_n (pc := 10) dX12_homes_10 rfl rfl ?_
    refine g_bipush (pc := 11) (v := (10 : Int32)) dX12_homes_11 rfl ?_
    refine g_bipush (pc := 13) (v := (9 : Int32)) dX12_homes_13 rfl ?_
    refine g_aload_n (pc := 15) dX12_homes_15 rfl rfl ?_
    refine g_getI (pc := 16) (k := 55) kf_X12_145.r rfl rfl (hPl.lt (by decide)) dX12_homes_16 ?_
    refine g_iadd (pc := 19) dX12_homes_19 ?_
    obtain ⟨r_9, h_8, hF⟩ := am_b1_el hF
    refine g_cVz (pc := 20) (k := 55) (As := [.int a1, .int (10 : Int32), .int ((9 : Int32) + (I_1 55 5))]) (st := []) ky_X12_isIn kl_X12_148 (s_X12_isIn_55 (d := 1) (hPl) (Nat.le_refl _) h_8) rfl rfl rfl (hPl.lt (by decide)) (Nat.le_trans (by decide) hd) (Nat.le_of_ble_eq_true rfl) (Nat.le_refl _) (Nat.le_refl _) dX12_homes_20 ?_
    intro z_10
    refine g_if_ne (pc := 23) (tgt := 30) dX12_homes_23 rfl (fun c_11 => ?_) (fun c_11 => ?_)
    · replace hF := am_no c_11 hF
      refine g_aload_n (pc := 30) dX12_homes_30 rfl rfl ?_
      obtain ⟨I_13, h_12, hF⟩ := am_b1_el hF
      refine g_cVv (pc := 31) (k := 55) (As := []) (st := []) ky_X12_findsHomes kl_X12_356 (s_X12_findsHomes_55 (d := 3) (hPl) (Nat.le_refl _) h_12) rfl rfl rfl (hPl.lt (by decide)) (Nat.le_trans (by decide) hd) (Nat.le_of_ble_eq_true rfl) (Nat.le_refl _) (Nat.le_refl _) dX12_homes_31 ?_
      refine g_iload_n (pc := 34) dX12_homes_34 rfl rfl ?_
      refine g_if_ne (pc := 35) (tgt := 47) dX12_homes_35 rfl (fun c_14 => ?_) (fun c_14 => ?_)
      · replace hF := am_no c_14 hF
        refine g_aload_n (pc := 47) dX12_homes_47 rfl rfl ?_
        refine g_getR (pc := 48) (k := 55) (r := 89) kf_X12_119.r rfl rfl (hPl.get (by decide) rfl) (hPl.lt (by decide)) dX12_homes_48 ?_
        refine g_iload_n (pc := 51) dX12_homes_51 rfl rfl ?_
        refine g_bipush (pc := 52) (v := (10 : Int32)) dX12_homes_52 rfl ?_
        refine g_isub (pc := 54) dX12_homes_54 ?_
        obtain ⟨c_15, hF⟩ := am_gd hF
        refine g_iald (pc := 55) (k := 89) rfl (hPl.lt (by decide)) (am_ix_use c_15) dX12_homes_55 ?_
        cases hF
        exact g_iret (pc := 56) rfl (Nat.le_refl _) (Nat.le_refl _) dX12_homes_56 ⟨rfl, rfl, rfl, rfl⟩
      · replace hF := am_yes c_14 hF
        refine g_aload_n (pc := 38) dX12_homes_38 rfl rfl ?_
        refine g_getR (pc := 39) (k := 55) (r := 88) kf_X12_116.r rfl rfl (hPl.get (by decide) rfl) (hPl.lt (by decide)) dX12_homes_39 ?_
        refine g_iconst (pc := 42) (v := (0 : Int32)) dX12_homes_42 rfl ?_
        obtain ⟨c_16, hF⟩ := am_gd hF
        refine g_iald (pc := 43) (k := 88) rfl (hPl.lt (by decide)) (am_ix_use c_16) dX12_homes_43 ?_
        refine g_goto (pc := 44) (tgt := 56) dX12_homes_44 rfl ?_
        cases hF
        exact g_iret (pc := 56) rfl (Nat.le_refl _) (Nat.le_refl _) dX12_homes_56 ⟨rfl, rfl, rfl, rfl⟩
    · replace hF := am_yes c_11 hF
      refine g_ldcw (pc := 26) dX12_homes_26 kc_X12_285 ?_
      cases hF
      exact g_iret (pc := 29) rfl (Nat.le_refl _) (Nat.le_refl _) dX12_homes_29 ⟨rfl, rfl, rfl, rfl⟩
def F_X12_swap_55 (I : am_IT) : Option (Int32 × am_IT) := am_let (up2 I 55 0 (0 : Int32)) (fun (I_1 : am_IT) => am_b1 (F_X12_findsYards_55 I_1) (fun (I_3 : am_IT) => am_lr (am_it am_fu (fun (l1_4 : Int32) => if (I_3 55 5) ≤ l1_4 then (some (.inr (.inl ((0 : Int32))))) else (am_let (l1_4 + (1 : Int32)) (fun (l2_12 : Int32) => am_lr (am_it am_fu (fun (l2_13 : Int32) => if (I_3 55 5) ≤ l2_13 then (some (.inr (.inl ((0 : Int32))))) else (if am_ix l2_13 7 = true then (am_b1 (F_X12_worthFrom_55 I_3 (I_3 57 l2_13.toNatClampNeg) l1_4 (0 : Int32)) (fun (r_23 : Int32) => am_b1 (F_X12_worthOf_55 I_3 l1_4 (0 : Int32)) (fun (r_25 : Int32) => if r_23 ≤ r_25 then (am_let (l2_13 + (1 : Int32)) (fun (l2_27 : Int32) => some (.inl (l2_27)))) else (if am_ix l1_4 7 = true then (am_b1 (F_X12_worthFrom_55 I_3 (I_3 57 l1_4.toNatClampNeg) l2_13 (0 : Int32)) (fun (r_30 : Int32) => am_b1 (F_X12_worthOf_55 I_3 l2_13 (0 : Int32)) (fun (r_32 : Int32) => if r_30 ≤ r_32 then (am_let (l2_13 + (1 : Int32)) (fun (l2_34 : Int32) => some (.inl (l2_34)))) else (some (.inr (.inr (.inr (.inr (((10 : Int32) * l1_4) + l2_13, I_3))))))))) else none)))) else none)) l2_12) (fun (u_14 : Int32) => am_let (l1_4 + (1 : Int32)) (fun (l1_37 : Int32) => some (.inl (l1_37))))))) (0 : Int32)) (fun (u_5 : Int32) => some ((-1 : Int32), I_3))))
set_option maxRecDepth 100000 in
set_option maxHeartbeats 4000000 in
theorem s_X12_swap_55 {l : Launch} {d N : Nat} {P : am_PT} (hPl : am_Pl 94 N P) (hd : 3 ≤ d) {I : am_IT} {r : Int32} {I2 : am_IT} (hF : F_X12_swap_55 I = some (r, I2)) : am_C l d 0 0 mX12_swap [.ref 55] N P I (am_qi r N P I2) := by
  refine am_body (sc := am_sc0) (n := 2) (by decide +kernel) (by decide) rfl ?_
  change G am_sc0 l d 0 0 mX12_swap (am_qi r N P I2) 0 [.ref 55, .null, .null] [] N P I 0 0
  unfold F_X12_swap_55 at hF
  refine g_aload_n (pc := 0) dX12_swap_0 rfl rfl ?_
  refine g_iconst (pc := 1) (v := (0 : Int32)) dX12_swap_1 rfl ?_
  obtain ⟨I_1, e_I_1, hF⟩ := am_let_el hF
  refine n_putI (pc := 2) (k := 55) e_I_1 kf_X12_134 rfl rfl (hPl.lt (by decide)) dX12_swap_2 ?_
  refine g_aload_n (pc := 5) dX12_swap_5 rfl rfl ?_
  obtain ⟨I_3, h_2, hF⟩ := am_b1_el hF
  refine g_cVv (pc := 6) (k := 55) (As := []) (st := []) ky_X12_findsYards kl_X12_286 (s_X12_findsYards_55 (d := 2) (hPl) (Nat.le_refl _) h_2) rfl rfl rfl (hPl.lt (by decide)) (Nat.le_trans (by decide) hd) (Nat.le_of_ble_eq_true rfl) (Nat.le_refl _) (Nat.le_refl _) dX12_swap_6 ?_
  refine g_iconst (pc := 9) (v := (0 : Int32)) dX12_swap_9 rfl ?_
  refine n_istore_n (pc := 10) (ls2 := [.ref 55, .int (0 : Int32), .null]) rfl rfl dX12_swap_10 rfl (Nat.le_of_ble_eq_true rfl) ?_
  obtain ⟨x_39, hL_9, hF⟩ := am_lr_el hF
  have hX_6 : ∀ (u_5 : Int32), x_39 = .inl u_5 → G am_sc0 l d 0 0 mX12_swap (am_qi r N P I2) 92 [.ref 55, .null, .null] [] N P I_3 0 0 := by
    intro u_5 q
    subst q
    refine g_iconst (pc := 92) (v := (-1 : Int32)) dX12_swap_92 (by decide) ?_
    cases hF
    exact g_iret (pc := 93) rfl (Nat.le_refl _) (Nat.le_refl _) dX12_swap_93 ⟨rfl, rfl, rfl, rfl⟩
  have hZ_10 : ∀ y, x_39 = .inr y → y = _ := fun y q => by subst q; exact hF
  clear hF
  have hC := am_loop (C := fun x => G am_sc0 l d 0 0 mX12_swap (am_qi r N P I2) 11 [.ref 55, .int x, .null] [] N P I_3 0 0) (by
    intro l1_4 rr hF ih_7 hE_8
    refine g_iload_n (pc := 11) dX12_swap_11 rfl rfl ?_
    refine g_aload_n (pc := 12) dX12_swap_12 rfl rfl ?_
    refine g_getI (pc := 13) (k := 55) kf_X12_145.r rfl rfl (hPl.lt (by decide)) dX12_swap_13 ?_
    refine g_icmp_ge (pc := 16) (tgt := 92) dX12_swap_16 rfl (fun c_11 => ?_) (fun c_11 => ?_)
    · replace hF := am_yes c_11 hF
      cases hF
      exact g_weak (hX_6 _ (hE_8 _ rfl).symm) ⟨Or.inr rfl, Or.inl rfl, Or.inl rfl, trivial⟩
    · replace hF := am_no c_11 hF
      refine g_iload_n (pc := 19) dX12_swap_19 rfl rfl ?_
      refine g_iconst (pc := 20) (v := (1 : Int32)) dX12_swap_20 rfl ?_
      refine g_iadd (pc := 21) dX12_swap_21 ?_
      obtain ⟨l2_12, e_l2_12, hF⟩ := am_let_el hF
      refine n_istore_n (pc := 22) (ls2 := [.ref 55, .int l1_4, .int l2_12]) e_l2_12 rfl dX12_swap_22 rfl (Nat.le_of_ble_eq_true rfl) ?_
      obtain ⟨x_38, hL_18, hF⟩ := am_lr_el hF
      have hX_15 : ∀ (u_14 : Int32), x_38 = .inl u_14 → G am_sc0 l d 0 0 mX12_swap (am_qi r N P I2) 86 [.ref 55, .int l1_4, .null] [] N P I_3 0 0 := by
        intro u_14 q
        subst q
        obtain ⟨l1_37, e_l1_37, hF⟩ := am_let_el hF
        refine n_iinc (pc := 86) (ls2 := [.ref 55, .int l1_37, .null]) e_l1_37 rfl rfl rfl dX12_swap_86 (Nat.le_of_ble_eq_true rfl) ?_
        refine g_goto (pc := 89) (tgt := 11) dX12_swap_89 rfl ?_
        cases hF
        exact ih_7 (l1_37) rfl
      have hZ_19 : ∀ y, x_38 = .inr y → y = _ := fun y q => by subst q; exact hF
      clear hF
      have hC := am_loop (C := fun x => G am_sc0 l d 0 0 mX12_swap (am_qi r N P I2) 23 [.ref 55, .int l1_4, .int x] [] N P I_3 0 0) (by
        intro l2_13 rr hF ih_16 hE_17
        refine g_iload_n (pc := 23) dX12_swap_23 rfl rfl ?_
        refine g_aload_n (pc := 24) dX12_swap_24 rfl rfl ?_
        refine g_getI (pc := 25) (k := 55) kf_X12_145.r rfl rfl (hPl.lt (by decide)) dX12_swap_25 ?_
        refine g_icmp_ge (pc := 28) (tgt := 86) dX12_swap_28 rfl (fun c_20 => ?_) (fun c_20 => ?_)
        · replace hF := am_yes c_20 hF
          cases hF
          exact g_weak (hX_15 _ (hE_17 _ rfl).symm) ⟨Or.inr rfl, Or.inr rfl, Or.inl rfl, trivial⟩
        · replace hF := am_no c_20 hF
          refine g_aload_n (pc := 31) dX12_swap_31 rfl rfl ?_
          refine g_aload_n (pc := 32) dX12_swap_32 rfl rfl ?_
          refine g_getR (pc := 33) (k := 55) (r := 57) kf_X12_17.r rfl rfl (hPl.get (by decide) rfl) (hPl.lt (by decide)) dX12_swap_33 ?_
          refine g_iload_n (pc := 36) dX12_swap_36 rfl rfl ?_
          obtain ⟨c_21, hF⟩ := am_gd hF
          refine g_iald (pc := 37) (k := 57) rfl (hPl.lt (by decide)) (am_ix_use c_21) dX12_swap_37 ?_
          refine g_iload_n (pc := 38) dX12_swap_38 rfl rfl ?_
          refine g_iconst (pc := 39) (v := (0 : Int32)) dX12_swap_39 rfl ?_
          obtain ⟨r_23, h_22, hF⟩ := am_b1_el hF
          refine g_cVi (pc := 40) (k := 55) (As := [.int (I_3 57 l2_13.toNatClampNeg), .int l1_4, .int (0 : Int32)]) (st := []) ky_X12_worthFrom kl_X12_282 (s_X12_worthFrom_55 (d := 1) (hPl) (Nat.le_refl _) h_22) rfl rfl rfl (hPl.lt (by decide)) (Nat.le_trans (by decide) hd) (Nat.le_of_ble_eq_true rfl) (Nat.le_refl _) (Nat.le_refl _) dX12_swap_40 ?_
          refine g_aload_n (pc := 43) dX12_swap_43 rfl rfl ?_
          refine g_iload_n (pc := 44) dX12_swap_44 rfl rfl ?_
          refine g_iconst (pc := 45) (v := (0 : Int32)) dX12_swap_45 rfl ?_
          obtain ⟨r_25, h_24, hF⟩ := am_b1_el hF
          refine g_cVi (pc := 46) (k := 55) (As := [.int l1_4, .int (0 : Int32)]) (st := [.int r_23]) ky_X12_worthOf kl_X12_289 (s_X12_worthOf_55 (d := 2) (hPl) (Nat.le_refl _) h_24) rfl rfl rfl (hPl.lt (by decide)) (Nat.le_trans (by decide) hd) (Nat.le_of_ble_eq_true rfl) (Nat.le_refl _) (Nat.le_refl _) dX12_swap_46 ?_
          refine g_icmp_le (pc := 49) (tgt := 80) dX12_swap_49 rfl (fun c_26 => ?_) (fun c_26 => ?_)
          · replace hF := am_yes c_26 hF
            obtain ⟨l2_27, e_l2_27, hF⟩ := am_let_el hF
            refine n_iinc (pc := 80) (ls2 := [.ref 55, .int l1_4, .int l2_27]) e_l2_27 rfl rfl rfl dX12_swap_80 (Nat.le_of_ble_eq_true rfl) ?_
            refine g_goto (pc := 83) (tgt := 23) dX12_swap_83 rfl ?_
            cases hF
            exact ih_16 (l2_27) rfl
          · replace hF := am_no c_26 hF
            refine g_aload_n (pc := 52) dX12_swap_52 rfl rfl ?_
            refine g_aload_n (pc := 53) dX12_swap_53 rfl rfl ?_
            refine g_getR (pc := 54) (k := 55) (r := 57) kf_X12_17.r rfl rfl (hPl.get (by decide) rfl) (hPl.lt (by decide)) dX12_swap_54 ?_
            refine g_iload_n (pc := 57) dX12_swap_57 rfl rfl ?_
            obtain ⟨c_28, hF⟩ := am_gd hF
            refine g_iald (pc := 58) (k := 57) rfl (hPl.lt (by decide)) (am_ix_use c_28) dX12_swap_58 ?_
            refine g_iload_n (pc := 59) dX12_swap_59 rfl rfl ?_
            refine g_iconst (pc := 60) (v := (0 : Int32)) dX12_swap_60 rfl ?_
            obtain ⟨r_30, h_29, hF⟩ := am_b1_el hF
            refine g_cVi (pc := 61) (k := 55) (As := [.int (I_3 57 l1_4.toNatClampNeg), .int l2_13, .int (0 : Int32)]) (st := []) ky_X12_worthFrom kl_X12_282 (s_X12_worthFrom_55 (d := 1) (hPl) (Nat.le_refl _) h_29) rfl rfl rfl (hPl.lt (by decide)) (Nat.le_trans (by decide) hd) (Nat.le_of_ble_eq_true rfl) (Nat.le_refl _) (Nat.le_refl _) dX12_swap_61 ?_
            refine g_aload_n (pc := 64) dX12_swap_64 rfl rfl ?_
            refine g_iload_n (pc := 65) dX12_swap_65 rfl rfl ?_
            refine g_iconst (pc := 66) (v := (0 : Int32)) dX12_swap_66 rfl ?_
            obtain ⟨r_32, h_31, hF⟩ := am_b1_el hF
            refine g_cVi (pc := 67) (k := 55) (As := [.int l2_13, .int (0 : Int32)]) (st := [.int r_30]) ky_X12_worthOf kl_X12_289 (s_X12_worthOf_55 (d := 2) (hPl) (Nat.le_refl _) h_31) rfl rfl rfl (hPl.lt (by decide)) (Nat.le_trans (by decide) hd) (Nat.le_of_ble_eq_true rfl) (Nat.le_refl _) (Nat.le_refl _) dX12_swap_67 ?_
            refine g_icmp_le (pc := 70) (tgt := 80) dX12_swap_70 rfl (fun c_33 => ?_) (fun c_33 => ?_)
            · replace hF := am_yes c_33 hF
              obtain ⟨l2_34, e_l2_34, hF⟩ := am_let_el hF
              refine n_iinc (pc := 80) (ls2 := [.ref 55, .int l1_4, .int l2_34]) e_l2_34 rfl rfl rfl dX12_swap_80 (Nat.le_of_ble_eq_true rfl) ?_
              refine g_goto (pc := 83) (tgt := 23) dX12_swap_83 rfl ?_
              cases hF
              exact ih_16 (l2_34) rfl
            · replace hF := am_no c_33 hF
              refine g_bipush (pc := 73) (v := (10 : Int32)) dX12_swap_73 rfl ?_
              refine g_iload_n (pc := 75) dX12_swap_75 rfl rfl ?_
              refine g_imul (pc := 76) dX12_swap_76 ?_
              refine g_iload_n (pc := 77) dX12_swap_77 rfl rfl ?_
              refine g_iadd (pc := 78) dX12_swap_78 ?_
              cases hF
              have q_35 := hZ_19 _ (hE_17 _ rfl).symm
              cases q_35
              have q_36 := hZ_10 _ (hE_8 _ rfl).symm
              cases q_36
              exact g_iret (pc := 79) rfl (Nat.le_refl _) (Nat.le_refl _) dX12_swap_79 ⟨rfl, rfl, rfl, rfl⟩
        ) _ _ hL_18
      exact hC
    ) _ _ hL_9
  exact hC
def F_X12_deed_55 (I : am_IT) (a1 : Int32) (a2 : Int32) (a3 : Int32) : Option (Int32 × am_IT) := am_let (up2 I 55 0 (0 : Int32)) (fun (I_1 : am_IT) => am_b1 (F_X12_isOne_55 I_1 a1) (fun (r_3 : Int32) => if r_3 = 0 then (some ((0 : Int32), I_1)) else (am_b1 (F_X12_isColour_55 I_1 a2) (fun (r_7 : Int32) => if r_7 = 0 then (some ((0 : Int32), I_1)) else (am_b1 (F_X12_isColour_55 I_1 a3) (fun (r_11 : Int32) => if r_11 = 0 then (some ((0 : Int32), I_1)) else (if a2 = a3 then (some ((0 : Int32), I_1)) else (if (I_1 55 18) = (40 : Int32) then (some ((0 : Int32), I_1)) else (if am_ix (I_1 55 18) 40 = true then (am_let (up2 I_1 67 (I_1 55 18).toNatClampNeg a1) (fun (I_17 : am_IT) => if am_ix (I_17 55 18) 40 = true then (am_let (up2 I_17 68 (I_17 55 18).toNatClampNeg a2) (fun (I_19 : am_IT) => if am_ix (I_19 55 18) 40 = true then (am_let (up2 I_19 69 (I_19 55 18).toNatClampNeg a3) (fun (I_21 : am_IT) => am_let (up2 I_21 55 18 ((I_21 55 18) + (1 : Int32))) (fun (I_22 : am_IT) => some ((1 : Int32), I_22)))) else none)) else none)) else none)))))))))
set_option maxRecDepth 100000 in
set_option maxHeartbeats 4000000 in
theorem s_X12_deed_55 {l : Launch} {d N : Nat} {P : am_PT} (hPl : am_Pl 94 N P) (hd : 2 ≤ d) {I : am_IT} {a1 : Int32} {a2 : Int32} {a3 : Int32} {r : Int32} {I2 : am_IT} (hF : F_X12_deed_55 I a1 a2 a3 = some (r, I2)) : am_C l d 0 0 mX12_deed [.ref 55, .int a1, .int a2, .int a3] N P I (am_qz r N P I2) := by
  refine am_body (sc := am_sc0) (n := 0) (by decide +kernel) (by decide) rfl ?_
  change G am_sc0 l d 0 0 mX12_deed (am_qz r N P I2) 0 [.ref 55, .int a1, .int a2, .int a3] [] N P I 0 0
  unfold F_X12_deed_55 at hF
  refine g_aload_n (pc := 0) dX12_deed_0 rfl rfl ?_
  refine g_iconst (pc := 1) (v := (0 : Int32)) dX12_deed_1 rfl ?_
  obtain ⟨I_1, e_I_1, hF⟩ := am_let_el hF
  refine n_putI (pc := 2) (k := 55) e_I_1 kf_X12_134 rfl rfl (hPl.lt (by decide)) dX12_deed_2 ?_
  refine g_aload_n (pc := 5) dX12_deed_5 rfl rfl ?_
  refine g_iload_n (pc := 6) dX12_deed_6 rfl rfl ?_
  obtain ⟨r_3, h_2, hF⟩ := am_b1_el hF
  refine g_cVz (pc := 7) (k := 55) (As := [.int a1]) (st := []) ky_X12_isOne kl_X12_175 (s_X12_isOne_55 (d := 1) (hPl) (Nat.le_refl _) h_2) rfl rfl rfl (hPl.lt (by decide)) (Nat.le_trans (by decide) hd) (Nat.le_of_ble_eq_true rfl) (Nat.le_refl _) (Nat.le_refl _) dX12_deed_7 ?_
  intro z_4
  refine g_if_eq (pc := 10) (tgt := 43) dX12_deed_10 rfl (fun c_5 => ?_) (fun c_5 => ?_)
  · replace hF := am_yes c_5 hF
    refine g_iconst (pc := 43) (v := (0 : Int32)) dX12_deed_43 rfl ?_
    cases hF
    exact g_zret (pc := 44) rfl (Or.inl rfl) (Nat.le_refl _) (Nat.le_refl _) dX12_deed_44 ⟨(Or.inl rfl), rfl, rfl, rfl, rfl⟩
  · replace hF := am_no c_5 hF
    refine g_aload_n (pc := 13) dX12_deed_13 rfl rfl ?_
    refine g_iload_n (pc := 14) dX12_deed_14 rfl rfl ?_
    obtain ⟨r_7, h_6, hF⟩ := am_b1_el hF
    refine g_cVz (pc := 15) (k := 55) (As := [.int a2]) (st := []) ky_X12_isColour kl_X12_164 (s_X12_isColour_55 (d := 1) (hPl) (Nat.le_refl _) h_6) rfl rfl rfl (hPl.lt (by decide)) (Nat.le_trans (by decide) hd) (Nat.le_of_ble_eq_true rfl) (Nat.le_refl _) (Nat.le_refl _) dX12_deed_15 ?_
    intro z_8
    refine g_if_eq (pc := 18) (tgt := 43) dX12_deed_18 rfl (fun c_9 => ?_) (fun c_9 => ?_)
    · replace hF := am_yes c_9 hF
      refine g_iconst (pc := 43) (v := (0 : Int32)) dX12_deed_43 rfl ?_
      cases hF
      exact g_zret (pc := 44) rfl (Or.inl rfl) (Nat.le_refl _) (Nat.le_refl _) dX12_deed_44 ⟨(Or.inl rfl), rfl, rfl, rfl, rfl⟩
    · replace hF := am_no c_9 hF
      refine g_aload_n (pc := 21) dX12_deed_21 rfl rfl ?_
      refine g_iload_n (pc := 22) dX12_deed_22 rfl rfl ?_
      obtain ⟨r_11, h_10, hF⟩ := am_b1_el hF
      refine g_cVz (pc := 23) (k := 55) (As := [.int a3]) (st := []) ky_X12_isColour kl_X12_164 (s_X12_isColour_55 (d := 1) (hPl) (Nat.le_refl _) h_10) rfl rfl rfl (hPl.lt (by decide)) (Nat.le_trans (by decide) hd) (Nat.le_of_ble_eq_true rfl) (Nat.le_refl _) (Nat.le_refl _) dX12_deed_23 ?_
      intro z_12
      refine g_if_eq (pc := 26) (tgt := 43) dX12_deed_26 rfl (fun c_13 => ?_) (fun c_13 => ?_)
      · replace hF := am_yes c_13 hF
        refine g_iconst (pc := 43) (v := (0 : Int32)) dX12_deed_43 rfl ?_
        cases hF
        exact g_zret (pc := 44) rfl (Or.inl rfl) (Nat.le_refl _) (Nat.le_refl _) dX12_deed_44 ⟨(Or.inl rfl), rfl, rfl, rfl, rfl⟩
      · replace hF := am_no c_13 hF
        refine g_iload_n (pc := 29) dX12_deed_29 rfl rfl ?_
        refine g_iload_n (pc := 30) dX12_deed_30 rfl rfl ?_
        refine g_icmp_eq (pc := 31) (tgt := 43) dX12_deed_31 rfl (fun c_14 => ?_) (fun c_14 => ?_)
        · replace hF := am_yes c_14 hF
          refine g_iconst (pc := 43) (v := (0 : Int32)) dX12_deed_43 rfl ?_
          cases hF
          exact g_zret (pc := 44) rfl (Or.inl rfl) (Nat.le_refl _) (Nat.le_refl _) dX12_deed_44 ⟨(Or.inl rfl), rfl, rfl, rfl, rfl⟩
        · replace hF := am_no c_14 hF
          refine g_aload_n (pc := 34) dX12_deed_34 rfl rfl ?_
          refine g_getI (pc := 35) (k := 55) kf_X12_158.r rfl rfl (hPl.lt (by decide)) dX12_deed_35 ?_
          refine g_bipush (pc := 38) (v := (40 : Int32)) dX12_deed_38 rfl ?_
          refine g_icmp_ne (pc := 40) (tgt := 45) dX12_deed_40 rfl (fun c_15 => ?_) (fun c_15 => ?_)
          · replace hF := am_no c_15 hF
            refine g_aload_n (pc := 45) dX12_deed_45 rfl rfl ?_
            refine g_getR (pc := 46) (k := 55) (r := 67) kf_X12_47.r rfl rfl (hPl.get (by decide) rfl) (hPl.lt (by decide)) dX12_deed_46 ?_
            refine g_aload_n (pc := 49) dX12_deed_49 rfl rfl ?_
            refine g_getI (pc := 50) (k := 55) kf_X12_158.r rfl rfl (hPl.lt (by decide)) dX12_deed_50 ?_
            refine g_iload_n (pc := 53) dX12_deed_53 rfl rfl ?_
            obtain ⟨c_16, hF⟩ := am_gd hF
            obtain ⟨I_17, e_I_17, hF⟩ := am_let_el hF
            refine n_iast (pc := 54) (k := 67) e_I_17 rfl (hPl.lt (by decide)) (am_ix_use c_16) dX12_deed_54 ?_
            refine g_aload_n (pc := 55) dX12_deed_55 rfl rfl ?_
            refine g_getR (pc := 56) (k := 55) (r := 68) kf_X12_50.r rfl rfl (hPl.get (by decide) rfl) (hPl.lt (by decide)) dX12_deed_56 ?_
            refine g_aload_n (pc := 59) dX12_deed_59 rfl rfl ?_
            refine g_getI (pc := 60) (k := 55) kf_X12_158.r rfl rfl (hPl.lt (by decide)) dX12_deed_60 ?_
            refine g_iload_n (pc := 63) dX12_deed_63 rfl rfl ?_
            obtain ⟨c_18, hF⟩ := am_gd hF
            obtain ⟨I_19, e_I_19, hF⟩ := am_let_el hF
            refine n_iast (pc := 64) (k := 68) e_I_19 rfl (hPl.lt (by decide)) (am_ix_use c_18) dX12_deed_64 ?_
            refine g_aload_n (pc := 65) dX12_deed_65 rfl rfl ?_
            refine g_getR (pc := 66) (k := 55) (r := 69) kf_X12_53.r rfl rfl (hPl.get (by decide) rfl) (hPl.lt (by decide)) dX12_deed_66 ?_
            refine g_aload_n (pc := 69) dX12_deed_69 rfl rfl ?_
            refine g_getI (pc := 70) (k := 55) kf_X12_158.r rfl rfl (hPl.lt (by decide)) dX12_deed_70 ?_
            refine g_iload_n (pc := 73) dX12_deed_73 rfl rfl ?_
            obtain ⟨c_20, hF⟩ := am_gd hF
            obtain ⟨I_21, e_I_21, hF⟩ := am_let_el hF
            refine n_iast (pc := 74) (k := 69) e_I_21 rfl (hPl.lt (by decide)) (am_ix_use c_20) dX12_deed_74 ?_
            refine g_aload_n (pc := 75) dX12_deed_75 rfl rfl ?_
            refine g_aload_n (pc := 76) dX12_deed_76 rfl rfl ?_
            refine g_getI (pc := 77) (k := 55) kf_X12_158.r rfl rfl (hPl.lt (by decide)) dX12_deed_77 ?_
            refine g_iconst (pc := 80) (v := (1 : Int32)) dX12_deed_80 rfl ?_
            refine g_iadd (pc := 81) dX12_deed_81 ?_
            obtain ⟨I_22, e_I_22, hF⟩ := am_let_el hF
            refine n_putI (pc := 82) (k := 55) e_I_22 kf_X12_158 rfl rfl (hPl.lt (by decide)) dX12_deed_82 ?_
            refine g_iconst (pc := 85) (v := (1 : Int32)) dX12_deed_85 rfl ?_
            cases hF
            exact g_zret (pc := 86) rfl (Or.inr rfl) (Nat.le_refl _) (Nat.le_refl _) dX12_deed_86 ⟨(Or.inr rfl), rfl, rfl, rfl, rfl⟩
          · replace hF := am_yes c_15 hF
            refine g_iconst (pc := 43) (v := (0 : Int32)) dX12_deed_43 rfl ?_
            cases hF
            exact g_zret (pc := 44) rfl (Or.inl rfl) (Nat.le_refl _) (Nat.le_refl _) dX12_deed_44 ⟨(Or.inl rfl), rfl, rfl, rfl, rfl⟩
def F_X12_must_55 (I : am_IT) (a1 : Int32) (a2 : Int32) (a3 : Int32) : Option (Int32 × am_IT) := am_let (up2 I 55 0 (0 : Int32)) (fun (I_1 : am_IT) => am_b1 (F_X12_isOne_55 I_1 a1) (fun (r_3 : Int32) => if r_3 = 0 then (some ((-1 : Int32), I_1)) else (am_b1 (F_X12_isColour_55 I_1 a2) (fun (r_7 : Int32) => if r_7 = 0 then (some ((-1 : Int32), I_1)) else (am_b1 (F_X12_isColour_55 I_1 a3) (fun (r_11 : Int32) => if r_11 = 0 then (some ((-1 : Int32), I_1)) else (am_b1 (am_it am_fu (am_u2 (fun (l4_14 : Int32) (I_15 : am_IT) => if (4 : Int32) ≤ l4_14 then (some (.inr (I_15))) else (if am_ix l4_14 4 = true then (am_let (up2 I_15 90 l4_14.toNatClampNeg (0 : Int32)) (fun (I_24 : am_IT) => am_let (l4_14 + (1 : Int32)) (fun (l4_25 : Int32) => some (.inl (l4_25, I_24))))) else none))) ((0 : Int32), I_1)) (fun (I_16 : am_IT) => am_b1 (am_it am_fu (am_u2 (fun (l4_26 : Int32) (I_27 : am_IT) => if (I_27 55 18) ≤ l4_26 then (some (.inr (I_27))) else (if am_ix l4_26 40 = true then (if (I_27 67 l4_26.toNatClampNeg) = a1 then (if am_ix l4_26 40 = true then (if am_ix l4_26 40 = true then (if am_ix (I_27 68 l4_26.toNatClampNeg) 4 = true then (if am_ix l4_26 40 = true then (if am_ix (I_27 68 l4_26.toNatClampNeg) 4 = true then (am_let (up2 I_27 90 (I_27 68 l4_26.toNatClampNeg).toNatClampNeg ((I_27 90 (I_27 68 l4_26.toNatClampNeg).toNatClampNeg) ||| ((1 : Int32) <<< ((I_27 69 l4_26.toNatClampNeg) &&& 31)))) (fun (I_43 : am_IT) => am_let (l4_26 + (1 : Int32)) (fun (l4_44 : Int32) => some (.inl (l4_44, I_43))))) else none) else none) else none) else none) else none) else (am_let (l4_26 + (1 : Int32)) (fun (l4_37 : Int32) => some (.inl (l4_37, I_27))))) else none))) ((0 : Int32), I_16)) (fun (I_28 : am_IT) => am_b1 (am_it am_fu (am_u2 (fun (l4_45 : Int32) (I_46 : am_IT) => if (I_46 55 2) ≤ l4_45 then (some (.inr (I_46))) else (am_b1 (am_it am_fu (am_u2 (fun (l5_54 : Int32) (I_55 : am_IT) => if (I_55 55 2) ≤ l5_54 then (some (.inr (I_55))) else (am_b1 (am_it am_fu (am_u2 (fun (l6_63 : Int32) (I_64 : am_IT) => if (I_64 55 2) ≤ l6_63 then (some (.inr (I_64))) else (if am_ix l5_54 4 = true then (if (((I_64 90 l5_54.toNatClampNeg) >>> (l6_63 &&& 31)) &&& (1 : Int32)) = (1 : Int32) then (if am_ix l5_54 4 = true then (if am_ix l6_63 4 = true then (if am_ix l5_54 4 = true then (am_let (up2 I_64 90 l5_54.toNatClampNeg ((I_64 90 l5_54.toNatClampNeg) ||| (I_64 90 l6_63.toNatClampNeg))) (fun (I_78 : am_IT) => am_let (l6_63 + (1 : Int32)) (fun (l6_79 : Int32) => some (.inl (l6_79, I_78))))) else none) else none) else none) else (am_let (l6_63 + (1 : Int32)) (fun (l6_74 : Int32) => some (.inl (l6_74, I_64))))) else none))) ((0 : Int32), I_55)) (fun (I_65 : am_IT) => am_let (l5_54 + (1 : Int32)) (fun (l5_80 : Int32) => some (.inl (l5_80, I_65))))))) ((0 : Int32), I_46)) (fun (I_56 : am_IT) => am_let (l4_45 + (1 : Int32)) (fun (l4_81 : Int32) => some (.inl (l4_81, I_56))))))) ((0 : Int32), I_28)) (fun (I_47 : am_IT) => if a2 = a3 then (am_b1 (am_it am_fu (am_u2 (fun (l4_83 : Int32) (l5_84 : Int32) => if (I_47 55 2) ≤ l5_84 then (some (.inr (l4_83))) else (if am_ix l5_84 4 = true then (am_let (l4_83 ||| (((I_47 90 l5_84.toNatClampNeg) >>> (l5_84 &&& 31)) &&& (1 : Int32))) (fun (l4_93 : Int32) => am_let (l5_84 + (1 : Int32)) (fun (l5_94 : Int32) => some (.inl (l4_93, l5_94))))) else none))) ((0 : Int32), (0 : Int32))) (fun (l4_85 : Int32) => some (l4_85, I_47))) else (if am_ix a2 4 = true then (some (((I_47 90 a2.toNatClampNeg) >>> (a3 &&& 31)) &&& (1 : Int32), I_47)) else none)))))))))))
set_option maxRecDepth 100000 in
set_option maxHeartbeats 4000000 in
theorem s_X12_must_55 {l : Launch} {d N : Nat} {P : am_PT} (hPl : am_Pl 94 N P) (hd : 2 ≤ d) {I : am_IT} {a1 : Int32} {a2 : Int32} {a3 : Int32} {r : Int32} {I2 : am_IT} (hF : F_X12_must_55 I a1 a2 a3 = some (r, I2)) : am_C l d 0 0 mX12_must [.ref 55, .int a1, .int a2, .int a3] N P I (am_qi r N P I2) := by
  refine am_body (sc := am_sc0) (n := 3) (by decide +kernel) (by decide) rfl ?_
  change G am_sc0 l d 0 0 mX12_must (am_qi r N P I2) 0 [.ref 55, .int a1, .int a2, .int a3, .null, .null, .null] [] N P I 0 0
  unfold F_X12_must_55 at hF
  refine g_aload_n (pc := 0) dX12_must_0 rfl rfl ?_
  refine g_iconst (pc := 1) (v := (0 : Int32)) dX12_must_1 rfl ?_
  obtain ⟨I_1, e_I_1, hF⟩ := am_let_el hF
  refine n_putI (pc := 2) (k := 55) e_I_1 kf_X12_134 rfl rfl (hPl.lt (by decide)) dX12_must_2 ?_
  refine g_aload_n (pc := 5) dX12_must_5 rfl rfl ?_
  refine g_iload_n (pc := 6) dX12_must_6 rfl rfl ?_
  obtain ⟨r_3, h_2, hF⟩ := am_b1_el hF
  refine g_cVz (pc := 7) (k := 55) (As := [.int a1]) (st := []) ky_X12_isOne kl_X12_175 (s_X12_isOne_55 (d := 1) (hPl) (Nat.le_refl _) h_2) rfl rfl rfl (hPl.lt (by decide)) (Nat.le_trans (by decide) hd) (Nat.le_of_ble_eq_true rfl) (Nat.le_refl _) (Nat.le_refl _) dX12_must_7 ?_
  intro z_4
  refine g_if_eq (pc := 10) (tgt := 29) dX12_must_10 rfl (fun c_5 => ?_) (fun c_5 => ?_)
  · replace hF := am_yes c_5 hF
    refine g_iconst (pc := 29) (v := (-1 : Int32)) dX12_must_29 (by decide) ?_
    cases hF
    exact g_iret (pc := 30) rfl (Nat.le_refl _) (Nat.le_refl _) dX12_must_30 ⟨rfl, rfl, rfl, rfl⟩
  · replace hF := am_no c_5 hF
    refine g_aload_n (pc := 13) dX12_must_13 rfl rfl ?_
    refine g_iload_n (pc := 14) dX12_must_14 rfl rfl ?_
    obtain ⟨r_7, h_6, hF⟩ := am_b1_el hF
    refine g_cVz (pc := 15) (k := 55) (As := [.int a2]) (st := []) ky_X12_isColour kl_X12_164 (s_X12_isColour_55 (d := 1) (hPl) (Nat.le_refl _) h_6) rfl rfl rfl (hPl.lt (by decide)) (Nat.le_trans (by decide) hd) (Nat.le_of_ble_eq_true rfl) (Nat.le_refl _) (Nat.le_refl _) dX12_must_15 ?_
    intro z_8
    refine g_if_eq (pc := 18) (tgt := 29) dX12_must_18 rfl (fun c_9 => ?_) (fun c_9 => ?_)
    · replace hF := am_yes c_9 hF
      refine g_iconst (pc := 29) (v := (-1 : Int32)) dX12_must_29 (by decide) ?_
      cases hF
      exact g_iret (pc := 30) rfl (Nat.le_refl _) (Nat.le_refl _) dX12_must_30 ⟨rfl, rfl, rfl, rfl⟩
    · replace hF := am_no c_9 hF
      refine g_aload_n (pc := 21) dX12_must_21 rfl rfl ?_
      refine g_iload_n (pc := 22) dX12_must_22 rfl rfl ?_
      obtain ⟨r_11, h_10, hF⟩ := am_b1_el hF
      refine g_cVz (pc := 23) (k := 55) (As := [.int a3]) (st := []) ky_X12_isColour kl_X12_164 (s_X12_isColour_55 (d := 1) (hPl) (Nat.le_refl _) h_10) rfl rfl rfl (hPl.lt (by decide)) (Nat.le_trans (by decide) hd) (Nat.le_of_ble_eq_true rfl) (Nat.le_refl _) (Nat.le_refl _) dX12_must_23 ?_
      intro z_12
      refine g_if_ne (pc := 26) (tgt := 31) dX12_must_26 rfl (fun c_13 => ?_) (fun c_13 => ?_)
      · replace hF := am_no c_13 hF
        refine g_iconst (pc := 31) (v := (0 : Int32)) dX12_must_31 rfl ?_
        refine n_istore (pc := 32) (ls2 := [.ref 55, .int a1, .int a2, .int a3, .int (0 : Int32), .null, .null]) rfl rfl dX12_must_32 (Nat.le_of_ble_eq_true rfl) ?_
        obtain ⟨I_16, hL_20, hF⟩ := am_b1_el hF
        have hX_17 : G am_sc0 l d 0 0 mX12_must (am_qi r N P I2) 54 [.ref 55, .int a1, .int a2, .int a3, .null, .null, .null] [] N P I_16 0 0 := by
          refine g_iconst (pc := 54) (v := (0 : Int32)) dX12_must_54 rfl ?_
          refine n_istore (pc := 55) (ls2 := [.ref 55, .int a1, .int a2, .int a3, .int (0 : Int32), .null, .null]) rfl rfl dX12_must_55 (Nat.le_of_ble_eq_true rfl) ?_
          obtain ⟨I_28, hL_32, hF⟩ := am_b1_el hF
          have hX_29 : G am_sc0 l d 0 0 mX12_must (am_qi r N P I2) 117 [.ref 55, .int a1, .int a2, .int a3, .null, .null, .null] [] N P I_28 0 0 := by
            refine g_iconst (pc := 117) (v := (0 : Int32)) dX12_must_117 rfl ?_
            refine n_istore (pc := 118) (ls2 := [.ref 55, .int a1, .int a2, .int a3, .int (0 : Int32), .null, .null]) rfl rfl dX12_must_118 (Nat.le_of_ble_eq_true rfl) ?_
            obtain ⟨I_47, hL_51, hF⟩ := am_b1_el hF
            have hX_48 : G am_sc0 l d 0 0 mX12_must (am_qi r N P I2) 209 [.ref 55, .int a1, .int a2, .int a3, .null, .null, .null] [] N P I_47 0 0 := by
              refine g_iload_n (pc := 209) dX12_must_209 rfl rfl ?_
              refine g_iload_n (pc := 210) dX12_must_210 rfl rfl ?_
              refine g_icmp_eq (pc := 211) (tgt := 225) dX12_must_211 rfl (fun c_82 => ?_) (fun c_82 => ?_)
              · replace hF := am_yes c_82 hF
                refine g_iconst (pc := 225) (v := (0 : Int32)) dX12_must_225 rfl ?_
                refine n_istore (pc := 226) (ls2 := [.ref 55, .int a1, .int a2, .int a3, .int (0 : Int32), .null, .null]) rfl rfl dX12_must_226 (Nat.le_of_ble_eq_true rfl) ?_
                refine g_iconst (pc := 228) (v := (0 : Int32)) dX12_must_228 rfl ?_
                refine n_istore (pc := 229) (ls2 := [.ref 55, .int a1, .int a2, .int a3, .int (0 : Int32), .int (0 : Int32), .null]) rfl rfl dX12_must_229 (Nat.le_of_ble_eq_true rfl) ?_
                obtain ⟨l4_85, hL_89, hF⟩ := am_b1_el hF
                have hX_86 : G am_sc0 l d 0 0 mX12_must (am_qi r N P I2) 263 [.ref 55, .int a1, .int a2, .int a3, .int l4_85, .null, .null] [] N P I_47 0 0 := by
                  refine g_iload (pc := 263) dX12_must_263 rfl ?_
                  cases hF
                  exact g_iret (pc := 265) rfl (Nat.le_refl _) (Nat.le_refl _) dX12_must_265 ⟨rfl, rfl, rfl, rfl⟩
                clear hF
                have hC := am_loop (C := fun x => G am_sc0 l d 0 0 mX12_must (am_qi r N P I2) 231 [.ref 55, .int a1, .int a2, .int a3, .int x.1, .int x.2, .null] [] N P I_47 0 0) (by
                  rintro ⟨l4_83, l5_84⟩ rr hF ih_87 hE_88
                  replace hF := am_u2_ap hF
                  change G am_sc0 l d 0 0 mX12_must (am_qi r N P I2) 231 [.ref 55, .int a1, .int a2, .int a3, .int l4_83, .int l5_84, .null] [] N P I_47 0 0
                  refine g_iload (pc := 231) dX12_must_231 rfl ?_
                  refine g_aload_n (pc := 233) dX12_must_233 rfl rfl ?_
                  refine g_getI (pc := 234) (k := 55) kf_X12_7.r rfl rfl (hPl.lt (by decide)) dX12_must_234 ?_
                  refine g_icmp_ge (pc := 237) (tgt := 263) dX12_must_237 rfl (fun c_91 => ?_) (fun c_91 => ?_)
                  · replace hF := am_yes c_91 hF
                    cases hF
                    cases hE_88 _ rfl
                    exact g_weak hX_86 ⟨Or.inr rfl, Or.inr rfl, Or.inr rfl, Or.inr rfl, Or.inr rfl, Or.inl rfl, Or.inl rfl, trivial⟩
                  · replace hF := am_no c_91 hF
                    refine g_iload (pc := 240) dX12_must_240 rfl ?_
                    refine g_aload_n (pc := 242) dX12_must_242 rfl rfl ?_
                    refine g_getR (pc := 243) (k := 55) (r := 90) kf_X12_122.r rfl rfl (hPl.get (by decide) rfl) (hPl.lt (by decide)) dX12_must_243 ?_
                    refine g_iload (pc := 246) dX12_must_246 rfl ?_
                    obtain ⟨c_92, hF⟩ := am_gd hF
                    refine g_iald (pc := 248) (k := 90) rfl (hPl.lt (by decide)) (am_ix_use c_92) dX12_must_248 ?_
                    refine g_iload (pc := 249) dX12_must_249 rfl ?_
                    refine g_ishr (pc := 251) dX12_must_251 ?_
                    refine g_iconst (pc := 252) (v := (1 : Int32)) dX12_must_252 rfl ?_
                    refine g_iand (pc := 253) dX12_must_253 ?_
                    refine g_ior (pc := 254) dX12_must_254 ?_
                    obtain ⟨l4_93, e_l4_93, hF⟩ := am_let_el hF
                    refine n_istore (pc := 255) (ls2 := [.ref 55, .int a1, .int a2, .int a3, .int l4_93, .int l5_84, .null]) e_l4_93 rfl dX12_must_255 (Nat.le_of_ble_eq_true rfl) ?_
                    obtain ⟨l5_94, e_l5_94, hF⟩ := am_let_el hF
                    refine n_iinc (pc := 257) (ls2 := [.ref 55, .int a1, .int a2, .int a3, .int l4_93, .int l5_94, .null]) e_l5_94 rfl rfl rfl dX12_must_257 (Nat.le_of_ble_eq_true rfl) ?_
                    refine g_goto (pc := 260) (tgt := 231) dX12_must_260 rfl ?_
                    cases hF
                    exact ih_87 (l4_93, l5_94) rfl
                  ) _ _ hL_89
                exact hC
              · replace hF := am_no c_82 hF
                refine g_aload_n (pc := 214) dX12_must_214 rfl rfl ?_
                refine g_getR (pc := 215) (k := 55) (r := 90) kf_X12_122.r rfl rfl (hPl.get (by decide) rfl) (hPl.lt (by decide)) dX12_must_215 ?_
                refine g_iload_n (pc := 218) dX12_must_218 rfl rfl ?_
                obtain ⟨c_95, hF⟩ := am_gd hF
                refine g_iald (pc := 219) (k := 90) rfl (hPl.lt (by decide)) (am_ix_use c_95) dX12_must_219 ?_
                refine g_iload_n (pc := 220) dX12_must_220 rfl rfl ?_
                refine g_ishr (pc := 221) dX12_must_221 ?_
                refine g_iconst (pc := 222) (v := (1 : Int32)) dX12_must_222 rfl ?_
                refine g_iand (pc := 223) dX12_must_223 ?_
                cases hF
                exact g_iret (pc := 224) rfl (Nat.le_refl _) (Nat.le_refl _) dX12_must_224 ⟨rfl, rfl, rfl, rfl⟩
            clear hF
            have hC := am_loop (C := fun x => G am_sc0 l d 0 0 mX12_must (am_qi r N P I2) 120 [.ref 55, .int a1, .int a2, .int a3, .int x.1, .null, .null] [] N P x.2 0 0) (by
              rintro ⟨l4_45, I_46⟩ rr hF ih_49 hE_50
              replace hF := am_u2_ap hF
              change G am_sc0 l d 0 0 mX12_must (am_qi r N P I2) 120 [.ref 55, .int a1, .int a2, .int a3, .int l4_45, .null, .null] [] N P I_46 0 0
              refine g_iload (pc := 120) dX12_must_120 rfl ?_
              refine g_aload_n (pc := 122) dX12_must_122 rfl rfl ?_
              refine g_getI (pc := 123) (k := 55) kf_X12_7.r rfl rfl (hPl.lt (by decide)) dX12_must_123 ?_
              refine g_icmp_ge (pc := 126) (tgt := 209) dX12_must_126 rfl (fun c_53 => ?_) (fun c_53 => ?_)
              · replace hF := am_yes c_53 hF
                cases hF
                cases hE_50 _ rfl
                exact g_weak hX_48 ⟨Or.inr rfl, Or.inr rfl, Or.inr rfl, Or.inr rfl, Or.inl rfl, Or.inl rfl, Or.inl rfl, trivial⟩
              · replace hF := am_no c_53 hF
                refine g_iconst (pc := 129) (v := (0 : Int32)) dX12_must_129 rfl ?_
                refine n_istore (pc := 130) (ls2 := [.ref 55, .int a1, .int a2, .int a3, .int l4_45, .int (0 : Int32), .null]) rfl rfl dX12_must_130 (Nat.le_of_ble_eq_true rfl) ?_
                obtain ⟨I_56, hL_60, hF⟩ := am_b1_el hF
                have hX_57 : G am_sc0 l d 0 0 mX12_must (am_qi r N P I2) 203 [.ref 55, .int a1, .int a2, .int a3, .int l4_45, .null, .null] [] N P I_56 0 0 := by
                  obtain ⟨l4_81, e_l4_81, hF⟩ := am_let_el hF
                  refine n_iinc (pc := 203) (ls2 := [.ref 55, .int a1, .int a2, .int a3, .int l4_81, .null, .null]) e_l4_81 rfl rfl rfl dX12_must_203 (Nat.le_of_ble_eq_true rfl) ?_
                  refine g_goto (pc := 206) (tgt := 120) dX12_must_206 rfl ?_
                  cases hF
                  exact ih_49 (l4_81, I_56) rfl
                clear hF
                have hC := am_loop (C := fun x => G am_sc0 l d 0 0 mX12_must (am_qi r N P I2) 132 [.ref 55, .int a1, .int a2, .int a3, .int l4_45, .int x.1, .null] [] N P x.2 0 0) (by
                  rintro ⟨l5_54, I_55⟩ rr hF ih_58 hE_59
                  replace hF := am_u2_ap hF
                  change G am_sc0 l d 0 0 mX12_must (am_qi r N P I2) 132 [.ref 55, .int a1, .int a2, .int a3, .int l4_45, .int l5_54, .null] [] N P I_55 0 0
                  refine g_iload (pc := 132) dX12_must_132 rfl ?_
                  refine g_aload_n (pc := 134) dX12_must_134 rfl rfl ?_
                  refine g_getI (pc := 135) (k := 55) kf_X12_7.r rfl rfl (hPl.lt (by decide)) dX12_must_135 ?_
                  refine g_icmp_ge (pc := 138) (tgt := 203) dX12_must_138 rfl (fun c_62 => ?_) (fun c_62 => ?_)
                  · replace hF := am_yes c_62 hF
                    cases hF
                    cases hE_59 _ rfl
                    exact g_weak hX_57 ⟨Or.inr rfl, Or.inr rfl, Or.inr rfl, Or.inr rfl, Or.inr rfl, Or.inl rfl, Or.inl rfl, trivial⟩
                  · replace hF := am_no c_62 hF
                    refine g_iconst (pc := 141) (v := (0 : Int32)) dX12_must_141 rfl ?_
                    refine n_istore (pc := 142) (ls2 := [.ref 55, .int a1, .int a2, .int a3, .int l4_45, .int l5_54, .int (0 : Int32)]) rfl rfl dX12_must_142 (Nat.le_of_ble_eq_true rfl) ?_
                    obtain ⟨I_65, hL_69, hF⟩ := am_b1_el hF
                    have hX_66 : G am_sc0 l d 0 0 mX12_must (am_qi r N P I2) 197 [.ref 55, .int a1, .int a2, .int a3, .int l4_45, .int l5_54, .null] [] N P I_65 0 0 := by
                      obtain ⟨l5_80, e_l5_80, hF⟩ := am_let_el hF
                      refine n_iinc (pc := 197) (ls2 := [.ref 55, .int a1, .int a2, .int a3, .int l4_45, .int l5_80, .null]) e_l5_80 rfl rfl rfl dX12_must_197 (Nat.le_of_ble_eq_true rfl) ?_
                      refine g_goto (pc := 200) (tgt := 132) dX12_must_200 rfl ?_
                      cases hF
                      exact ih_58 (l5_80, I_65) rfl
                    clear hF
                    have hC := am_loop (C := fun x => G am_sc0 l d 0 0 mX12_must (am_qi r N P I2) 144 [.ref 55, .int a1, .int a2, .int a3, .int l4_45, .int l5_54, .int x.1] [] N P x.2 0 0) (by
                      rintro ⟨l6_63, I_64⟩ rr hF ih_67 hE_68
                      replace hF := am_u2_ap hF
                      change G am_sc0 l d 0 0 mX12_must (am_qi r N P I2) 144 [.ref 55, .int a1, .int a2, .int a3, .int l4_45, .int l5_54, .int l6_63] [] N P I_64 0 0
                      refine g_iload (pc := 144) dX12_must_144 rfl ?_
                      refine g_aload_n (pc := 146) dX12_must_146 rfl rfl ?_
                      refine g_getI (pc := 147) (k := 55) kf_X12_7.r rfl rfl (hPl.lt (by decide)) dX12_must_147 ?_
                      refine g_icmp_ge (pc := 150) (tgt := 197) dX12_must_150 rfl (fun c_71 => ?_) (fun c_71 => ?_)
                      · replace hF := am_yes c_71 hF
                        cases hF
                        cases hE_68 _ rfl
                        exact g_weak hX_66 ⟨Or.inr rfl, Or.inr rfl, Or.inr rfl, Or.inr rfl, Or.inr rfl, Or.inr rfl, Or.inl rfl, trivial⟩
                      · replace hF := am_no c_71 hF
                        refine g_aload_n (pc := 153) dX12_must_153 rfl rfl ?_
                        refine g_getR (pc := 154) (k := 55) (r := 90) kf_X12_122.r rfl rfl (hPl.get (by decide) rfl) (hPl.lt (by decide)) dX12_must_154 ?_
                        refine g_iload (pc := 157) dX12_must_157 rfl ?_
                        obtain ⟨c_72, hF⟩ := am_gd hF
                        refine g_iald (pc := 159) (k := 90) rfl (hPl.lt (by decide)) (am_ix_use c_72) dX12_must_159 ?_
                        refine g_iload (pc := 160) dX12_must_160 rfl ?_
                        refine g_ishr (pc := 162) dX12_must_162 ?_
                        refine g_iconst (pc := 163) (v := (1 : Int32)) dX12_must_163 rfl ?_
                        refine g_iand (pc := 164) dX12_must_164 ?_
                        refine g_iconst (pc := 165) (v := (1 : Int32)) dX12_must_165 rfl ?_
                        refine g_icmp_ne (pc := 166) (tgt := 191) dX12_must_166 rfl (fun c_73 => ?_) (fun c_73 => ?_)
                        · replace hF := am_no c_73 hF
                          obtain ⟨l6_74, e_l6_74, hF⟩ := am_let_el hF
                          refine n_iinc (pc := 191) (ls2 := [.ref 55, .int a1, .int a2, .int a3, .int l4_45, .int l5_54, .int l6_74]) e_l6_74 rfl rfl rfl dX12_must_191 (Nat.le_of_ble_eq_true rfl) ?_
                          refine g_goto (pc := 194) (tgt := 144) dX12_must_194 rfl ?_
                          cases hF
                          exact ih_67 (l6_74, I_64) rfl
                        · replace hF := am_yes c_73 hF
                          refine g_aload_n (pc := 169) dX12_must_169 rfl rfl ?_
                          refine g_getR (pc := 170) (k := 55) (r := 90) kf_X12_122.r rfl rfl (hPl.get (by decide) rfl) (hPl.lt (by decide)) dX12_must_170 ?_
                          refine g_iload (pc := 173) dX12_must_173 rfl ?_
                          refine g_aload_n (pc := 175) dX12_must_175 rfl rfl ?_
                          refine g_getR (pc := 176) (k := 55) (r := 90) kf_X12_122.r rfl rfl (hPl.get (by decide) rfl) (hPl.lt (by decide)) dX12_must_176 ?_
                          refine g_iload (pc := 179) dX12_must_179 rfl ?_
                          obtain ⟨c_75, hF⟩ := am_gd hF
                          refine g_iald (pc := 181) (k := 90) rfl (hPl.lt (by decide)) (am_ix_use c_75) dX12_must_181 ?_
                          refine g_aload_n (pc := 182) dX12_must_182 rfl rfl ?_
                          refine g_getR (pc := 183) (k := 55) (r := 90) kf_X12_122.r rfl rfl (hPl.get (by decide) rfl) (hPl.lt (by decide)) dX12_must_183 ?_
                          refine g_iload (pc := 186) dX12_must_186 rfl ?_
                          obtain ⟨c_76, hF⟩ := am_gd hF
                          refine g_iald (pc := 188) (k := 90) rfl (hPl.lt (by decide)) (am_ix_use c_76) dX12_must_188 ?_
                          refine g_ior (pc := 189) dX12_must_189 ?_
                          obtain ⟨c_77, hF⟩ := am_gd hF
                          obtain ⟨I_78, e_I_78, hF⟩ := am_let_el hF
                          refine n_iast (pc := 190) (k := 90) e_I_78 rfl (hPl.lt (by decide)) (am_ix_use c_77) dX12_must_190 ?_
                          obtain ⟨l6_79, e_l6_79, hF⟩ := am_let_el hF
                          refine n_iinc (pc := 191) (ls2 := [.ref 55, .int a1, .int a2, .int a3, .int l4_45, .int l5_54, .int l6_79]) e_l6_79 rfl rfl rfl dX12_must_191 (Nat.le_of_ble_eq_true rfl) ?_
                          refine g_goto (pc := 194) (tgt := 144) dX12_must_194 rfl ?_
                          cases hF
                          exact ih_67 (l6_79, I_78) rfl
                      ) _ _ hL_69
                    exact hC
                  ) _ _ hL_60
                exact hC
              ) _ _ hL_51
            exact hC
          clear hF
          have hC := am_loop (C := fun x => G am_sc0 l d 0 0 mX12_must (am_qi r N P I2) 57 [.ref 55, .int a1, .int a2, .int a3, .int x.1, .null, .null] [] N P x.2 0 0) (by
            rintro ⟨l4_26, I_27⟩ rr hF ih_30 hE_31
            replace hF := am_u2_ap hF
            change G am_sc0 l d 0 0 mX12_must (am_qi r N P I2) 57 [.ref 55, .int a1, .int a2, .int a3, .int l4_26, .null, .null] [] N P I_27 0 0
            refine g_iload (pc := 57) dX12_must_57 rfl ?_
            refine g_aload_n (pc := 59) dX12_must_59 rfl rfl ?_
            refine g_getI (pc := 60) (k := 55) kf_X12_158.r rfl rfl (hPl.lt (by decide)) dX12_must_60 ?_
            refine g_icmp_ge (pc := 63) (tgt := 117) dX12_must_63 rfl (fun c_34 => ?_) (fun c_34 => ?_)
            · replace hF := am_yes c_34 hF
              cases hF
              cases hE_31 _ rfl
              exact g_weak hX_29 ⟨Or.inr rfl, Or.inr rfl, Or.inr rfl, Or.inr rfl, Or.inl rfl, Or.inl rfl, Or.inl rfl, trivial⟩
            · replace hF := am_no c_34 hF
              refine g_aload_n (pc := 66) dX12_must_66 rfl rfl ?_
              refine g_getR (pc := 67) (k := 55) (r := 67) kf_X12_47.r rfl rfl (hPl.get (by decide) rfl) (hPl.lt (by decide)) dX12_must_67 ?_
              refine g_iload (pc := 70) dX12_must_70 rfl ?_
              obtain ⟨c_35, hF⟩ := am_gd hF
              refine g_iald (pc := 72) (k := 67) rfl (hPl.lt (by decide)) (am_ix_use c_35) dX12_must_72 ?_
              refine g_iload_n (pc := 73) dX12_must_73 rfl rfl ?_
              refine g_icmp_ne (pc := 74) (tgt := 111) dX12_must_74 rfl (fun c_36 => ?_) (fun c_36 => ?_)
              · replace hF := am_no c_36 hF
                obtain ⟨l4_37, e_l4_37, hF⟩ := am_let_el hF
                refine n_iinc (pc := 111) (ls2 := [.ref 55, .int a1, .int a2, .int a3, .int l4_37, .null, .null]) e_l4_37 rfl rfl rfl dX12_must_111 (Nat.le_of_ble_eq_true rfl) ?_
                refine g_goto (pc := 114) (tgt := 57) dX12_must_114 rfl ?_
                cases hF
                exact ih_30 (l4_37, I_27) rfl
              · replace hF := am_yes c_36 hF
                refine g_aload_n (pc := 77) dX12_must_77 rfl rfl ?_
                refine g_getR (pc := 78) (k := 55) (r := 90) kf_X12_122.r rfl rfl (hPl.get (by decide) rfl) (hPl.lt (by decide)) dX12_must_78 ?_
                refine g_aload_n (pc := 81) dX12_must_81 rfl rfl ?_
                refine g_getR (pc := 82) (k := 55) (r := 68) kf_X12_50.r rfl rfl (hPl.get (by decide) rfl) (hPl.lt (by decide)) dX12_must_82 ?_
                refine g_iload (pc := 85) dX12_must_85 rfl ?_
                obtain ⟨c_38, hF⟩ := am_gd hF
                refine g_iald (pc := 87) (k := 68) rfl (hPl.lt (by decide)) (am_ix_use c_38) dX12_must_87 ?_
                refine g_aload_n (pc := 88) dX12_must_88 rfl rfl ?_
                refine g_getR (pc := 89) (k := 55) (r := 90) kf_X12_122.r rfl rfl (hPl.get (by decide) rfl) (hPl.lt (by decide)) dX12_must_89 ?_
                refine g_aload_n (pc := 92) dX12_must_92 rfl rfl ?_
                refine g_getR (pc := 93) (k := 55) (r := 68) kf_X12_50.r rfl rfl (hPl.get (by decide) rfl) (hPl.lt (by decide)) dX12_must_93 ?_
                refine g_iload (pc := 96) dX12_must_96 rfl ?_
                obtain ⟨c_39, hF⟩ := am_gd hF
                refine g_iald (pc := 98) (k := 68) rfl (hPl.lt (by decide)) (am_ix_use c_39) dX12_must_98 ?_
                obtain ⟨c_40, hF⟩ := am_gd hF
                refine g_iald (pc := 99) (k := 90) rfl (hPl.lt (by decide)) (am_ix_use c_40) dX12_must_99 ?_
                refine g_iconst (pc := 100) (v := (1 : Int32)) dX12_must_100 rfl ?_
                refine g_aload_n (pc := 101) dX12_must_101 rfl rfl ?_
                refine g_getR (pc := 102) (k := 55) (r := 69) kf_X12_53.r rfl rfl (hPl.get (by decide) rfl) (hPl.lt (by decide)) dX12_must_102 ?_
                refine g_iload (pc := 105) dX12_must_105 rfl ?_
                obtain ⟨c_41, hF⟩ := am_gd hF
                refine g_iald (pc := 107) (k := 69) rfl (hPl.lt (by decide)) (am_ix_use c_41) dX12_must_107 ?_
                refine g_ishl (pc := 108) dX12_must_108 ?_
                refine g_ior (pc := 109) dX12_must_109 ?_
                obtain ⟨c_42, hF⟩ := am_gd hF
                obtain ⟨I_43, e_I_43, hF⟩ := am_let_el hF
                refine n_iast (pc := 110) (k := 90) e_I_43 rfl (hPl.lt (by decide)) (am_ix_use c_42) dX12_must_110 ?_
                obtain ⟨l4_44, e_l4_44, hF⟩ := am_let_el hF
                refine n_iinc (pc := 111) (ls2 := [.ref 55, .int a1, .int a2, .int a3, .int l4_44, .null, .null]) e_l4_44 rfl rfl rfl dX12_must_111 (Nat.le_of_ble_eq_true rfl) ?_
                refine g_goto (pc := 114) (tgt := 57) dX12_must_114 rfl ?_
                cases hF
                exact ih_30 (l4_44, I_43) rfl
            ) _ _ hL_32
          exact hC
        clear hF
        have hC := am_loop (C := fun x => G am_sc0 l d 0 0 mX12_must (am_qi r N P I2) 34 [.ref 55, .int a1, .int a2, .int a3, .int x.1, .null, .null] [] N P x.2 0 0) (by
          rintro ⟨l4_14, I_15⟩ rr hF ih_18 hE_19
          replace hF := am_u2_ap hF
          change G am_sc0 l d 0 0 mX12_must (am_qi r N P I2) 34 [.ref 55, .int a1, .int a2, .int a3, .int l4_14, .null, .null] [] N P I_15 0 0
          refine g_iload (pc := 34) dX12_must_34 rfl ?_
          refine g_iconst (pc := 36) (v := (4 : Int32)) dX12_must_36 rfl ?_
          refine g_icmp_ge (pc := 37) (tgt := 54) dX12_must_37 rfl (fun c_22 => ?_) (fun c_22 => ?_)
          · replace hF := am_yes c_22 hF
            cases hF
            cases hE_19 _ rfl
            exact g_weak hX_17 ⟨Or.inr rfl, Or.inr rfl, Or.inr rfl, Or.inr rfl, Or.inl rfl, Or.inl rfl, Or.inl rfl, trivial⟩
          · replace hF := am_no c_22 hF
            refine g_aload_n (pc := 40) dX12_must_40 rfl rfl ?_
            refine g_getR (pc := 41) (k := 55) (r := 90) kf_X12_122.r rfl rfl (hPl.get (by decide) rfl) (hPl.lt (by decide)) dX12_must_41 ?_
            refine g_iload (pc := 44) dX12_must_44 rfl ?_
            refine g_iconst (pc := 46) (v := (0 : Int32)) dX12_must_46 rfl ?_
            obtain ⟨c_23, hF⟩ := am_gd hF
            obtain ⟨I_24, e_I_24, hF⟩ := am_let_el hF
            refine n_iast (pc := 47) (k := 90) e_I_24 rfl (hPl.lt (by decide)) (am_ix_use c_23) dX12_must_47 ?_
            obtain ⟨l4_25, e_l4_25, hF⟩ := am_let_el hF
            refine n_iinc (pc := 48) (ls2 := [.ref 55, .int a1, .int a2, .int a3, .int l4_25, .null, .null]) e_l4_25 rfl rfl rfl dX12_must_48 (Nat.le_of_ble_eq_true rfl) ?_
            refine g_goto (pc := 51) (tgt := 34) dX12_must_51 rfl ?_
            cases hF
            exact ih_18 (l4_25, I_24) rfl
          ) _ _ hL_20
        exact hC
      · replace hF := am_yes c_13 hF
        refine g_iconst (pc := 29) (v := (-1 : Int32)) dX12_must_29 (by decide) ?_
        cases hF
        exact g_iret (pc := 30) rfl (Nat.le_refl _) (Nat.le_refl _) dX12_must_30 ⟨rfl, rfl, rfl, rfl⟩
def F_X12_isPlace_55 (I : am_IT) (a1 : Int32) : Option (Int32) := if a1 < 0 then (some (0 : Int32)) else (if (9 : Int32) ≤ a1 then (some (0 : Int32)) else (some (1 : Int32)))
set_option maxRecDepth 100000 in
set_option maxHeartbeats 4000000 in
theorem s_X12_isPlace_55 {l : Launch} {d N : Nat} {P : am_PT} (hPl : am_Pl 94 N P) (hd : 1 ≤ d) {I : am_IT} {a1 : Int32} {r : Int32} (hF : F_X12_isPlace_55 I a1 = some (r)) : am_C l d 0 0 mX12_isPlace [.ref 55, .int a1] N P I (am_qz r N P I) := by
  refine am_body (sc := am_sc0) (n := 0) (by decide +kernel) (by decide) rfl ?_
  change G am_sc0 l d 0 0 mX12_isPlace (am_qz r N P I) 0 [.ref 55, .int a1] [] N P I 0 0
  unfold F_X12_isPlace_55 at hF
  refine g_iload_n (pc := 0) dX12_isPlace_0 rfl rfl ?_
  refine g_if_lt (pc := 1) (tgt := 14) dX12_isPlace_1 rfl (fun c_1 => ?_) (fun c_1 => ?_)
  · replace hF := am_yes c_1 hF
    refine g_iconst (pc := 14) (v := (0 : Int32)) dX12_isPlace_14 rfl ?_
    cases hF
    exact g_zret (pc := 15) rfl (Or.inl rfl) (Nat.le_refl _) (Nat.le_refl _) dX12_isPlace_15 ⟨(Or.inl rfl), rfl, rfl, rfl, rfl⟩
  · replace hF := am_no c_1 hF
    refine g_iload_n (pc := 4) dX12_isPlace_4 rfl rfl ?_
    refine g_bipush (pc := 5) (v := (9 : Int32)) dX12_isPlace_5 rfl ?_
    refine g_icmp_ge (pc := 7) (tgt := 14) dX12_isPlace_7 rfl (fun c_2 => ?_) (fun c_2 => ?_)
    · replace hF := am_yes c_2 hF
      refine g_iconst (pc := 14) (v := (0 : Int32)) dX12_isPlace_14 rfl ?_
      cases hF
      exact g_zret (pc := 15) rfl (Or.inl rfl) (Nat.le_refl _) (Nat.le_refl _) dX12_isPlace_15 ⟨(Or.inl rfl), rfl, rfl, rfl, rfl⟩
    · replace hF := am_no c_2 hF
      refine g_iconst (pc := 10) (v := (1 : Int32)) dX12_isPlace_10 rfl ?_
      refine g_goto (pc := 11) (tgt := 15) dX12_isPlace_11 rfl ?_
      cases hF
      exact g_zret (pc := 15) rfl (Or.inr rfl) (Nat.le_refl _) (Nat.le_refl _) dX12_isPlace_15 ⟨(Or.inr rfl), rfl, rfl, rfl, rfl⟩
def F_X12_looks_55 (I : am_IT) (a1 : Int32) (a2 : Int32) : Option (Int32 × am_IT) := am_let (up2 I 55 0 (0 : Int32)) (fun (I_1 : am_IT) => am_b1 (F_X12_isPlace_55 I_1 a1) (fun (r_3 : Int32) => if r_3 = 0 then (some ((0 : Int32), I_1)) else (am_b1 (F_X12_isIn_55 I_1 a2 (0 : Int32) (99 : Int32)) (fun (r_7 : Int32) => if r_7 = 0 then (some ((0 : Int32), I_1)) else (if am_ix a1 9 = true then (am_let (up2 I_1 70 a1.toNatClampNeg a2) (fun (I_11 : am_IT) => some ((1 : Int32), I_11))) else none)))))
set_option maxRecDepth 100000 in
set_option maxHeartbeats 4000000 in
theorem s_X12_looks_55 {l : Launch} {d N : Nat} {P : am_PT} (hPl : am_Pl 94 N P) (hd : 2 ≤ d) {I : am_IT} {a1 : Int32} {a2 : Int32} {r : Int32} {I2 : am_IT} (hF : F_X12_looks_55 I a1 a2 = some (r, I2)) : am_C l d 0 0 mX12_looks [.ref 55, .int a1, .int a2] N P I (am_qz r N P I2) := by
  refine am_body (sc := am_sc0) (n := 0) (by decide +kernel) (by decide) rfl ?_
  change G am_sc0 l d 0 0 mX12_looks (am_qz r N P I2) 0 [.ref 55, .int a1, .int a2] [] N P I 0 0
  unfold F_X12_looks_55 at hF
  refine g_aload_n (pc := 0) dX12_looks_0 rfl rfl ?_
  refine g_iconst (pc := 1) (v := (0 : Int32)) dX12_looks_1 rfl ?_
  obtain ⟨I_1, e_I_1, hF⟩ := am_let_el hF
  refine n_putI (pc := 2) (k := 55) e_I_1 kf_X12_134 rfl rfl (hPl.lt (by decide)) dX12_looks_2 ?_
  refine g_aload_n (pc := 5) dX12_looks_5 rfl rfl ?_
  refine g_iload_n (pc := 6) dX12_looks_6 rfl rfl ?_
  obtain ⟨r_3, h_2, hF⟩ := am_b1_el hF
  refine g_cVz (pc := 7) (k := 55) (As := [.int a1]) (st := []) ky_X12_isPlace kl_X12_359 (s_X12_isPlace_55 (d := 1) (hPl) (Nat.le_refl _) h_2) rfl rfl rfl (hPl.lt (by decide)) (Nat.le_trans (by decide) hd) (Nat.le_of_ble_eq_true rfl) (Nat.le_refl _) (Nat.le_refl _) dX12_looks_7 ?_
  intro z_4
  refine g_if_eq (pc := 10) (tgt := 24) dX12_looks_10 rfl (fun c_5 => ?_) (fun c_5 => ?_)
  · replace hF := am_yes c_5 hF
    refine g_iconst (pc := 24) (v := (0 : Int32)) dX12_looks_24 rfl ?_
    cases hF
    exact g_zret (pc := 25) rfl (Or.inl rfl) (Nat.le_refl _) (Nat.le_refl _) dX12_looks_25 ⟨(Or.inl rfl), rfl, rfl, rfl, rfl⟩
  · replace hF := am_no c_5 hF
    refine g_aload_n (pc := 13) dX12_looks_13 rfl rfl ?_
    refine g_iload_n (pc := 14) dX12_looks_14 rfl rfl ?_
    refine g_iconst (pc := 15) (v := (0 : Int32)) dX12_looks_15 rfl ?_
    refine g_bipush (pc := 16) (v := (99 : Int32)) dX12_looks_16 rfl ?_
    obtain ⟨r_7, h_6, hF⟩ := am_b1_el hF
    refine g_cVz (pc := 18) (k := 55) (As := [.int a2, .int (0 : Int32), .int (99 : Int32)]) (st := []) ky_X12_isIn kl_X12_148 (s_X12_isIn_55 (d := 1) (hPl) (Nat.le_refl _) h_6) rfl rfl rfl (hPl.lt (by decide)) (Nat.le_trans (by decide) hd) (Nat.le_of_ble_eq_true rfl) (Nat.le_refl _) (Nat.le_refl _) dX12_looks_18 ?_
    intro z_8
    refine g_if_ne (pc := 21) (tgt := 26) dX12_looks_21 rfl (fun c_9 => ?_) (fun c_9 => ?_)
    · replace hF := am_no c_9 hF
      refine g_aload_n (pc := 26) dX12_looks_26 rfl rfl ?_
      refine g_getR (pc := 27) (k := 55) (r := 70) kf_X12_56.r rfl rfl (hPl.get (by decide) rfl) (hPl.lt (by decide)) dX12_looks_27 ?_
      refine g_iload_n (pc := 30) dX12_looks_30 rfl rfl ?_
      refine g_iload_n (pc := 31) dX12_looks_31 rfl rfl ?_
      obtain ⟨c_10, hF⟩ := am_gd hF
      obtain ⟨I_11, e_I_11, hF⟩ := am_let_el hF
      refine n_iast (pc := 32) (k := 70) e_I_11 rfl (hPl.lt (by decide)) (am_ix_use c_10) dX12_looks_32 ?_
      refine g_iconst (pc := 33) (v := (1 : Int32)) dX12_looks_33 rfl ?_
      cases hF
      exact g_zret (pc := 34) rfl (Or.inr rfl) (Nat.le_refl _) (Nat.le_refl _) dX12_looks_34 ⟨(Or.inr rfl), rfl, rfl, rfl, rfl⟩
    · replace hF := am_yes c_9 hF
      refine g_iconst (pc := 24) (v := (0 : Int32)) dX12_looks_24 rfl ?_
      cases hF
      exact g_zret (pc := 25) rfl (Or.inl rfl) (Nat.le_refl _) (Nat.le_refl _) dX12_looks_25 ⟨(Or.inl rfl), rfl, rfl, rfl, rfl⟩
def F_X12_link_55 (I : am_IT) (a1 : Int32) (a2 : Int32) (a3 : Int32) : Option (Int32 × am_IT) := am_let (up2 I 55 0 (0 : Int32)) (fun (I_1 : am_IT) => am_b1 (F_X12_isPlace_55 I_1 a1) (fun (r_3 : Int32) => if r_3 = 0 then (some ((0 : Int32), I_1)) else (am_b1 (F_X12_isPlace_55 I_1 a2) (fun (r_7 : Int32) => if r_7 = 0 then (some ((0 : Int32), I_1)) else (if a1 = a2 then (some ((0 : Int32), I_1)) else (am_b1 (if a3 = 0 then (if am_ix a1 9 = true then (some ((I_1 71 a1.toNatClampNeg) &&& (((1 : Int32) <<< (a2 &&& 31)) ^^^ (-1 : Int32)))) else none) else (if am_ix a1 9 = true then (some ((I_1 71 a1.toNatClampNeg) ||| ((1 : Int32) <<< (a2 &&& 31)))) else none)) (fun (v_12 : Int32) => if am_ix a1 9 = true then (am_let (up2 I_1 71 a1.toNatClampNeg v_12) (fun (I_18 : am_IT) => if a3 = 0 then (if am_ix a2 9 = true then (if am_ix a2 9 = true then (am_let (up2 I_18 71 a2.toNatClampNeg ((I_18 71 a2.toNatClampNeg) &&& (((1 : Int32) <<< (a1 &&& 31)) ^^^ (-1 : Int32)))) (fun (I_22 : am_IT) => some ((1 : Int32), I_22))) else none) else none) else (if am_ix a2 9 = true then (if am_ix a2 9 = true then (am_let (up2 I_18 71 a2.toNatClampNeg ((I_18 71 a2.toNatClampNeg) ||| ((1 : Int32) <<< (a1 &&& 31)))) (fun (I_25 : am_IT) => some ((1 : Int32), I_25))) else none) else none))) else none)))))))
set_option maxRecDepth 100000 in
set_option maxHeartbeats 4000000 in
theorem s_X12_link_55 {l : Launch} {d N : Nat} {P : am_PT} (hPl : am_Pl 94 N P) (hd : 2 ≤ d) {I : am_IT} {a1 : Int32} {a2 : Int32} {a3 : Int32} {r : Int32} {I2 : am_IT} (hF : F_X12_link_55 I a1 a2 a3 = some (r, I2)) : am_C l d 0 0 mX12_link [.ref 55, .int a1, .int a2, .int a3] N P I (am_qz r N P I2) := by
  refine am_body (sc := am_sc0) (n := 0) (by decide +kernel) (by decide) rfl ?_
  change G am_sc0 l d 0 0 mX12_link (am_qz r N P I2) 0 [.ref 55, .int a1, .int a2, .int a3] [] N P I 0 0
  unfold F_X12_link_55 at hF
  refine g_aload_n (pc := 0) dX12_link_0 rfl rfl ?_
  refine g_iconst (pc := 1) (v := (0 : Int32)) dX12_link_1 rfl ?_
  obtain ⟨I_1, e_I_1, hF⟩ := am_let_el hF
  refine n_putI (pc := 2) (k := 55) e_I_1 kf_X12_134 rfl rfl (hPl.lt (by decide)) dX12_link_2 ?_
  refine g_aload_n (pc := 5) dX12_link_5 rfl rfl ?_
  refine g_iload_n (pc := 6) dX12_link_6 rfl rfl ?_
  obtain ⟨r_3, h_2, hF⟩ := am_b1_el hF
  refine g_cVz (pc := 7) (k := 55) (As := [.int a1]) (st := []) ky_X12_isPlace kl_X12_359 (s_X12_isPlace_55 (d := 1) (hPl) (Nat.le_refl _) h_2) rfl rfl rfl (hPl.lt (by decide)) (Nat.le_trans (by decide) hd) (Nat.le_of_ble_eq_true rfl) (Nat.le_refl _) (Nat.le_refl _) dX12_link_7 ?_
  intro z_4
  refine g_if_eq (pc := 10) (tgt := 26) dX12_link_10 rfl (fun c_5 => ?_) (fun c_5 => ?_)
  · replace hF := am_yes c_5 hF
    refine g_iconst (pc := 26) (v := (0 : Int32)) dX12_link_26 rfl ?_
    cases hF
    exact g_zret (pc := 27) rfl (Or.inl rfl) (Nat.le_refl _) (Nat.le_refl _) dX12_link_27 ⟨(Or.inl rfl), rfl, rfl, rfl, rfl⟩
  · replace hF := am_no c_5 hF
    refine g_aload_n (pc := 13) dX12_link_13 rfl rfl ?_
    refine g_iload_n (pc := 14) dX12_link_14 rfl rfl ?_
    obtain ⟨r_7, h_6, hF⟩ := am_b1_el hF
    refine g_cVz (pc := 15) (k := 55) (As := [.int a2]) (st := []) ky_X12_isPlace kl_X12_359 (s_X12_isPlace_55 (d := 1) (hPl) (Nat.le_refl _) h_6) rfl rfl rfl (hPl.lt (by decide)) (Nat.le_trans (by decide) hd) (Nat.le_of_ble_eq_true rfl) (Nat.le_refl _) (Nat.le_refl _) dX12_link_15 ?_
    intro z_8
    refine g_if_eq (pc := 18) (tgt := 26) dX12_link_18 rfl (fun c_9 => ?_) (fun c_9 => ?_)
    · replace hF := am_yes c_9 hF
      refine g_iconst (pc := 26) (v := (0 : Int32)) dX12_link_26 rfl ?_
      cases hF
      exact g_zret (pc := 27) rfl (Or.inl rfl) (Nat.le_refl _) (Nat.le_refl _) dX12_link_27 ⟨(Or.inl rfl), rfl, rfl, rfl, rfl⟩
    · replace hF := am_no c_9 hF
      refine g_iload_n (pc := 21) dX12_link_21 rfl rfl ?_
      refine g_iload_n (pc := 22) dX12_link_22 rfl rfl ?_
      refine g_icmp_ne (pc := 23) (tgt := 28) dX12_link_23 rfl (fun c_10 => ?_) (fun c_10 => ?_)
      · replace hF := am_no c_10 hF
        refine g_aload_n (pc := 28) dX12_link_28 rfl rfl ?_
        refine g_getR (pc := 29) (k := 55) (r := 71) kf_X12_59.r rfl rfl (hPl.get (by decide) rfl) (hPl.lt (by decide)) dX12_link_29 ?_
        refine g_iload_n (pc := 32) dX12_link_32 rfl rfl ?_
        refine g_iload_n (pc := 33) dX12_link_33 rfl rfl ?_
        obtain ⟨v_12, hR_13, hF⟩ := am_b1_el hF
        have hJ_14 : G am_sc0 l d 0 0 mX12_link (am_qz r N P I2) 62 [.ref 55, .int a1, .int a2, .int a3] [.int v_12, .int a1, .ref 71] N P I_1 0 0 := by
          obtain ⟨c_17, hF⟩ := am_gd hF
          obtain ⟨I_18, e_I_18, hF⟩ := am_let_el hF
          refine n_iast (pc := 62) (k := 71) e_I_18 rfl (hPl.lt (by decide)) (am_ix_use c_17) dX12_link_62 ?_
          refine g_aload_n (pc := 63) dX12_link_63 rfl rfl ?_
          refine g_getR (pc := 64) (k := 55) (r := 71) kf_X12_59.r rfl rfl (hPl.get (by decide) rfl) (hPl.lt (by decide)) dX12_link_64 ?_
          refine g_iload_n (pc := 67) dX12_link_67 rfl rfl ?_
          refine g_iload_n (pc := 68) dX12_link_68 rfl rfl ?_
          refine g_if_eq (pc := 69) (tgt := 85) dX12_link_69 rfl (fun c_19 => ?_) (fun c_19 => ?_)
          · replace hF := am_yes c_19 hF
            refine g_aload_n (pc := 85) dX12_link_85 rfl rfl ?_
            refine g_getR (pc := 86) (k := 55) (r := 71) kf_X12_59.r rfl rfl (hPl.get (by decide) rfl) (hPl.lt (by decide)) dX12_link_86 ?_
            refine g_iload_n (pc := 89) dX12_link_89 rfl rfl ?_
            obtain ⟨c_20, hF⟩ := am_gd hF
            refine g_iald (pc := 90) (k := 71) rfl (hPl.lt (by decide)) (am_ix_use c_20) dX12_link_90 ?_
            refine g_iconst (pc := 91) (v := (1 : Int32)) dX12_link_91 rfl ?_
            refine g_iload_n (pc := 92) dX12_link_92 rfl rfl ?_
            refine g_ishl (pc := 93) dX12_link_93 ?_
            refine g_iconst (pc := 94) (v := (-1 : Int32)) dX12_link_94 (by decide) ?_
            refine g_ixor (pc := 95) dX12_link_95 ?_
            refine g_iand (pc := 96) dX12_link_96 ?_
            obtain ⟨c_21, hF⟩ := am_gd hF
            obtain ⟨I_22, e_I_22, hF⟩ := am_let_el hF
            refine n_iast (pc := 97) (k := 71) e_I_22 rfl (hPl.lt (by decide)) (am_ix_use c_21) dX12_link_97 ?_
            refine g_iconst (pc := 98) (v := (1 : Int32)) dX12_link_98 rfl ?_
            cases hF
            exact g_zret (pc := 99) rfl (Or.inr rfl) (Nat.le_refl _) (Nat.le_refl _) dX12_link_99 ⟨(Or.inr rfl), rfl, rfl, rfl, rfl⟩
          · replace hF := am_no c_19 hF
            refine g_aload_n (pc := 72) dX12_link_72 rfl rfl ?_
            refine g_getR (pc := 73) (k := 55) (r := 71) kf_X12_59.r rfl rfl (hPl.get (by decide) rfl) (hPl.lt (by decide)) dX12_link_73 ?_
            refine g_iload_n (pc := 76) dX12_link_76 rfl rfl ?_
            obtain ⟨c_23, hF⟩ := am_gd hF
            refine g_iald (pc := 77) (k := 71) rfl (hPl.lt (by decide)) (am_ix_use c_23) dX12_link_77 ?_
            refine g_iconst (pc := 78) (v := (1 : Int32)) dX12_link_78 rfl ?_
            refine g_iload_n (pc := 79) dX12_link_79 rfl rfl ?_
            refine g_ishl (pc := 80) dX12_link_80 ?_
            refine g_ior (pc := 81) dX12_link_81 ?_
            refine g_goto (pc := 82) (tgt := 97) dX12_link_82 rfl ?_
            obtain ⟨c_24, hF⟩ := am_gd hF
            obtain ⟨I_25, e_I_25, hF⟩ := am_let_el hF
            refine n_iast (pc := 97) (k := 71) e_I_25 rfl (hPl.lt (by decide)) (am_ix_use c_24) dX12_link_97 ?_
            refine g_iconst (pc := 98) (v := (1 : Int32)) dX12_link_98 rfl ?_
            cases hF
            exact g_zret (pc := 99) rfl (Or.inr rfl) (Nat.le_refl _) (Nat.le_refl _) dX12_link_99 ⟨(Or.inr rfl), rfl, rfl, rfl, rfl⟩
        clear hF
        have hF := hR_13
        clear hR_13
        refine g_if_eq (pc := 34) (tgt := 50) dX12_link_34 rfl (fun c_11 => ?_) (fun c_11 => ?_)
        · replace hF := am_yes c_11 hF
          refine g_aload_n (pc := 50) dX12_link_50 rfl rfl ?_
          refine g_getR (pc := 51) (k := 55) (r := 71) kf_X12_59.r rfl rfl (hPl.get (by decide) rfl) (hPl.lt (by decide)) dX12_link_51 ?_
          refine g_iload_n (pc := 54) dX12_link_54 rfl rfl ?_
          obtain ⟨c_15, hF⟩ := am_gd hF
          refine g_iald (pc := 55) (k := 71) rfl (hPl.lt (by decide)) (am_ix_use c_15) dX12_link_55 ?_
          refine g_iconst (pc := 56) (v := (1 : Int32)) dX12_link_56 rfl ?_
          refine g_iload_n (pc := 57) dX12_link_57 rfl rfl ?_
          refine g_ishl (pc := 58) dX12_link_58 ?_
          refine g_iconst (pc := 59) (v := (-1 : Int32)) dX12_link_59 (by decide) ?_
          refine g_ixor (pc := 60) dX12_link_60 ?_
          refine g_iand (pc := 61) dX12_link_61 ?_
          cases hF
          exact hJ_14
        · replace hF := am_no c_11 hF
          refine g_aload_n (pc := 37) dX12_link_37 rfl rfl ?_
          refine g_getR (pc := 38) (k := 55) (r := 71) kf_X12_59.r rfl rfl (hPl.get (by decide) rfl) (hPl.lt (by decide)) dX12_link_38 ?_
          refine g_iload_n (pc := 41) dX12_link_41 rfl rfl ?_
          obtain ⟨c_16, hF⟩ := am_gd hF
          refine g_iald (pc := 42) (k := 71) rfl (hPl.lt (by decide)) (am_ix_use c_16) dX12_link_42 ?_
          refine g_iconst (pc := 43) (v := (1 : Int32)) dX12_link_43 rfl ?_
          refine g_iload_n (pc := 44) dX12_link_44 rfl rfl ?_
          refine g_ishl (pc := 45) dX12_link_45 ?_
          refine g_ior (pc := 46) dX12_link_46 ?_
          refine g_goto (pc := 47) (tgt := 62) dX12_link_47 rfl ?_
          cases hF
          exact hJ_14
      · replace hF := am_yes c_10 hF
        refine g_iconst (pc := 26) (v := (0 : Int32)) dX12_link_26 rfl ?_
        cases hF
        exact g_zret (pc := 27) rfl (Or.inl rfl) (Nat.le_refl _) (Nat.le_refl _) dX12_link_27 ⟨(Or.inl rfl), rfl, rfl, rfl, rfl⟩
def F_X12_notesWay_55 (I : am_IT) (a1 : Int32) : Option (am_IT) := am_b1 (am_it am_fu (am_u2 (fun (l2_1 : Int32) (l3_2 : Int32) => if a1 ≤ l3_2 then (some (.inr (l2_1))) else (if am_ix l3_2 9 = true then (if am_ix (I 91 l3_2.toNatClampNeg) 9 = true then (am_let (l2_1 + (I 70 (I 91 l3_2.toNatClampNeg).toNatClampNeg)) (fun (l2_12 : Int32) => am_let (l3_2 + (1 : Int32)) (fun (l3_13 : Int32) => some (.inl (l2_12, l3_13))))) else none) else none))) ((0 : Int32), (0 : Int32))) (fun (l2_3 : Int32) => if (I 55 63) < l2_3 then (am_let (up2 I 55 63 l2_3) (fun (I_15 : am_IT) => am_let (up2 I_15 55 62 a1) (fun (I_16 : am_IT) => am_b1 (am_it am_fu (am_u2 (fun (l3_17 : Int32) (I_18 : am_IT) => if a1 ≤ l3_17 then (some (.inr (I_18))) else (if am_ix l3_17 9 = true then (if am_ix l3_17 9 = true then (am_let (up2 I_18 92 l3_17.toNatClampNeg (I_18 91 l3_17.toNatClampNeg)) (fun (I_28 : am_IT) => am_let (l3_17 + (1 : Int32)) (fun (l3_29 : Int32) => some (.inl (l3_29, I_28))))) else none) else none))) ((0 : Int32), I_16)) (fun (I_19 : am_IT) => some I_19)))) else (some I))
set_option maxRecDepth 100000 in
set_option maxHeartbeats 4000000 in
theorem s_X12_notesWay_55 {l : Launch} {d N : Nat} {P : am_PT} (hPl : am_Pl 94 N P) (hd : 1 ≤ d) {I : am_IT} {a1 : Int32} {I2 : am_IT} (hF : F_X12_notesWay_55 I a1 = some (I2)) : am_C l d 0 0 mX12_notesWay [.ref 55, .int a1] N P I (am_qv N P I2) := by
  refine am_body (sc := am_sc0) (n := 2) (by decide +kernel) (by decide) rfl ?_
  change G am_sc0 l d 0 0 mX12_notesWay (am_qv N P I2) 0 [.ref 55, .int a1, .null, .null] [] N P I 0 0
  unfold F_X12_notesWay_55 at hF
  refine g_iconst (pc := 0) (v := (0 : Int32)) dX12_notesWay_0 rfl ?_
  refine n_istore_n (pc := 1) (ls2 := [.ref 55, .int a1, .int (0 : Int32), .null]) rfl rfl dX12_notesWay_1 rfl (Nat.le_of_ble_eq_true rfl) ?_
  refine g_iconst (pc := 2) (v := (0 : Int32)) dX12_notesWay_2 rfl ?_
  refine n_istore_n (pc := 3) (ls2 := [.ref 55, .int a1, .int (0 : Int32), .int (0 : Int32)]) rfl rfl dX12_notesWay_3 rfl (Nat.le_of_ble_eq_true rfl) ?_
  obtain ⟨l2_3, hL_7, hF⟩ := am_b1_el hF
  have hX_4 : G am_sc0 l d 0 0 mX12_notesWay (am_qv N P I2) 29 [.ref 55, .int a1, .int l2_3, .null] [] N P I 0 0 := by
    refine g_iload_n (pc := 29) dX12_notesWay_29 rfl rfl ?_
    refine g_aload_n (pc := 30) dX12_notesWay_30 rfl rfl ?_
    refine g_getI (pc := 31) (k := 55) kf_X12_362.r rfl rfl (hPl.lt (by decide)) dX12_notesWay_31 ?_
    refine g_icmp_gt (pc := 34) (tgt := 38) dX12_notesWay_34 rfl (fun c_14 => ?_) (fun c_14 => ?_)
    · replace hF := am_yes c_14 hF
      refine g_aload_n (pc := 38) dX12_notesWay_38 rfl rfl ?_
      refine g_iload_n (pc := 39) dX12_notesWay_39 rfl rfl ?_
      obtain ⟨I_15, e_I_15, hF⟩ := am_let_el hF
      refine n_putI (pc := 40) (k := 55) e_I_15 kf_X12_362 rfl rfl (hPl.lt (by decide)) dX12_notesWay_40 ?_
      refine g_aload_n (pc := 43) dX12_notesWay_43 rfl rfl ?_
      refine g_iload_n (pc := 44) dX12_notesWay_44 rfl rfl ?_
      obtain ⟨I_16, e_I_16, hF⟩ := am_let_el hF
      refine n_putI (pc := 45) (k := 55) e_I_16 kf_X12_365 rfl rfl (hPl.lt (by decide)) dX12_notesWay_45 ?_
      refine g_iconst (pc := 48) (v := (0 : Int32)) dX12_notesWay_48 rfl ?_
      refine n_istore_n (pc := 49) (ls2 := [.ref 55, .int a1, .int l2_3, .int (0 : Int32)]) rfl rfl dX12_notesWay_49 rfl (Nat.le_of_ble_eq_true rfl) ?_
      obtain ⟨I_19, hL_23, hF⟩ := am_b1_el hF
      have hX_20 : G am_sc0 l d 0 0 mX12_notesWay (am_qv N P I2) 73 [.ref 55, .int a1, .int l2_3, .null] [] N P I_19 0 0 := by
        cases hF
        exact g_vret (pc := 73) rfl (Nat.le_refl _) (Nat.le_refl _) dX12_notesWay_73 ⟨rfl, rfl, rfl, rfl⟩
      clear hF
      have hC := am_loop (C := fun x => G am_sc0 l d 0 0 mX12_notesWay (am_qv N P I2) 50 [.ref 55, .int a1, .int l2_3, .int x.1] [] N P x.2 0 0) (by
        rintro ⟨l3_17, I_18⟩ rr hF ih_21 hE_22
        replace hF := am_u2_ap hF
        change G am_sc0 l d 0 0 mX12_notesWay (am_qv N P I2) 50 [.ref 55, .int a1, .int l2_3, .int l3_17] [] N P I_18 0 0
        refine g_iload_n (pc := 50) dX12_notesWay_50 rfl rfl ?_
        refine g_iload_n (pc := 51) dX12_notesWay_51 rfl rfl ?_
        refine g_icmp_ge (pc := 52) (tgt := 73) dX12_notesWay_52 rfl (fun c_25 => ?_) (fun c_25 => ?_)
        · replace hF := am_yes c_25 hF
          cases hF
          cases hE_22 _ rfl
          exact g_weak hX_20 ⟨Or.inr rfl, Or.inr rfl, Or.inr rfl, Or.inl rfl, trivial⟩
        · replace hF := am_no c_25 hF
          refine g_aload_n (pc := 55) dX12_notesWay_55 rfl rfl ?_
          refine g_getR (pc := 56) (k := 55) (r := 92) kf_X12_128.r rfl rfl (hPl.get (by decide) rfl) (hPl.lt (by decide)) dX12_notesWay_56 ?_
          refine g_iload_n (pc := 59) dX12_notesWay_59 rfl rfl ?_
          refine g_aload_n (pc := 60) dX12_notesWay_60 rfl rfl ?_
          refine g_getR (pc := 61) (k := 55) (r := 91) kf_X12_125.r rfl rfl (hPl.get (by decide) rfl) (hPl.lt (by decide)) dX12_notesWay_61 ?_
          refine g_iload_n (pc := 64) dX12_notesWay_64 rfl rfl ?_
          obtain ⟨c_26, hF⟩ := am_gd hF
          refine g_iald (pc := 65) (k := 91) rfl (hPl.lt (by decide)) (am_ix_use c_26) dX12_notesWay_65 ?_
          obtain ⟨c_27, hF⟩ := am_gd hF
          obtain ⟨I_28, e_I_28, hF⟩ := am_let_el hF
          refine n_iast (pc := 66) (k := 92) e_I_28 rfl (hPl.lt (by decide)) (am_ix_use c_27) dX12_notesWay_66 ?_
          obtain ⟨l3_29, e_l3_29, hF⟩ := am_let_el hF
          refine n_iinc (pc := 67) (ls2 := [.ref 55, .int a1, .int l2_3, .int l3_29]) e_l3_29 rfl rfl rfl dX12_notesWay_67 (Nat.le_of_ble_eq_true rfl) ?_
          refine g_goto (pc := 70) (tgt := 50) dX12_notesWay_70 rfl ?_
          cases hF
          exact ih_21 (l3_29, I_28) rfl
        ) _ _ hL_23
      exact hC
    · replace hF := am_no c_14 hF
      cases hF
      exact g_vret (pc := 37) rfl (Nat.le_refl _) (Nat.le_refl _) dX12_notesWay_37 ⟨rfl, rfl, rfl, rfl⟩
  clear hF
  have hC := am_loop (C := fun x => G am_sc0 l d 0 0 mX12_notesWay (am_qv N P I2) 4 [.ref 55, .int a1, .int x.1, .int x.2] [] N P I 0 0) (by
    rintro ⟨l2_1, l3_2⟩ rr hF ih_5 hE_6
    replace hF := am_u2_ap hF
    change G am_sc0 l d 0 0 mX12_notesWay (am_qv N P I2) 4 [.ref 55, .int a1, .int l2_1, .int l3_2] [] N P I 0 0
    refine g_iload_n (pc := 4) dX12_notesWay_4 rfl rfl ?_
    refine g_iload_n (pc := 5) dX12_notesWay_5 rfl rfl ?_
    refine g_icmp_ge (pc := 6) (tgt := 29) dX12_notesWay_6 rfl (fun c_9 => ?_) (fun c_9 => ?_)
    · replace hF := am_yes c_9 hF
      cases hF
      cases hE_6 _ rfl
      exact g_weak hX_4 ⟨Or.inr rfl, Or.inr rfl, Or.inr rfl, Or.inl rfl, trivial⟩
    · replace hF := am_no c_9 hF
      refine g_iload_n (pc := 9) dX12_notesWay_9 rfl rfl ?_
      refine g_aload_n (pc := 10) dX12_notesWay_10 rfl rfl ?_
      refine g_getR (pc := 11) (k := 55) (r := 70) kf_X12_56.r rfl rfl (hPl.get (by decide) rfl) (hPl.lt (by decide)) dX12_notesWay_11 ?_
      refine g_aload_n (pc := 14) dX12_notesWay_14 rfl rfl ?_
      refine g_getR (pc := 15) (k := 55) (r := 91) kf_X12_125.r rfl rfl (hPl.get (by decide) rfl) (hPl.lt (by decide)) dX12_notesWay_15 ?_
      refine g_iload_n (pc := 18) dX12_notesWay_18 rfl rfl ?_
      obtain ⟨c_10, hF⟩ := am_gd hF
      refine g_iald (pc := 19) (k := 91) rfl (hPl.lt (by decide)) (am_ix_use c_10) dX12_notesWay_19 ?_
      obtain ⟨c_11, hF⟩ := am_gd hF
      refine g_iald (pc := 20) (k := 70) rfl (hPl.lt (by decide)) (am_ix_use c_11) dX12_notesWay_20 ?_
      refine g_iadd (pc := 21) dX12_notesWay_21 ?_
      obtain ⟨l2_12, e_l2_12, hF⟩ := am_let_el hF
      refine n_istore_n (pc := 22) (ls2 := [.ref 55, .int a1, .int l2_12, .int l3_2]) e_l2_12 rfl dX12_notesWay_22 rfl (Nat.le_of_ble_eq_true rfl) ?_
      obtain ⟨l3_13, e_l3_13, hF⟩ := am_let_el hF
      refine n_iinc (pc := 23) (ls2 := [.ref 55, .int a1, .int l2_12, .int l3_13]) e_l3_13 rfl rfl rfl dX12_notesWay_23 (Nat.le_of_ble_eq_true rfl) ?_
      refine g_goto (pc := 26) (tgt := 4) dX12_notesWay_26 rfl ?_
      cases hF
      exact ih_5 (l2_12, l3_13) rfl
    ) _ _ hL_7
  exact hC
def F_X12_findsWay_55 (I : am_IT) (a1 : Int32) (a2 : Int32) (a3 : Int32) : Option (am_IT) := am_let (up2 I 55 63 (-1 : Int32)) (fun (I_1 : am_IT) => am_let (up2 I_1 55 62 (0 : Int32)) (fun (I_2 : am_IT) => if am_ix (0 : Int32) 9 = true then (am_let (up2 I_2 91 (0 : Int32).toNatClampNeg a1) (fun (I_4 : am_IT) => am_let ((1 : Int32) <<< (a1 &&& 31)) (fun (l4_5 : Int32) => if a1 = a2 then (am_b1 (F_X12_notesWay_55 I_4 (1 : Int32)) (fun (I_53 : am_IT) => some I_53)) else (am_b1 (am_it am_fu (am_u4 (fun (l4_7 : Int32) (l5_8 : Int32) (l6_9 : Int32) (I_10 : am_IT) => if l5_8 ≤ 0 then (some (.inr (I_10))) else (am_b1 (am_it am_fu (fun (l7_18 : Int32) => if (9 : Int32) ≤ l7_18 then (some (.inr (l7_18))) else (if ((l4_7 >>> (l7_18 &&& 31)) &&& (1 : Int32)) = (1 : Int32) then (am_let (l7_18 + (1 : Int32)) (fun (l7_27 : Int32) => some (.inl (l7_27)))) else (if am_ix (l5_8 - (1 : Int32)) 9 = true then (if am_ix (I_10 91 (l5_8 - (1 : Int32)).toNatClampNeg) 9 = true then (if (((I_10 71 (I_10 91 (l5_8 - (1 : Int32)).toNatClampNeg).toNatClampNeg) >>> (l7_18 &&& 31)) &&& (1 : Int32)) = 0 then (am_let (l7_18 + (1 : Int32)) (fun (l7_31 : Int32) => some (.inl (l7_31)))) else (some (.inr (l7_18)))) else none) else none))) l6_9) (fun (l7_19 : Int32) => if l7_19 = (9 : Int32) then (am_let (l5_8 - (1 : Int32)) (fun (l5_33 : Int32) => if am_ix l5_33 9 = true then (am_let ((I_10 91 l5_33.toNatClampNeg) + (1 : Int32)) (fun (l6_35 : Int32) => if am_ix l5_33 9 = true then (am_let (l4_7 &&& (((1 : Int32) <<< ((I_10 91 l5_33.toNatClampNeg) &&& 31)) ^^^ (-1 : Int32))) (fun (l4_37 : Int32) => some (.inl (l4_37, l5_33, l6_35, I_10)))) else none)) else none)) else (if l5_8 = a3 then (am_let (l5_8 - (1 : Int32)) (fun (l5_47 : Int32) => if am_ix l5_47 9 = true then (am_let ((I_10 91 l5_47.toNatClampNeg) + (1 : Int32)) (fun (l6_49 : Int32) => if am_ix l5_47 9 = true then (am_let (l4_7 &&& (((1 : Int32) <<< ((I_10 91 l5_47.toNatClampNeg) &&& 31)) ^^^ (-1 : Int32))) (fun (l4_51 : Int32) => some (.inl (l4_51, l5_47, l6_49, I_10)))) else none)) else none)) else (if am_ix l5_8 9 = true then (am_let (up2 I_10 91 l5_8.toNatClampNeg l7_19) (fun (I_40 : am_IT) => if l7_19 = a2 then (am_b1 (F_X12_notesWay_55 I_40 (l5_8 + (1 : Int32))) (fun (I_45 : am_IT) => am_let (a2 + (1 : Int32)) (fun (l6_46 : Int32) => some (.inl (l4_7, l5_8, l6_46, I_45))))) else (am_let (l4_7 ||| ((1 : Int32) <<< (l7_19 &&& 31))) (fun (l4_42 : Int32) => am_let (l5_8 + (1 : Int32)) (fun (l5_43 : Int32) => some (.inl (l4_42, l5_43, (0 : Int32), I_40))))))) else none)))))) (l4_5, (1 : Int32), (0 : Int32), I_4)) (fun (I_11 : am_IT) => some I_11))))) else none))
set_option maxRecDepth 100000 in
set_option maxHeartbeats 4000000 in
theorem s_X12_findsWay_55 {l : Launch} {d N : Nat} {P : am_PT} (hPl : am_Pl 94 N P) (hd : 2 ≤ d) {I : am_IT} {a1 : Int32} {a2 : Int32} {a3 : Int32} {I2 : am_IT} (hF : F_X12_findsWay_55 I a1 a2 a3 = some (I2)) : am_C l d 0 0 mX12_findsWay [.ref 55, .int a1, .int a2, .int a3] N P I (am_qv N P I2) := by
  refine am_body (sc := am_sc0) (n := 4) (by decide +kernel) (by decide) rfl ?_
  change G am_sc0 l d 0 0 mX12_findsWay (am_qv N P I2) 0 [.ref 55, .int a1, .int a2, .int a3, .null, .null, .null, .null] [] N P I 0 0
  unfold F_X12_findsWay_55 at hF
  refine g_aload_n (pc := 0) dX12_findsWay_0 rfl rfl ?_
  refine g_iconst (pc := 1) (v := (-1 : Int32)) dX12_findsWay_1 (by decide) ?_
  obtain ⟨I_1, e_I_1, hF⟩ := am_let_el hF
  refine n_putI (pc := 2) (k := 55) e_I_1 kf_X12_362 rfl rfl (hPl.lt (by decide)) dX12_findsWay_2 ?_
  refine g_aload_n (pc := 5) dX12_findsWay_5 rfl rfl ?_
  refine g_iconst (pc := 6) (v := (0 : Int32)) dX12_findsWay_6 rfl ?_
  obtain ⟨I_2, e_I_2, hF⟩ := am_let_el hF
  refine n_putI (pc := 7) (k := 55) e_I_2 kf_X12_365 rfl rfl (hPl.lt (by decide)) dX12_findsWay_7 ?_
  refine g_aload_n (pc := 10) dX12_findsWay_10 rfl rfl ?_
  refine g_getR (pc := 11) (k := 55) (r := 91) kf_X12_125.r rfl rfl (hPl.get (by decide) rfl) (hPl.lt (by decide)) dX12_findsWay_11 ?_
  refine g_iconst (pc := 14) (v := (0 : Int32)) dX12_findsWay_14 rfl ?_
  refine g_iload_n (pc := 15) dX12_findsWay_15 rfl rfl ?_
  obtain ⟨c_3, hF⟩ := am_gd hF
  obtain ⟨I_4, e_I_4, hF⟩ := am_let_el hF
  refine n_iast (pc := 16) (k := 91) e_I_4 rfl (hPl.lt (by decide)) (am_ix_use c_3) dX12_findsWay_16 ?_
  refine g_iconst (pc := 17) (v := (1 : Int32)) dX12_findsWay_17 rfl ?_
  refine g_iload_n (pc := 18) dX12_findsWay_18 rfl rfl ?_
  refine g_ishl (pc := 19) dX12_findsWay_19 ?_
  obtain ⟨l4_5, e_l4_5, hF⟩ := am_let_el hF
  refine n_istore (pc := 20) (ls2 := [.ref 55, .int a1, .int a2, .int a3, .int l4_5, .null, .null, .null]) e_l4_5 rfl dX12_findsWay_20 (Nat.le_of_ble_eq_true rfl) ?_
  refine g_iconst (pc := 22) (v := (1 : Int32)) dX12_findsWay_22 rfl ?_
  refine n_istore (pc := 23) (ls2 := [.ref 55, .int a1, .int a2, .int a3, .int l4_5, .int (1 : Int32), .null, .null]) rfl rfl dX12_findsWay_23 (Nat.le_of_ble_eq_true rfl) ?_
  refine g_iconst (pc := 25) (v := (0 : Int32)) dX12_findsWay_25 rfl ?_
  refine n_istore (pc := 26) (ls2 := [.ref 55, .int a1, .int a2, .int a3, .int l4_5, .int (1 : Int32), .int (0 : Int32), .null]) rfl rfl dX12_findsWay_26 (Nat.le_of_ble_eq_true rfl) ?_
  refine g_iload_n (pc := 28) dX12_findsWay_28 rfl rfl ?_
  refine g_iload_n (pc := 29) dX12_findsWay_29 rfl rfl ?_
  refine g_icmp_ne (pc := 30) (tgt := 39) dX12_findsWay_30 rfl (fun c_6 => ?_) (fun c_6 => ?_)
  · replace hF := am_no c_6 hF
    obtain ⟨I_11, hL_15, hF⟩ := am_b1_el hF
    have hX_12 : G am_sc0 l d 0 0 mX12_findsWay (am_qv N P I2) 198 [.ref 55, .int a1, .int a2, .int a3, .null, .null, .null, .null] [] N P I_11 0 0 := by
      cases hF
      exact g_vret (pc := 198) rfl (Nat.le_refl _) (Nat.le_refl _) dX12_findsWay_198 ⟨rfl, rfl, rfl, rfl⟩
    clear hF
    have hC := am_loop (C := fun x => G am_sc0 l d 0 0 mX12_findsWay (am_qv N P I2) 39 [.ref 55, .int a1, .int a2, .int a3, .int x.1, .int x.2.1, .int x.2.2.1, .null] [] N P x.2.2.2 0 0) (by
      rintro ⟨l4_7, l5_8, l6_9, I_10⟩ rr hF ih_13 hE_14
      replace hF := am_u4_ap hF
      change G am_sc0 l d 0 0 mX12_findsWay (am_qv N P I2) 39 [.ref 55, .int a1, .int a2, .int a3, .int l4_7, .int l5_8, .int l6_9, .null] [] N P I_10 0 0
      refine g_iload (pc := 39) dX12_findsWay_39 rfl ?_
      refine g_if_le (pc := 41) (tgt := 198) dX12_findsWay_41 rfl (fun c_17 => ?_) (fun c_17 => ?_)
      · replace hF := am_yes c_17 hF
        cases hF
        cases hE_14 _ rfl
        exact g_weak hX_12 ⟨Or.inr rfl, Or.inr rfl, Or.inr rfl, Or.inr rfl, Or.inl rfl, Or.inl rfl, Or.inl rfl, Or.inl rfl, trivial⟩
      · replace hF := am_no c_17 hF
        refine g_iload (pc := 44) dX12_findsWay_44 rfl ?_
        refine n_istore (pc := 46) (ls2 := [.ref 55, .int a1, .int a2, .int a3, .int l4_7, .int l5_8, .int l6_9, .int l6_9]) rfl rfl dX12_findsWay_46 (Nat.le_of_ble_eq_true rfl) ?_
        obtain ⟨l7_19, hL_23, hF⟩ := am_b1_el hF
        have hX_20 : G am_sc0 l d 0 0 mX12_findsWay (am_qv N P I2) 97 [.ref 55, .int a1, .int a2, .int a3, .int l4_7, .int l5_8, .int l6_9, .int l7_19] [] N P I_10 0 0 := by
          refine g_iload (pc := 97) dX12_findsWay_97 rfl ?_
          refine g_bipush (pc := 99) (v := (9 : Int32)) dX12_findsWay_99 rfl ?_
          refine g_icmp_eq (pc := 101) (tgt := 110) dX12_findsWay_101 rfl (fun c_32 => ?_) (fun c_32 => ?_)
          · replace hF := am_yes c_32 hF
            refine g_iload (pc := 110) dX12_findsWay_110 rfl ?_
            refine g_iconst (pc := 112) (v := (1 : Int32)) dX12_findsWay_112 rfl ?_
            refine g_isub (pc := 113) dX12_findsWay_113 ?_
            obtain ⟨l5_33, e_l5_33, hF⟩ := am_let_el hF
            refine n_istore (pc := 114) (ls2 := [.ref 55, .int a1, .int a2, .int a3, .int l4_7, .int l5_33, .int l6_9, .int l7_19]) e_l5_33 rfl dX12_findsWay_114 (Nat.le_of_ble_eq_true rfl) ?_
            refine g_aload_n (pc := 116) dX12_findsWay_116 rfl rfl ?_
            refine g_getR (pc := 117) (k := 55) (r := 91) kf_X12_125.r rfl rfl (hPl.get (by decide) rfl) (hPl.lt (by decide)) dX12_findsWay_117 ?_
            refine g_iload (pc := 120) dX12_findsWay_120 rfl ?_
            obtain ⟨c_34, hF⟩ := am_gd hF
            refine g_iald (pc := 122) (k := 91) rfl (hPl.lt (by decide)) (am_ix_use c_34) dX12_findsWay_122 ?_
            refine g_iconst (pc := 123) (v := (1 : Int32)) dX12_findsWay_123 rfl ?_
            refine g_iadd (pc := 124) dX12_findsWay_124 ?_
            obtain ⟨l6_35, e_l6_35, hF⟩ := am_let_el hF
            refine n_istore (pc := 125) (ls2 := [.ref 55, .int a1, .int a2, .int a3, .int l4_7, .int l5_33, .int l6_35, .int l7_19]) e_l6_35 rfl dX12_findsWay_125 (Nat.le_of_ble_eq_true rfl) ?_
            refine g_iload (pc := 127) dX12_findsWay_127 rfl ?_
            refine g_iconst (pc := 129) (v := (1 : Int32)) dX12_findsWay_129 rfl ?_
            refine g_aload_n (pc := 130) dX12_findsWay_130 rfl rfl ?_
            refine g_getR (pc := 131) (k := 55) (r := 91) kf_X12_125.r rfl rfl (hPl.get (by decide) rfl) (hPl.lt (by decide)) dX12_findsWay_131 ?_
            refine g_iload (pc := 134) dX12_findsWay_134 rfl ?_
            obtain ⟨c_36, hF⟩ := am_gd hF
            refine g_iald (pc := 136) (k := 91) rfl (hPl.lt (by decide)) (am_ix_use c_36) dX12_findsWay_136 ?_
            refine g_ishl (pc := 137) dX12_findsWay_137 ?_
            refine g_iconst (pc := 138) (v := (-1 : Int32)) dX12_findsWay_138 (by decide) ?_
            refine g_ixor (pc := 139) dX12_findsWay_139 ?_
            refine g_iand (pc := 140) dX12_findsWay_140 ?_
            obtain ⟨l4_37, e_l4_37, hF⟩ := am_let_el hF
            refine n_istore (pc := 141) (ls2 := [.ref 55, .int a1, .int a2, .int a3, .int l4_37, .int l5_33, .int l6_35, .int l7_19]) e_l4_37 rfl dX12_findsWay_141 (Nat.le_of_ble_eq_true rfl) ?_
            refine g_goto (pc := 143) (tgt := 39) dX12_findsWay_143 rfl ?_
            cases hF
            exact g_weak (ih_13 (l4_37, l5_33, l6_35, I_10) rfl) ⟨Or.inr rfl, Or.inr rfl, Or.inr rfl, Or.inr rfl, Or.inr rfl, Or.inr rfl, Or.inr rfl, Or.inl rfl, trivial⟩
          · replace hF := am_no c_32 hF
            refine g_iload (pc := 104) dX12_findsWay_104 rfl ?_
            refine g_iload_n (pc := 106) dX12_findsWay_106 rfl rfl ?_
            refine g_icmp_ne (pc := 107) (tgt := 146) dX12_findsWay_107 rfl (fun c_38 => ?_) (fun c_38 => ?_)
            · replace hF := am_no c_38 hF
              refine g_aload_n (pc := 146) dX12_findsWay_146 rfl rfl ?_
              refine g_getR (pc := 147) (k := 55) (r := 91) kf_X12_125.r rfl rfl (hPl.get (by decide) rfl) (hPl.lt (by decide)) dX12_findsWay_147 ?_
              refine g_iload (pc := 150) dX12_findsWay_150 rfl ?_
              refine g_iload (pc := 152) dX12_findsWay_152 rfl ?_
              obtain ⟨c_39, hF⟩ := am_gd hF
              obtain ⟨I_40, e_I_40, hF⟩ := am_let_el hF
              refine n_iast (pc := 154) (k := 91) e_I_40 rfl (hPl.lt (by decide)) (am_ix_use c_39) dX12_findsWay_154 ?_
              refine g_iconst (pc := 155) (v := (0 : Int32)) dX12_findsWay_155 rfl ?_
              refine n_istore (pc := 156) (ls2 := [.ref 55, .int a1, .int a2, .int a3, .int l4_7, .int l5_8, .int (0 : Int32), .int l7_19]) rfl rfl dX12_findsWay_156 (Nat.le_of_ble_eq_true rfl) ?_
              refine g_iload (pc := 158) dX12_findsWay_158 rfl ?_
              refine g_iload_n (pc := 160) dX12_findsWay_160 rfl rfl ?_
              refine g_icmp_ne (pc := 161) (tgt := 180) dX12_findsWay_161 rfl (fun c_41 => ?_) (fun c_41 => ?_)
              · replace hF := am_no c_41 hF
                refine g_iload (pc := 180) dX12_findsWay_180 rfl ?_
                refine g_iconst (pc := 182) (v := (1 : Int32)) dX12_findsWay_182 rfl ?_
                refine g_iload (pc := 183) dX12_findsWay_183 rfl ?_
                refine g_ishl (pc := 185) dX12_findsWay_185 ?_
                refine g_ior (pc := 186) dX12_findsWay_186 ?_
                obtain ⟨l4_42, e_l4_42, hF⟩ := am_let_el hF
                refine n_istore (pc := 187) (ls2 := [.ref 55, .int a1, .int a2, .int a3, .int l4_42, .int l5_8, .int (0 : Int32), .int l7_19]) e_l4_42 rfl dX12_findsWay_187 (Nat.le_of_ble_eq_true rfl) ?_
                refine g_iload (pc := 189) dX12_findsWay_189 rfl ?_
                refine g_iconst (pc := 191) (v := (1 : Int32)) dX12_findsWay_191 rfl ?_
                refine g_iadd (pc := 192) dX12_findsWay_192 ?_
                obtain ⟨l5_43, e_l5_43, hF⟩ := am_let_el hF
                refine n_istore (pc := 193) (ls2 := [.ref 55, .int a1, .int a2, .int a3, .int l4_42, .int l5_43, .int (0 : Int32), .int l7_19]) e_l5_43 rfl dX12_findsWay_193 (Nat.le_of_ble_eq_true rfl) ?_
                refine g_goto (pc := 195) (tgt := 39) dX12_findsWay_195 rfl ?_
                cases hF
                exact g_weak (ih_13 (l4_42, l5_43, (0 : Int32), I_40) rfl) ⟨Or.inr rfl, Or.inr rfl, Or.inr rfl, Or.inr rfl, Or.inr rfl, Or.inr rfl, Or.inr rfl, Or.inl rfl, trivial⟩
              · replace hF := am_yes c_41 hF
                refine g_aload_n (pc := 164) dX12_findsWay_164 rfl rfl ?_
                refine g_iload (pc := 165) dX12_findsWay_165 rfl ?_
                refine g_iconst (pc := 167) (v := (1 : Int32)) dX12_findsWay_167 rfl ?_
                refine g_iadd (pc := 168) dX12_findsWay_168 ?_
                obtain ⟨I_45, h_44, hF⟩ := am_b1_el hF
                refine g_cVv (pc := 169) (k := 55) (As := [.int (l5_8 + (1 : Int32))]) (st := []) ky_X12_notesWay kl_X12_368 (s_X12_notesWay_55 (d := 1) (hPl) (Nat.le_refl _) h_44) rfl rfl rfl (hPl.lt (by decide)) (Nat.le_trans (by decide) hd) (Nat.le_of_ble_eq_true rfl) (Nat.le_refl _) (Nat.le_refl _) dX12_findsWay_169 ?_
                refine g_iload_n (pc := 172) dX12_findsWay_172 rfl rfl ?_
                refine g_iconst (pc := 173) (v := (1 : Int32)) dX12_findsWay_173 rfl ?_
                refine g_iadd (pc := 174) dX12_findsWay_174 ?_
                obtain ⟨l6_46, e_l6_46, hF⟩ := am_let_el hF
                refine n_istore (pc := 175) (ls2 := [.ref 55, .int a1, .int a2, .int a3, .int l4_7, .int l5_8, .int l6_46, .int l7_19]) e_l6_46 rfl dX12_findsWay_175 (Nat.le_of_ble_eq_true rfl) ?_
                refine g_goto (pc := 177) (tgt := 39) dX12_findsWay_177 rfl ?_
                cases hF
                exact g_weak (ih_13 (l4_7, l5_8, l6_46, I_45) rfl) ⟨Or.inr rfl, Or.inr rfl, Or.inr rfl, Or.inr rfl, Or.inr rfl, Or.inr rfl, Or.inr rfl, Or.inl rfl, trivial⟩
            · replace hF := am_yes c_38 hF
              refine g_iload (pc := 110) dX12_findsWay_110 rfl ?_
              refine g_iconst (pc := 112) (v := (1 : Int32)) dX12_findsWay_112 rfl ?_
              refine g_isub (pc := 113) dX12_findsWay_113 ?_
              obtain ⟨l5_47, e_l5_47, hF⟩ := am_let_el hF
              refine n_istore (pc := 114) (ls2 := [.ref 55, .int a1, .int a2, .int a3, .int l4_7, .int l5_47, .int l6_9, .int l7_19]) e_l5_47 rfl dX12_findsWay_114 (Nat.le_of_ble_eq_true rfl) ?_
              refine g_aload_n (pc := 116) dX12_findsWay_116 rfl rfl ?_
              refine g_getR (pc := 117) (k := 55) (r := 91) kf_X12_125.r rfl rfl (hPl.get (by decide) rfl) (hPl.lt (by decide)) dX12_findsWay_117 ?_
              refine g_iload (pc := 120) dX12_findsWay_120 rfl ?_
              obtain ⟨c_48, hF⟩ := am_gd hF
              refine g_iald (pc := 122) (k := 91) rfl (hPl.lt (by decide)) (am_ix_use c_48) dX12_findsWay_122 ?_
              refine g_iconst (pc := 123) (v := (1 : Int32)) dX12_findsWay_123 rfl ?_
              refine g_iadd (pc := 124) dX12_findsWay_124 ?_
              obtain ⟨l6_49, e_l6_49, hF⟩ := am_let_el hF
              refine n_istore (pc := 125) (ls2 := [.ref 55, .int a1, .int a2, .int a3, .int l4_7, .int l5_47, .int l6_49, .int l7_19]) e_l6_49 rfl dX12_findsWay_125 (Nat.le_of_ble_eq_true rfl) ?_
              refine g_iload (pc := 127) dX12_findsWay_127 rfl ?_
              refine g_iconst (pc := 129) (v := (1 : Int32)) dX12_findsWay_129 rfl ?_
              refine g_aload_n (pc := 130) dX12_findsWay_130 rfl rfl ?_
              refine g_getR (pc := 131) (k := 55) (r := 91) kf_X12_125.r rfl rfl (hPl.get (by decide) rfl) (hPl.lt (by decide)) dX12_findsWay_131 ?_
              refine g_iload (pc := 134) dX12_findsWay_134 rfl ?_
              obtain ⟨c_50, hF⟩ := am_gd hF
              refine g_iald (pc := 136) (k := 91) rfl (hPl.lt (by decide)) (am_ix_use c_50) dX12_findsWay_136 ?_
              refine g_ishl (pc := 137) dX12_findsWay_137 ?_
              refine g_iconst (pc := 138) (v := (-1 : Int32)) dX12_findsWay_138 (by decide) ?_
              refine g_ixor (pc := 139) dX12_findsWay_139 ?_
              refine g_iand (pc := 140) dX12_findsWay_140 ?_
              obtain ⟨l4_51, e_l4_51, hF⟩ := am_let_el hF
              refine n_istore (pc := 141) (ls2 := [.ref 55, .int a1, .int a2, .int a3, .int l4_51, .int l5_47, .int l6_49, .int l7_19]) e_l4_51 rfl dX12_findsWay_141 (Nat.le_of_ble_eq_true rfl) ?_
              refine g_goto (pc := 143) (tgt := 39) dX12_findsWay_143 rfl ?_
              cases hF
              exact g_weak (ih_13 (l4_51, l5_47, l6_49, I_10) rfl) ⟨Or.inr rfl, Or.inr rfl, Or.inr rfl, Or.inr rfl, Or.inr rfl, Or.inr rfl, Or.inr rfl, Or.inl rfl, trivial⟩
        clear hF
        have hC := am_loop (C := fun x => G am_sc0 l d 0 0 mX12_findsWay (am_qv N P I2) 48 [.ref 55, .int a1, .int a2, .int a3, .int l4_7, .int l5_8, .int l6_9, .int x] [] N P I_10 0 0) (by
          intro l7_18 rr hF ih_21 hE_22
          refine g_iload (pc := 48) dX12_findsWay_48 rfl ?_
          refine g_bipush (pc := 50) (v := (9 : Int32)) dX12_findsWay_50 rfl ?_
          refine g_icmp_ge (pc := 52) (tgt := 97) dX12_findsWay_52 rfl (fun c_25 => ?_) (fun c_25 => ?_)
          · replace hF := am_yes c_25 hF
            cases hF
            cases hE_22 _ rfl
            exact hX_20
          · replace hF := am_no c_25 hF
            refine g_iload (pc := 55) dX12_findsWay_55 rfl ?_
            refine g_iload (pc := 57) dX12_findsWay_57 rfl ?_
            refine g_ishr (pc := 59) dX12_findsWay_59 ?_
            refine g_iconst (pc := 60) (v := (1 : Int32)) dX12_findsWay_60 rfl ?_
            refine g_iand (pc := 61) dX12_findsWay_61 ?_
            refine g_iconst (pc := 62) (v := (1 : Int32)) dX12_findsWay_62 rfl ?_
            refine g_icmp_eq (pc := 63) (tgt := 88) dX12_findsWay_63 rfl (fun c_26 => ?_) (fun c_26 => ?_)
            · replace hF := am_yes c_26 hF
              refine g_iload (pc := 88) dX12_findsWay_88 rfl ?_
              refine g_iconst (pc := 90) (v := (1 : Int32)) dX12_findsWay_90 rfl ?_
              refine g_iadd (pc := 91) dX12_findsWay_91 ?_
              obtain ⟨l7_27, e_l7_27, hF⟩ := am_let_el hF
              refine n_istore (pc := 92) (ls2 := [.ref 55, .int a1, .int a2, .int a3, .int l4_7, .int l5_8, .int l6_9, .int l7_27]) e_l7_27 rfl dX12_findsWay_92 (Nat.le_of_ble_eq_true rfl) ?_
              refine g_goto (pc := 94) (tgt := 48) dX12_findsWay_94 rfl ?_
              cases hF
              exact ih_21 (l7_27) rfl
            · replace hF := am_no c_26 hF
              refine g_aload_n (pc := 66) dX12_findsWay_66 rfl rfl ?_
              refine g_getR (pc := 67) (k := 55) (r := 71) kf_X12_59.r rfl rfl (hPl.get (by decide) rfl) (hPl.lt (by decide)) dX12_findsWay_67 ?_
              refine g_aload_n (pc := 70) dX12_findsWay_70 rfl rfl ?_
              refine g_getR (pc := 71) (k := 55) (r := 91) kf_X12_125.r rfl rfl (hPl.get (by decide) rfl) (hPl.lt (by decide)) dX12_findsWay_71 ?_
              refine g_iload (pc := 74) dX12_findsWay_74 rfl ?_
              refine g_iconst (pc := 76) (v := (1 : Int32)) dX12_findsWay_76 rfl ?_
              refine g_isub (pc := 77) dX12_findsWay_77 ?_
              obtain ⟨c_28, hF⟩ := am_gd hF
              refine g_iald (pc := 78) (k := 91) rfl (hPl.lt (by decide)) (am_ix_use c_28) dX12_findsWay_78 ?_
              obtain ⟨c_29, hF⟩ := am_gd hF
              refine g_iald (pc := 79) (k := 71) rfl (hPl.lt (by decide)) (am_ix_use c_29) dX12_findsWay_79 ?_
              refine g_iload (pc := 80) dX12_findsWay_80 rfl ?_
              refine g_ishr (pc := 82) dX12_findsWay_82 ?_
              refine g_iconst (pc := 83) (v := (1 : Int32)) dX12_findsWay_83 rfl ?_
              refine g_iand (pc := 84) dX12_findsWay_84 ?_
              refine g_if_ne (pc := 85) (tgt := 97) dX12_findsWay_85 rfl (fun c_30 => ?_) (fun c_30 => ?_)
              · replace hF := am_no c_30 hF
                cases hF
                cases hE_22 _ rfl
                exact hX_20
              · replace hF := am_yes c_30 hF
                refine g_iload (pc := 88) dX12_findsWay_88 rfl ?_
                refine g_iconst (pc := 90) (v := (1 : Int32)) dX12_findsWay_90 rfl ?_
                refine g_iadd (pc := 91) dX12_findsWay_91 ?_
                obtain ⟨l7_31, e_l7_31, hF⟩ := am_let_el hF
                refine n_istore (pc := 92) (ls2 := [.ref 55, .int a1, .int a2, .int a3, .int l4_7, .int l5_8, .int l6_9, .int l7_31]) e_l7_31 rfl dX12_findsWay_92 (Nat.le_of_ble_eq_true rfl) ?_
                refine g_goto (pc := 94) (tgt := 48) dX12_findsWay_94 rfl ?_
                cases hF
                exact ih_21 (l7_31) rfl
          ) _ _ hL_23
        exact hC
      ) _ _ hL_15
    exact hC
  · replace hF := am_yes c_6 hF
    refine g_aload_n (pc := 33) dX12_findsWay_33 rfl rfl ?_
    refine g_iconst (pc := 34) (v := (1 : Int32)) dX12_findsWay_34 rfl ?_
    obtain ⟨I_53, h_52, hF⟩ := am_b1_el hF
    refine g_cVv (pc := 35) (k := 55) (As := [.int (1 : Int32)]) (st := []) ky_X12_notesWay kl_X12_368 (s_X12_notesWay_55 (d := 1) (hPl) (Nat.le_refl _) h_52) rfl rfl rfl (hPl.lt (by decide)) (Nat.le_trans (by decide) hd) (Nat.le_of_ble_eq_true rfl) (Nat.le_refl _) (Nat.le_refl _) dX12_findsWay_35 ?_
    cases hF
    exact g_vret (pc := 38) rfl (Nat.le_refl _) (Nat.le_refl _) dX12_findsWay_38 ⟨rfl, rfl, rfl, rfl⟩
def F_X12_way_55 (I : am_IT) (a1 : Int32) (a2 : Int32) (a3 : Int32) (a4 : Int32) : Option (Int32 × am_IT) := am_let (up2 I 55 0 (0 : Int32)) (fun (I_1 : am_IT) => am_b1 (F_X12_isPlace_55 I_1 a1) (fun (r_3 : Int32) => if r_3 = 0 then (some ((-1 : Int32), I_1)) else (am_b1 (F_X12_isPlace_55 I_1 a2) (fun (r_7 : Int32) => if r_7 = 0 then (some ((-1 : Int32), I_1)) else (am_b1 (F_X12_isIn_55 I_1 a3 (1 : Int32) (9 : Int32)) (fun (r_11 : Int32) => if r_11 = 0 then (some ((-1 : Int32), I_1)) else (am_b1 (F_X12_isIn_55 I_1 a4 (0 : Int32) (1 : Int32)) (fun (r_15 : Int32) => if r_15 = 0 then (am_b1 (F_X12_isIn_55 I_1 a4 (10 : Int32) (18 : Int32)) (fun (r_26 : Int32) => if r_26 = 0 then (some ((-1 : Int32), I_1)) else (am_b1 (F_X12_findsWay_55 I_1 a1 a2 a3) (fun (I_30 : am_IT) => if (I_30 55 63) = (-1 : Int32) then (some ((-1 : Int32), I_30)) else (if a4 = 0 then (some (I_30 55 63, I_30)) else (if a4 = (1 : Int32) then (some (I_30 55 62, I_30)) else (if (I_30 55 62) ≤ (a4 - (10 : Int32)) then (some ((-1 : Int32), I_30)) else (if am_ix (a4 - (10 : Int32)) 9 = true then (some (I_30 92 (a4 - (10 : Int32)).toNatClampNeg, I_30)) else none)))))))) else (am_b1 (F_X12_findsWay_55 I_1 a1 a2 a3) (fun (I_19 : am_IT) => if (I_19 55 63) = (-1 : Int32) then (some ((-1 : Int32), I_19)) else (if a4 = 0 then (some (I_19 55 63, I_19)) else (if a4 = (1 : Int32) then (some (I_19 55 62, I_19)) else (if (I_19 55 62) ≤ (a4 - (10 : Int32)) then (some ((-1 : Int32), I_19)) else (if am_ix (a4 - (10 : Int32)) 9 = true then (some (I_19 92 (a4 - (10 : Int32)).toNatClampNeg, I_19)) else none))))))))))))))
set_option maxRecDepth 100000 in
set_option maxHeartbeats 4000000 in
theorem s_X12_way_55 {l : Launch} {d N : Nat} {P : am_PT} (hPl : am_Pl 94 N P) (hd : 3 ≤ d) {I : am_IT} {a1 : Int32} {a2 : Int32} {a3 : Int32} {a4 : Int32} {r : Int32} {I2 : am_IT} (hF : F_X12_way_55 I a1 a2 a3 a4 = some (r, I2)) : am_C l d 0 0 mX12_way [.ref 55, .int a1, .int a2, .int a3, .int a4] N P I (am_qi r N P I2) := by
  refine am_body (sc := am_sc0) (n := 0) (by decide +kernel) (by decide) rfl ?_
  change G am_sc0 l d 0 0 mX12_way (am_qi r N P I2) 0 [.ref 55, .int a1, .int a2, .int a3, .int a4] [] N P I 0 0
  unfold F_X12_way_55 at hF
  refine g_aload_n (pc := 0) dX12_way_0 rfl rfl ?_
  refine g_iconst (pc := 1) (v := (0 : Int32)) dX12_way_1 rfl ?_
  obtain ⟨I_1, e_I_1, hF⟩ := am_let_el hF
  refine n_putI (pc := 2) (k := 55) e_I_1 kf_X12_134 rfl rfl (hPl.lt (by decide)) dX12_way_2 ?_
  refine g_aload_n (pc := 5) dX12_way_5 rfl rfl ?_
  refine g_iload_n (pc := 6) dX12_way_6 rfl rfl ?_
  obtain ⟨r_3, h_2, hF⟩ := am_b1_el hF
  refine g_cVz (pc := 7) (k := 55) (As := [.int a1]) (st := []) ky_X12_isPlace kl_X12_359 (s_X12_isPlace_55 (d := 1) (hPl) (Nat.le_refl _) h_2) rfl rfl rfl (hPl.lt (by decide)) (Nat.le_trans (by decide) hd) (Nat.le_of_ble_eq_true rfl) (Nat.le_refl _) (Nat.le_refl _) dX12_way_7 ?_
  intro z_4
  refine g_if_eq (pc := 10) (tgt := 56) dX12_way_10 rfl (fun c_5 => ?_) (fun c_5 => ?_)
  · replace hF := am_yes c_5 hF
    refine g_iconst (pc := 56) (v := (-1 : Int32)) dX12_way_56 (by decide) ?_
    cases hF
    exact g_iret (pc := 57) rfl (Nat.le_refl _) (Nat.le_refl _) dX12_way_57 ⟨rfl, rfl, rfl, rfl⟩
  · replace hF := am_no c_5 hF
    refine g_aload_n (pc := 13) dX12_way_13 rfl rfl ?_
    refine g_iload_n (pc := 14) dX12_way_14 rfl rfl ?_
    obtain ⟨r_7, h_6, hF⟩ := am_b1_el hF
    refine g_cVz (pc := 15) (k := 55) (As := [.int a2]) (st := []) ky_X12_isPlace kl_X12_359 (s_X12_isPlace_55 (d := 1) (hPl) (Nat.le_refl _) h_6) rfl rfl rfl (hPl.lt (by decide)) (Nat.le_trans (by decide) hd) (Nat.le_of_ble_eq_true rfl) (Nat.le_refl _) (Nat.le_refl _) dX12_way_15 ?_
    intro z_8
    refine g_if_eq (pc := 18) (tgt := 56) dX12_way_18 rfl (fun c_9 => ?_) (fun c_9 => ?_)
    · replace hF := am_yes c_9 hF
      refine g_iconst (pc := 56) (v := (-1 : Int32)) dX12_way_56 (by decide) ?_
      cases hF
      exact g_iret (pc := 57) rfl (Nat.le_refl _) (Nat.le_refl _) dX12_way_57 ⟨rfl, rfl, rfl, rfl⟩
    · replace hF := am_no c_9 hF
      refine g_aload_n (pc := 21) dX12_way_21 rfl rfl ?_
      refine g_iload_n (pc := 22) dX12_way_22 rfl rfl ?_
      refine g_iconst (pc := 23) (v := (1 : Int32)) dX12_way_23 rfl ?_
      refine g_bipush (pc := 24) (v := (9 : Int32)) dX12_way_24 rfl ?_
      obtain ⟨r_11, h_10, hF⟩ := am_b1_el hF
      refine g_cVz (pc := 26) (k := 55) (As := [.int a3, .int (1 : Int32), .int (9 : Int32)]) (st := []) ky_X12_isIn kl_X12_148 (s_X12_isIn_55 (d := 1) (hPl) (Nat.le_refl _) h_10) rfl rfl rfl (hPl.lt (by decide)) (Nat.le_trans (by decide) hd) (Nat.le_of_ble_eq_true rfl) (Nat.le_refl _) (Nat.le_refl _) dX12_way_26 ?_
      intro z_12
      refine g_if_eq (pc := 29) (tgt := 56) dX12_way_29 rfl (fun c_13 => ?_) (fun c_13 => ?_)
      · replace hF := am_yes c_13 hF
        refine g_iconst (pc := 56) (v := (-1 : Int32)) dX12_way_56 (by decide) ?_
        cases hF
        exact g_iret (pc := 57) rfl (Nat.le_refl _) (Nat.le_refl _) dX12_way_57 ⟨rfl, rfl, rfl, rfl⟩
      · replace hF := am_no c_13 hF
        refine g_aload_n (pc := 32) dX12_way_32 rfl rfl ?_
        refine g_iload (pc := 33) dX12_way_33 rfl ?_
        refine g_iconst (pc := 35) (v := (0 : Int32)) dX12_way_35 rfl ?_
        refine g_iconst (pc := 36) (v := (1 : Int32)) dX12_way_36 rfl ?_
        obtain ⟨r_15, h_14, hF⟩ := am_b1_el hF
        refine g_cVz (pc := 37) (k := 55) (As := [.int a4, .int (0 : Int32), .int (1 : Int32)]) (st := []) ky_X12_isIn kl_X12_148 (s_X12_isIn_55 (d := 1) (hPl) (Nat.le_refl _) h_14) rfl rfl rfl (hPl.lt (by decide)) (Nat.le_trans (by decide) hd) (Nat.le_of_ble_eq_true rfl) (Nat.le_refl _) (Nat.le_refl _) dX12_way_37 ?_
        intro z_16
        refine g_if_ne (pc := 40) (tgt := 58) dX12_way_40 rfl (fun c_17 => ?_) (fun c_17 => ?_)
        · replace hF := am_no c_17 hF
          refine g_aload_n (pc := 58) dX12_way_58 rfl rfl ?_
          refine g_iload_n (pc := 59) dX12_way_59 rfl rfl ?_
          refine g_iload_n (pc := 60) dX12_way_60 rfl rfl ?_
          refine g_iload_n (pc := 61) dX12_way_61 rfl rfl ?_
          obtain ⟨I_19, h_18, hF⟩ := am_b1_el hF
          refine g_cVv (pc := 62) (k := 55) (As := [.int a1, .int a2, .int a3]) (st := []) ky_X12_findsWay kl_X12_371 (s_X12_findsWay_55 (d := 2) (hPl) (Nat.le_refl _) h_18) rfl rfl rfl (hPl.lt (by decide)) (Nat.le_trans (by decide) hd) (Nat.le_of_ble_eq_true rfl) (Nat.le_refl _) (Nat.le_refl _) dX12_way_62 ?_
          refine g_aload_n (pc := 65) dX12_way_65 rfl rfl ?_
          refine g_getI (pc := 66) (k := 55) kf_X12_362.r rfl rfl (hPl.lt (by decide)) dX12_way_66 ?_
          refine g_iconst (pc := 69) (v := (-1 : Int32)) dX12_way_69 (by decide) ?_
          refine g_icmp_ne (pc := 70) (tgt := 75) dX12_way_70 rfl (fun c_20 => ?_) (fun c_20 => ?_)
          · replace hF := am_no c_20 hF
            refine g_iload (pc := 75) dX12_way_75 rfl ?_
            refine g_if_ne (pc := 77) (tgt := 85) dX12_way_77 rfl (fun c_21 => ?_) (fun c_21 => ?_)
            · replace hF := am_no c_21 hF
              refine g_iload (pc := 85) dX12_way_85 rfl ?_
              refine g_iconst (pc := 87) (v := (1 : Int32)) dX12_way_87 rfl ?_
              refine g_icmp_ne (pc := 88) (tgt := 98) dX12_way_88 rfl (fun c_22 => ?_) (fun c_22 => ?_)
              · replace hF := am_no c_22 hF
                refine g_iload (pc := 98) dX12_way_98 rfl ?_
                refine g_bipush (pc := 100) (v := (10 : Int32)) dX12_way_100 rfl ?_
                refine g_isub (pc := 102) dX12_way_102 ?_
                refine g_aload_n (pc := 103) dX12_way_103 rfl rfl ?_
                refine g_getI (pc := 104) (k := 55) kf_X12_365.r rfl rfl (hPl.lt (by decide)) dX12_way_104 ?_
                refine g_icmp_ge (pc := 107) (tgt := 123) dX12_way_107 rfl (fun c_23 => ?_) (fun c_23 => ?_)
                · replace hF := am_yes c_23 hF
                  refine g_iconst (pc := 123) (v := (-1 : Int32)) dX12_way_123 (by decide) ?_
                  cases hF
                  exact g_iret (pc := 124) rfl (Nat.le_refl _) (Nat.le_refl _) dX12_way_124 ⟨rfl, rfl, rfl, rfl⟩
                · replace hF := am_no c_23 hF
                  refine g_aload_n (pc := 110) dX12_way_110 rfl rfl ?_
                  refine g_getR (pc := 111) (k := 55) (r := 92) kf_X12_128.r rfl rfl (hPl.get (by decide) rfl) (hPl.lt (by decide)) dX12_way_111 ?_
                  refine g_iload (pc := 114) dX12_way_114 rfl ?_
                  refine g_bipush (pc := 116) (v := (10 : Int32)) dX12_way_116 rfl ?_
                  refine g_isub (pc := 118) dX12_way_118 ?_
                  obtain ⟨c_24, hF⟩ := am_gd hF
                  refine g_iald (pc := 119) (k := 92) rfl (hPl.lt (by decide)) (am_ix_use c_24) dX12_way_119 ?_
                  refine g_goto (pc := 120) (tgt := 124) dX12_way_120 rfl ?_
                  cases hF
                  exact g_iret (pc := 124) rfl (Nat.le_refl _) (Nat.le_refl _) dX12_way_124 ⟨rfl, rfl, rfl, rfl⟩
              · replace hF := am_yes c_22 hF
                refine g_aload_n (pc := 91) dX12_way_91 rfl rfl ?_
                refine g_getI (pc := 92) (k := 55) kf_X12_365.r rfl rfl (hPl.lt (by decide)) dX12_way_92 ?_
                refine g_goto (pc := 95) (tgt := 124) dX12_way_95 rfl ?_
                cases hF
                exact g_iret (pc := 124) rfl (Nat.le_refl _) (Nat.le_refl _) dX12_way_124 ⟨rfl, rfl, rfl, rfl⟩
            · replace hF := am_yes c_21 hF
              refine g_aload_n (pc := 80) dX12_way_80 rfl rfl ?_
              refine g_getI (pc := 81) (k := 55) kf_X12_362.r rfl rfl (hPl.lt (by decide)) dX12_way_81 ?_
              cases hF
              exact g_iret (pc := 84) rfl (Nat.le_refl _) (Nat.le_refl _) dX12_way_84 ⟨rfl, rfl, rfl, rfl⟩
          · replace hF := am_yes c_20 hF
            refine g_iconst (pc := 73) (v := (-1 : Int32)) dX12_way_73 (by decide) ?_
            cases hF
            exact g_iret (pc := 74) rfl (Nat.le_refl _) (Nat.le_refl _) dX12_way_74 ⟨rfl, rfl, rfl, rfl⟩
        · replace hF := am_yes c_17 hF
          refine g_aload_n (pc := 43) dX12_way_43 rfl rfl ?_
          refine g_iload (pc := 44) dX12_way_44 rfl ?_
          refine g_bipush (pc := 46) (v := (10 : Int32)) dX12_way_46 rfl ?_
          refine g_bipush (pc := 48) (v := (18 : Int32)) dX12_way_48 rfl ?_
          obtain ⟨r_26, h_25, hF⟩ := am_b1_el hF
          refine g_cVz (pc := 50) (k := 55) (As := [.int a4, .int (10 : Int32), .int (18 : Int32)]) (st := []) ky_X12_isIn kl_X12_148 (s_X12_isIn_55 (d := 1) (hPl) (Nat.le_refl _) h_25) rfl rfl rfl (hPl.lt (by decide)) (Nat.le_trans (by decide) hd) (Nat.le_of_ble_eq_true rfl) (Nat.le_refl _) (Nat.le_refl _) dX12_way_50 ?_
          intro z_27
          refine g_if_ne (pc := 53) (tgt := 58) dX12_way_53 rfl (fun c_28 => ?_) (fun c_28 => ?_)
          · replace hF := am_no c_28 hF
            refine g_aload_n (pc := 58) dX12_way_58 rfl rfl ?_
            refine g_iload_n (pc := 59) dX12_way_59 rfl rfl ?_
            refine g_iload_n (pc := 60) dX12_way_60 rfl rfl ?_
            refine g_iload_n (pc := 61) dX12_way_61 rfl rfl ?_
            obtain ⟨I_30, h_29, hF⟩ := am_b1_el hF
            refine g_cVv (pc := 62) (k := 55) (As := [.int a1, .int a2, .int a3]) (st := []) ky_X12_findsWay kl_X12_371 (s_X12_findsWay_55 (d := 2) (hPl) (Nat.le_refl _) h_29) rfl rfl rfl (hPl.lt (by decide)) (Nat.le_trans (by decide) hd) (Nat.le_of_ble_eq_true rfl) (Nat.le_refl _) (Nat.le_refl _) dX12_way_62 ?_
            refine g_aload_n (pc := 65) dX12_way_65 rfl rfl ?_
            refine g_getI (pc := 66) (k := 55) kf_X12_362.r rfl rfl (hPl.lt (by decide)) dX12_way_66 ?_
            refine g_iconst (pc := 69) (v := (-1 : Int32)) dX12_way_69 (by decide) ?_
            refine g_icmp_ne (pc := 70) (tgt := 75) dX12_way_70 rfl (fun c_31 => ?_) (fun c_31 => ?_)
            · replace hF := am_no c_31 hF
              refine g_iload (pc := 75) dX12_way_75 rfl ?_
              refine g_if_ne (pc := 77) (tgt := 85) dX12_way_77 rfl (fun c_32 => ?_) (fun c_32 => ?_)
              · replace hF := am_no c_32 hF
                refine g_iload (pc := 85) dX12_way_85 rfl ?_
                refine g_iconst (pc := 87) (v := (1 : Int32)) dX12_way_87 rfl ?_
                refine g_icmp_ne (pc := 88) (tgt := 98) dX12_way_88 rfl (fun c_33 => ?_) (fun c_33 => ?_)
                · replace hF := am_no c_33 hF
                  refine g_iload (pc := 98) dX12_way_98 rfl ?_
                  refine g_bipush (pc := 100) (v := (10 : Int32)) dX12_way_100 rfl ?_
                  refine g_isub (pc := 102) dX12_way_102 ?_
                  refine g_aload_n (pc := 103) dX12_way_103 rfl rfl ?_
                  refine g_getI (pc := 104) (k := 55) kf_X12_365.r rfl rfl (hPl.lt (by decide)) dX12_way_104 ?_
                  refine g_icmp_ge (pc := 107) (tgt := 123) dX12_way_107 rfl (fun c_34 => ?_) (fun c_34 => ?_)
                  · replace hF := am_yes c_34 hF
                    refine g_iconst (pc := 123) (v := (-1 : Int32)) dX12_way_123 (by decide) ?_
                    cases hF
                    exact g_iret (pc := 124) rfl (Nat.le_refl _) (Nat.le_refl _) dX12_way_124 ⟨rfl, rfl, rfl, rfl⟩
                  · replace hF := am_no c_34 hF
                    refine g_aload_n (pc := 110) dX12_way_110 rfl rfl ?_
                    refine g_getR (pc := 111) (k := 55) (r := 92) kf_X12_128.r rfl rfl (hPl.get (by decide) rfl) (hPl.lt (by decide)) dX12_way_111 ?_
                    refine g_iload (pc := 114) dX12_way_114 rfl ?_
                    refine g_bipush (pc := 116) (v := (10 : Int32)) dX12_way_116 rfl ?_
                    refine g_isub (pc := 118) dX12_way_118 ?_
                    obtain ⟨c_35, hF⟩ := am_gd hF
                    refine g_iald (pc := 119) (k := 92) rfl (hPl.lt (by decide)) (am_ix_use c_35) dX12_way_119 ?_
                    refine g_goto (pc := 120) (tgt := 124) dX12_way_120 rfl ?_
                    cases hF
                    exact g_iret (pc := 124) rfl (Nat.le_refl _) (Nat.le_refl _) dX12_way_124 ⟨rfl, rfl, rfl, rfl⟩
                · replace hF := am_yes c_33 hF
                  refine g_aload_n (pc := 91) dX12_way_91 rfl rfl ?_
                  refine g_getI (pc := 92) (k := 55) kf_X12_365.r rfl rfl (hPl.lt (by decide)) dX12_way_92 ?_
                  refine g_goto (pc := 95) (tgt := 124) dX12_way_95 rfl ?_
                  cases hF
                  exact g_iret (pc := 124) rfl (Nat.le_refl _) (Nat.le_refl _) dX12_way_124 ⟨rfl, rfl, rfl, rfl⟩
              · replace hF := am_yes c_32 hF
                refine g_aload_n (pc := 80) dX12_way_80 rfl rfl ?_
                refine g_getI (pc := 81) (k := 55) kf_X12_362.r rfl rfl (hPl.lt (by decide)) dX12_way_81 ?_
                cases hF
                exact g_iret (pc := 84) rfl (Nat.le_refl _) (Nat.le_refl _) dX12_way_84 ⟨rfl, rfl, rfl, rfl⟩
            · replace hF := am_yes c_31 hF
              refine g_iconst (pc := 73) (v := (-1 : Int32)) dX12_way_73 (by decide) ?_
              cases hF
              exact g_iret (pc := 74) rfl (Nat.le_refl _) (Nat.le_refl _) dX12_way_74 ⟨rfl, rfl, rfl, rfl⟩
          · replace hF := am_yes c_28 hF
            refine g_iconst (pc := 56) (v := (-1 : Int32)) dX12_way_56 (by decide) ?_
            cases hF
            exact g_iret (pc := 57) rfl (Nat.le_refl _) (Nat.le_refl _) dX12_way_57 ⟨rfl, rfl, rfl, rfl⟩
