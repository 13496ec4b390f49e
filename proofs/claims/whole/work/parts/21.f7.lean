def F_X12_findsYards_55 (I : am_IT) : Option (am_IT) := am_b1 (am_it am_fu (am_u2 (fun (l1_1 : Int32) (I_2 : am_IT) => if (8 : Int32) ≤ l1_1 then (some (.inr (I_2))) else (am_b1 (am_it am_fu (am_u2 (fun (l2_10 : Int32) (I_11 : am_IT) => if (I_11 55 4) ≤ l2_10 then (some (.inr (I_11))) else (am_b1 (F_X12_seenFrom_55 I_11 l1_1 l2_10) (fun (r_20 : Int32) => if am_ix (((7 : Int32) * l1_1) + l2_10) 56 = true then (am_let (up2 I_11 83 (((7 : Int32) * l1_1) + l2_10).toNatClampNeg r_20) (fun (I_22 : am_IT) => am_let (l2_10 + (1 : Int32)) (fun (l2_23 : Int32) => some (.inl (l2_23, I_22))))) else none)))) ((0 : Int32), I_2)) (fun (I_12 : am_IT) => am_let (l1_1 + (1 : Int32)) (fun (l1_24 : Int32) => some (.inl (l1_24, I_12))))))) ((0 : Int32), I)) (fun (I_3 : am_IT) => some I_3)
set_option maxRecDepth 100000 in
set_option maxHeartbeats 4000000 in
theorem s_X12_findsYards_55 {l : Launch} {d N : Nat} {P : am_PT} (hPl : am_Pl 94 N P) (hd : 2 ≤ d) {I : am_IT} {I2 : am_IT} (hF : F_X12_findsYards_55 I = some (I2)) : am_C l d 0 0 mX12_findsYards [.ref 55] N P I (am_qv N P I2) := by
  refine am_body (sc := am_sc0) (n := 2) (by decide +kernel) (by decide) rfl ?_
  change G am_sc0 l d 0 0 mX12_findsYards (am_qv N P I2) 0 [.ref 55, .null, .null] [] N P I 0 0
  unfold F_X12_findsYards_55 at hF
  refine g_iconst (pc := 0) (v := (0 : Int32)) dX12_findsYards_0 rfl ?_
  refine n_istore_n (pc := 1) (ls2 := [.ref 55, .int (0 : Int32), .null]) rfl rfl dX12_findsYards_1 rfl (Nat.le_of_ble_eq_true rfl) ?_
  obtain ⟨I_3, hL_7, hF⟩ := am_b1_el hF
  have hX_4 : G am_sc0 l d 0 0 mX12_findsYards (am_qv N P I2) 47 [.ref 55, .null, .null] [] N P I_3 0 0 := by
    cases hF
    exact g_vret (pc := 47) rfl (Nat.le_refl _) (Nat.le_refl _) dX12_findsYards_47 ⟨rfl, rfl, rfl, rfl⟩
  clear hF
  have hC := am_loop (C := fun x => G am_sc0 l d 0 0 mX12_findsYards (am_qv N P I2) 2 [.ref 55, .int x.1, .null] [] N P x.2 0 0) (by
    rintro ⟨l1_1, I_2⟩ rr hF ih_5 hE_6
    replace hF := am_u2_ap hF
    change G am_sc0 l d 0 0 mX12_findsYards (am_qv N P I2) 2 [.ref 55, .int l1_1, .null] [] N P I_2 0 0
    refine g_iload_n (pc := 2) dX12_findsYards_2 rfl rfl ?_
    refine g_bipush (pc := 3) (v := (8 : Int32)) dX12_findsYards_3 rfl ?_
    refine g_icmp_ge (pc := 5) (tgt := 47) dX12_findsYards_5 rfl (fun c_9 => ?_) (fun c_9 => ?_)
    · replace hF := am_yes c_9 hF
      cases hF
      cases hE_6 _ rfl
      exact g_weak hX_4 ⟨Or.inr rfl, Or.inl rfl, Or.inl rfl, trivial⟩
    · replace hF := am_no c_9 hF
      refine g_iconst (pc := 8) (v := (0 : Int32)) dX12_findsYards_8 rfl ?_
      refine n_istore_n (pc := 9) (ls2 := [.ref 55, .int l1_1, .int (0 : Int32)]) rfl rfl dX12_findsYards_9 rfl (Nat.le_of_ble_eq_true rfl) ?_
      obtain ⟨I_12, hL_16, hF⟩ := am_b1_el hF
      have hX_13 : G am_sc0 l d 0 0 mX12_findsYards (am_qv N P I2) 41 [.ref 55, .int l1_1, .null] [] N P I_12 0 0 := by
        obtain ⟨l1_24, e_l1_24, hF⟩ := am_let_el hF
        refine n_iinc (pc := 41) (ls2 := [.ref 55, .int l1_24, .null]) e_l1_24 rfl rfl rfl dX12_findsYards_41 (Nat.le_of_ble_eq_true rfl) ?_
        refine g_goto (pc := 44) (tgt := 2) dX12_findsYards_44 rfl ?_
        cases hF
        exact ih_5 (l1_24, I_12) rfl
      clear hF
      have hC := am_loop (C := fun x => G am_sc0 l d 0 0 mX12_findsYards (am_qv N P I2) 10 [.ref 55, .int l1_1, .int x.1] [] N P x.2 0 0) (by
        rintro ⟨l2_10, I_11⟩ rr hF ih_14 hE_15
        replace hF := am_u2_ap hF
        change G am_sc0 l d 0 0 mX12_findsYards (am_qv N P I2) 10 [.ref 55, .int l1_1, .int l2_10] [] N P I_11 0 0
        refine g_iload_n (pc := 10) dX12_findsYards_10 rfl rfl ?_
        refine g_aload_n (pc := 11) dX12_findsYards_11 rfl rfl ?_
        refine g_getI (pc := 12) (k := 55) kf_X12_142.r rfl rfl (hPl.lt (by decide)) dX12_findsYards_12 ?_
        refine g_icmp_ge (pc := 15) (tgt := 41) dX12_findsYards_15 rfl (fun c_18 => ?_) (fun c_18 => ?_)
        · replace hF := am_yes c_18 hF
          cases hF
          cases hE_15 _ rfl
          exact g_weak hX_13 ⟨Or.inr rfl, Or.inr rfl, Or.inl rfl, trivial⟩
        · replace hF := am_no c_18 hF
          refine g_aload_n (pc := 18) dX12_findsYards_18 rfl rfl ?_
          refine g_getR (pc := 19) (k := 55) (r := 83) kf_X12_98.r rfl rfl (hPl.get (by decide) rfl) (hPl.lt (by decide)) dX12_findsYards_19 ?_
          refine g_bipush (pc := 22) (v := (7 : Int32)) dX12_findsYards_22 rfl ?_
          refine g_iload_n (pc := 24) dX12_findsYards_24 rfl rfl ?_
          refine g_imul (pc := 25) dX12_findsYards_25 ?_
          refine g_iload_n (pc := 26) dX12_findsYards_26 rfl rfl ?_
          refine g_iadd (pc := 27) dX12_findsYards_27 ?_
          refine g_aload_n (pc := 28) dX12_findsYards_28 rfl rfl ?_
          refine g_iload_n (pc := 29) dX12_findsYards_29 rfl rfl ?_
          refine g_iload_n (pc := 30) dX12_findsYards_30 rfl rfl ?_
          obtain ⟨r_20, h_19, hF⟩ := am_b1_el hF
          refine g_cVi (pc := 31) (k := 55) (As := [.int l1_1, .int l2_10]) (st := [.int (((7 : Int32) * l1_1) + l2_10), .ref 83]) ky_X12_seenFrom kl_X12_279 (s_X12_seenFrom_55 (d := 1) (hPl) (Nat.le_refl _) h_19) rfl rfl rfl (hPl.lt (by decide)) (Nat.le_trans (by decide) hd) (Nat.le_of_ble_eq_true rfl) (Nat.le_refl _) (Nat.le_refl _) dX12_findsYards_31 ?_
          obtain ⟨c_21, hF⟩ := am_gd hF
          obtain ⟨I_22, e_I_22, hF⟩ := am_let_el hF
          refine n_iast (pc := 34) (k := 83) e_I_22 rfl (hPl.lt (by decide)) (am_ix_use c_21) dX12_findsYards_34 ?_
          obtain ⟨l2_23, e_l2_23, hF⟩ := am_let_el hF
          refine n_iinc (pc := 35) (ls2 := [.ref 55, .int l1_1, .int l2_23]) e_l2_23 rfl rfl rfl dX12_findsYards_35 (Nat.le_of_ble_eq_true rfl) ?_
          refine g_goto (pc := 38) (tgt := 10) dX12_findsYards_38 rfl ?_
          cases hF
          exact ih_14 (l2_23, I_22) rfl
        ) _ _ hL_16
      exact hC
    ) _ _ hL_7
  exact hC
def F_X12_worthFrom_55 (I : am_IT) (a1 : Int32) (a2 : Int32) (a3 : Int32) : Option (Int32) := am_b1 (am_it am_fu (am_u2 (fun (l4_1 : Int32) (l5_2 : Int32) => if (I 55 4) ≤ l5_2 then (some (.inr (l4_1))) else (if am_ix (((7 : Int32) * a1) + l5_2) 56 = true then (am_let (I 83 (((7 : Int32) * a1) + l5_2).toNatClampNeg) (fun (l6_11 : Int32) => if am_ix (a3 + l5_2) 35 = true then (if am_ix (((4 : Int32) * a2) + (I 72 (a3 + l5_2).toNatClampNeg)) 28 = true then (am_let (l4_1 + (l6_11 * (I 63 (((4 : Int32) * a2) + (I 72 (a3 + l5_2).toNatClampNeg)).toNatClampNeg))) (fun (l4_14 : Int32) => am_b1 (am_it am_fu (am_u2 (fun (l4_15 : Int32) (l7_16 : Int32) => if l5_2 ≤ l7_16 then (some (.inr (l4_15))) else (if am_ix (((7 : Int32) * a1) + l7_16) 56 = true then (am_let (I 83 (((7 : Int32) * a1) + l7_16).toNatClampNeg) (fun (l8_25 : Int32) => if am_ix (((7 : Int32) * l5_2) + l7_16) 49 = true then (if (I 66 (((7 : Int32) * l5_2) + l7_16).toNatClampNeg) = (1 : Int32) then (if am_ix (a3 + l5_2) 35 = true then (if am_ix (a3 + l7_16) 35 = true then (if (I 72 (a3 + l5_2).toNatClampNeg) = (I 72 (a3 + l7_16).toNatClampNeg) then (if am_ix a2 7 = true then (if l8_25 ≤ l6_11 then (am_let (l4_15 + ((I 65 a2.toNatClampNeg) * l8_25)) (fun (l4_35 : Int32) => am_let (l7_16 + (1 : Int32)) (fun (l7_36 : Int32) => some (.inl (l4_35, l7_36))))) else (am_let (l4_15 + ((I 65 a2.toNatClampNeg) * l6_11)) (fun (l4_37 : Int32) => am_let (l7_16 + (1 : Int32)) (fun (l7_38 : Int32) => some (.inl (l4_37, l7_38)))))) else none) else (am_let (l7_16 + (1 : Int32)) (fun (l7_32 : Int32) => some (.inl (l4_15, l7_32))))) else none) else none) else (am_let (l7_16 + (1 : Int32)) (fun (l7_28 : Int32) => some (.inl (l4_15, l7_28))))) else none)) else none))) (l4_14, (0 : Int32))) (fun (l4_17 : Int32) => am_let (l5_2 + (1 : Int32)) (fun (l5_39 : Int32) => some (.inl (l4_17, l5_39)))))) else none) else none)) else none))) ((0 : Int32), (0 : Int32))) (fun (l4_3 : Int32) => some l4_3)
set_option maxRecDepth 100000 in
set_option maxHeartbeats 4000000 in
theorem s_X12_worthFrom_55 {l : Launch} {d N : Nat} {P : am_PT} (hPl : am_Pl 94 N P) (hd : 1 ≤ d) {I : am_IT} {a1 : Int32} {a2 : Int32} {a3 : Int32} {r : Int32} (hF : F_X12_worthFrom_55 I a1 a2 a3 = some (r)) : am_C l d 0 0 mX12_worthFrom [.ref 55, .int a1, .int a2, .int a3] N P I (am_qi r N P I) := by
  refine am_body (sc := am_sc0) (n := 5) (by decide +kernel) (by decide) rfl ?_
  change G am_sc0 l d 0 0 mX12_worthFrom (am_qi r N P I) 0 [.ref 55, .int a1, .int a2, .int a3, .null, .null, .null, .null, .null] [] N P I 0 0
  unfold F_X12_worthFrom_55 at hF
  refine g_iconst (pc := 0) (v := (0 : Int32)) dX12_worthFrom_0 rfl ?_
  refine n_istore (pc := 1) (ls2 := [.ref 55, .int a1, .int a2, .int a3, .int (0 : Int32), .null, .null, .null, .null]) rfl rfl dX12_worthFrom_1 (Nat.le_of_ble_eq_true rfl) ?_
  refine g_iconst (pc := 3) (v := (0 : Int32)) dX12_worthFrom_3 rfl ?_
  refine n_istore (pc := 4) (ls2 := [.ref 55, .int a1, .int a2, .int a3, .int (0 : Int32), .int (0 : Int32), .null, .null, .null]) rfl rfl dX12_worthFrom_4 (Nat.le_of_ble_eq_true rfl) ?_
  obtain ⟨l4_3, hL_7, hF⟩ := am_b1_el hF
  have hX_4 : G am_sc0 l d 0 0 mX12_worthFrom (am_qi r N P I) 155 [.ref 55, .int a1, .int a2, .int a3, .int l4_3, .null, .null, .null, .null] [] N P I 0 0 := by
    refine g_iload (pc := 155) dX12_worthFrom_155 rfl ?_
    cases hF
    exact g_iret (pc := 157) rfl (Nat.le_refl _) (Nat.le_refl _) dX12_worthFrom_157 ⟨rfl, rfl, rfl, rfl⟩
  clear hF
  have hC := am_loop (C := fun x => G am_sc0 l d 0 0 mX12_worthFrom (am_qi r N P I) 6 [.ref 55, .int a1, .int a2, .int a3, .int x.1, .int x.2, .null, .null, .null] [] N P I 0 0) (by
    rintro ⟨l4_1, l5_2⟩ rr hF ih_5 hE_6
    replace hF := am_u2_ap hF
    change G am_sc0 l d 0 0 mX12_worthFrom (am_qi r N P I) 6 [.ref 55, .int a1, .int a2, .int a3, .int l4_1, .int l5_2, .null, .null, .null] [] N P I 0 0
    refine g_iload (pc := 6) dX12_worthFrom_6 rfl ?_
    refine g_aload_n (pc := 8) dX12_worthFrom_8 rfl rfl ?_
    refine g_getI (pc := 9) (k := 55) kf_X12_142.r rfl rfl (hPl.lt (by decide)) dX12_worthFrom_9 ?_
    refine g_icmp_ge (pc := 12) (tgt := 155) dX12_worthFrom_12 rfl (fun c_9 => ?_) (fun c_9 => ?_)
    · replace hF := am_yes c_9 hF
      cases hF
      cases hE_6 _ rfl
      exact g_weak hX_4 ⟨Or.inr rfl, Or.inr rfl, Or.inr rfl, Or.inr rfl, Or.inr rfl, Or.inl rfl, Or.inl rfl, Or.inl rfl, Or.inl rfl, trivial⟩
    · replace hF := am_no c_9 hF
      refine g_aload_n (pc := 15) dX12_worthFrom_15 rfl rfl ?_
      refine g_getR (pc := 16) (k := 55) (r := 83) kf_X12_98.r rfl rfl (hPl.get (by decide) rfl) (hPl.lt (by decide)) dX12_worthFrom_16 ?_
      refine g_bipush (pc := 19) (v := (7 : Int32)) dX12_worthFrom_19 rfl ?_
      refine g_iload_n (pc := 21) dX12_worthFrom_21 rfl rfl ?_
      refine g_imul (pc := 22) dX12_worthFrom_22 ?_
      refine g_iload (pc := 23) dX12_worthFrom_23 rfl ?_
      refine g_iadd (pc := 25) dX12_worthFrom_25 ?_
      obtain ⟨c_10, hF⟩ := am_gd hF
      refine g_iald (pc := 26) (k := 83) rfl (hPl.lt (by decide)) (am_ix_use c_10) dX12_worthFrom_26 ?_
      obtain ⟨l6_11, e_l6_11, hF⟩ := am_let_el hF
      refine n_istore (pc := 27) (ls2 := [.ref 55, .int a1, .int a2, .int a3, .int l4_1, .int l5_2, .int l6_11, .null, .null]) e_l6_11 rfl dX12_worthFrom_27 (Nat.le_of_ble_eq_true rfl) ?_
      refine g_iload (pc := 29) dX12_worthFrom_29 rfl ?_
      refine g_iload (pc := 31) dX12_worthFrom_31 rfl ?_
      refine g_aload_n (pc := 33) dX12_worthFrom_33 rfl rfl ?_
      refine g_getR (pc := 34) (k := 55) (r := 63) kf_X12_35.r rfl rfl (hPl.get (by decide) rfl) (hPl.lt (by decide)) dX12_worthFrom_34 ?_
      refine g_iconst (pc := 37) (v := (4 : Int32)) dX12_worthFrom_37 rfl ?_
      refine g_iload_n (pc := 38) dX12_worthFrom_38 rfl rfl ?_
      refine g_imul (pc := 39) dX12_worthFrom_39 ?_
      refine g_aload_n (pc := 40) dX12_worthFrom_40 rfl rfl ?_
      refine g_getR (pc := 41) (k := 55) (r := 72) kf_X12_62.r rfl rfl (hPl.get (by decide) rfl) (hPl.lt (by decide)) dX12_worthFrom_41 ?_
      refine g_iload_n (pc := 44) dX12_worthFrom_44 rfl rfl ?_
      refine g_iload (pc := 45) dX12_worthFrom_45 rfl ?_
      refine g_iadd (pc := 47) dX12_worthFrom_47 ?_
      obtain ⟨c_12, hF⟩ := am_gd hF
      refine g_iald (pc := 48) (k := 72) rfl (hPl.lt (by decide)) (am_ix_use c_12) dX12_worthFrom_48 ?_
      refine g_iadd (pc := 49) dX12_worthFrom_49 ?_
      obtain ⟨c_13, hF⟩ := am_gd hF
      refine g_iald (pc := 50) (k := 63) rfl (hPl.lt (by decide)) (am_ix_use c_13) dX12_worthFrom_50 ?_
      refine g_imul (pc := 51) dX12_worthFrom_51 ?_
      refine g_iadd (pc := 52) dX12_worthFrom_52 ?_
      obtain ⟨l4_14, e_l4_14, hF⟩ := am_let_el hF
      refine n_istore (pc := 53) (ls2 := [.ref 55, .int a1, .int a2, .int a3, .int l4_14, .int l5_2, .int l6_11, .null, .null]) e_l4_14 rfl dX12_worthFrom_53 (Nat.le_of_ble_eq_true rfl) ?_
      refine g_iconst (pc := 55) (v := (0 : Int32)) dX12_worthFrom_55 rfl ?_
      refine n_istore (pc := 56) (ls2 := [.ref 55, .int a1, .int a2, .int a3, .int l4_14, .int l5_2, .int l6_11, .int (0 : Int32), .null]) rfl rfl dX12_worthFrom_56 (Nat.le_of_ble_eq_true rfl) ?_
      obtain ⟨l4_17, hL_21, hF⟩ := am_b1_el hF
      have hX_18 : G am_sc0 l d 0 0 mX12_worthFrom (am_qi r N P I) 149 [.ref 55, .int a1, .int a2, .int a3, .int l4_17, .int l5_2, .int l6_11, .null, .null] [] N P I 0 0 := by
        obtain ⟨l5_39, e_l5_39, hF⟩ := am_let_el hF
        refine n_iinc (pc := 149) (ls2 := [.ref 55, .int a1, .int a2, .int a3, .int l4_17, .int l5_39, .int l6_11, .null, .null]) e_l5_39 rfl rfl rfl dX12_worthFrom_149 (Nat.le_of_ble_eq_true rfl) ?_
        refine g_goto (pc := 152) (tgt := 6) dX12_worthFrom_152 rfl ?_
        cases hF
        exact g_weak (ih_5 (l4_17, l5_39) rfl) ⟨Or.inr rfl, Or.inr rfl, Or.inr rfl, Or.inr rfl, Or.inr rfl, Or.inr rfl, Or.inl rfl, Or.inl rfl, Or.inl rfl, trivial⟩
      clear hF
      have hC := am_loop (C := fun x => G am_sc0 l d 0 0 mX12_worthFrom (am_qi r N P I) 58 [.ref 55, .int a1, .int a2, .int a3, .int x.1, .int l5_2, .int l6_11, .int x.2, .null] [] N P I 0 0) (by
        rintro ⟨l4_15, l7_16⟩ rr hF ih_19 hE_20
        replace hF := am_u2_ap hF
        change G am_sc0 l d 0 0 mX12_worthFrom (am_qi r N P I) 58 [.ref 55, .int a1, .int a2, .int a3, .int l4_15, .int l5_2, .int l6_11, .int l7_16, .null] [] N P I 0 0
        refine g_iload (pc := 58) dX12_worthFrom_58 rfl ?_
        refine g_iload (pc := 60) dX12_worthFrom_60 rfl ?_
        refine g_icmp_ge (pc := 62) (tgt := 149) dX12_worthFrom_62 rfl (fun c_23 => ?_) (fun c_23 => ?_)
        · replace hF := am_yes c_23 hF
          cases hF
          cases hE_20 _ rfl
          exact g_weak hX_18 ⟨Or.inr rfl, Or.inr rfl, Or.inr rfl, Or.inr rfl, Or.inr rfl, Or.inr rfl, Or.inr rfl, Or.inl rfl, Or.inl rfl, trivial⟩
        · replace hF := am_no c_23 hF
          refine g_aload_n (pc := 65) dX12_worthFrom_65 rfl rfl ?_
          refine g_getR (pc := 66) (k := 55) (r := 83) kf_X12_98.r rfl rfl (hPl.get (by decide) rfl) (hPl.lt (by decide)) dX12_worthFrom_66 ?_
          refine g_bipush (pc := 69) (v := (7 : Int32)) dX12_worthFrom_69 rfl ?_
          refine g_iload_n (pc := 71) dX12_worthFrom_71 rfl rfl ?_
          refine g_imul (pc := 72) dX12_worthFrom_72 ?_
          refine g_iload (pc := 73) dX12_worthFrom_73 rfl ?_
          refine g_iadd (pc := 75) dX12_worthFrom_75 ?_
          obtain ⟨c_24, hF⟩ := am_gd hF
          refine g_iald (pc := 76) (k := 83) rfl (hPl.lt (by decide)) (am_ix_use c_24) dX12_worthFrom_76 ?_
          obtain ⟨l8_25, e_l8_25, hF⟩ := am_let_el hF
          refine n_istore (pc := 77) (ls2 := [.ref 55, .int a1, .int a2, .int a3, .int l4_15, .int l5_2, .int l6_11, .int l7_16, .int l8_25]) e_l8_25 rfl dX12_worthFrom_77 (Nat.le_of_ble_eq_true rfl) ?_
          refine g_aload_n (pc := 79) dX12_worthFrom_79 rfl rfl ?_
          refine g_getR (pc := 80) (k := 55) (r := 66) kf_X12_44.r rfl rfl (hPl.get (by decide) rfl) (hPl.lt (by decide)) dX12_worthFrom_80 ?_
          refine g_bipush (pc := 83) (v := (7 : Int32)) dX12_worthFrom_83 rfl ?_
          refine g_iload (pc := 85) dX12_worthFrom_85 rfl ?_
          refine g_imul (pc := 87) dX12_worthFrom_87 ?_
          refine g_iload (pc := 88) dX12_worthFrom_88 rfl ?_
          refine g_iadd (pc := 90) dX12_worthFrom_90 ?_
          obtain ⟨c_26, hF⟩ := am_gd hF
          refine g_iald (pc := 91) (k := 66) rfl (hPl.lt (by decide)) (am_ix_use c_26) dX12_worthFrom_91 ?_
          refine g_iconst (pc := 92) (v := (1 : Int32)) dX12_worthFrom_92 rfl ?_
          refine g_icmp_ne (pc := 93) (tgt := 143) dX12_worthFrom_93 rfl (fun c_27 => ?_) (fun c_27 => ?_)
          · replace hF := am_no c_27 hF
            obtain ⟨l7_28, e_l7_28, hF⟩ := am_let_el hF
            refine n_iinc (pc := 143) (ls2 := [.ref 55, .int a1, .int a2, .int a3, .int l4_15, .int l5_2, .int l6_11, .int l7_28, .int l8_25]) e_l7_28 rfl rfl rfl dX12_worthFrom_143 (Nat.le_of_ble_eq_true rfl) ?_
            refine g_goto (pc := 146) (tgt := 58) dX12_worthFrom_146 rfl ?_
            cases hF
            exact g_weak (ih_19 (l4_15, l7_28) rfl) ⟨Or.inr rfl, Or.inr rfl, Or.inr rfl, Or.inr rfl, Or.inr rfl, Or.inr rfl, Or.inr rfl, Or.inr rfl, Or.inl rfl, trivial⟩
          · replace hF := am_yes c_27 hF
            refine g_aload_n (pc := 96) dX12_worthFrom_96 rfl rfl ?_
            refine g_getR (pc := 97) (k := 55) (r := 72) kf_X12_62.r rfl rfl (hPl.get (by decide) rfl) (hPl.lt (by decide)) dX12_worthFrom_97 ?_
            refine g_iload_n (pc := 100) dX12_worthFrom_100 rfl rfl ?_
            refine g_iload (pc := 101) dX12_worthFrom_101 rfl ?_
            refine g_iadd (pc := 103) dX12_worthFrom_103 ?_
            obtain ⟨c_29, hF⟩ := am_gd hF
            refine g_iald (pc := 104) (k := 72) rfl (hPl.lt (by decide)) (am_ix_use c_29) dX12_worthFrom_104 ?_
            refine g_aload_n (pc := 105) dX12_worthFrom_105 rfl rfl ?_
            refine g_getR (pc := 106) (k := 55) (r := 72) kf_X12_62.r rfl rfl (hPl.get (by decide) rfl) (hPl.lt (by decide)) dX12_worthFrom_106 ?_
            refine g_iload_n (pc := 109) dX12_worthFrom_109 rfl rfl ?_
            refine g_iload (pc := 110) dX12_worthFrom_110 rfl ?_
            refine g_iadd (pc := 112) dX12_worthFrom_112 ?_
            obtain ⟨c_30, hF⟩ := am_gd hF
            refine g_iald (pc := 113) (k := 72) rfl (hPl.lt (by decide)) (am_ix_use c_30) dX12_worthFrom_113 ?_
            refine g_icmp_ne (pc := 114) (tgt := 143) dX12_worthFrom_114 rfl (fun c_31 => ?_) (fun c_31 => ?_)
            · replace hF := am_no c_31 hF
              obtain ⟨l7_32, e_l7_32, hF⟩ := am_let_el hF
              refine n_iinc (pc := 143) (ls2 := [.ref 55, .int a1, .int a2, .int a3, .int l4_15, .int l5_2, .int l6_11, .int l7_32, .int l8_25]) e_l7_32 rfl rfl rfl dX12_worthFrom_143 (Nat.le_of_ble_eq_true rfl) ?_
              refine g_goto (pc := 146) (tgt := 58) dX12_worthFrom_146 rfl ?_
              cases hF
              exact g_weak (ih_19 (l4_15, l7_32) rfl) ⟨Or.inr rfl, Or.inr rfl, Or.inr rfl, Or.inr rfl, Or.inr rfl, Or.inr rfl, Or.inr rfl, Or.inr rfl, Or.inl rfl, trivial⟩
            · replace hF := am_yes c_31 hF
              refine g_iload (pc := 117) dX12_worthFrom_117 rfl ?_
              refine g_aload_n (pc := 119) dX12_worthFrom_119 rfl rfl ?_
              refine g_getR (pc := 120) (k := 55) (r := 65) kf_X12_41.r rfl rfl (hPl.get (by decide) rfl) (hPl.lt (by decide)) dX12_worthFrom_120 ?_
              refine g_iload_n (pc := 123) dX12_worthFrom_123 rfl rfl ?_
              obtain ⟨c_33, hF⟩ := am_gd hF
              refine g_iald (pc := 124) (k := 65) rfl (hPl.lt (by decide)) (am_ix_use c_33) dX12_worthFrom_124 ?_
              refine g_iload (pc := 125) dX12_worthFrom_125 rfl ?_
              refine g_iload (pc := 127) dX12_worthFrom_127 rfl ?_
              refine g_icmp_ge (pc := 129) (tgt := 137) dX12_worthFrom_129 rfl (fun c_34 => ?_) (fun c_34 => ?_)
              · replace hF := am_yes c_34 hF
                refine g_iload (pc := 137) dX12_worthFrom_137 rfl ?_
                refine g_imul (pc := 139) dX12_worthFrom_139 ?_
                refine g_iadd (pc := 140) dX12_worthFrom_140 ?_
                obtain ⟨l4_35, e_l4_35, hF⟩ := am_let_el hF
                refine n_istore (pc := 141) (ls2 := [.ref 55, .int a1, .int a2, .int a3, .int l4_35, .int l5_2, .int l6_11, .int l7_16, .int l8_25]) e_l4_35 rfl dX12_worthFrom_141 (Nat.le_of_ble_eq_true rfl) ?_
                obtain ⟨l7_36, e_l7_36, hF⟩ := am_let_el hF
                refine n_iinc (pc := 143) (ls2 := [.ref 55, .int a1, .int a2, .int a3, .int l4_35, .int l5_2, .int l6_11, .int l7_36, .int l8_25]) e_l7_36 rfl rfl rfl dX12_worthFrom_143 (Nat.le_of_ble_eq_true rfl) ?_
                refine g_goto (pc := 146) (tgt := 58) dX12_worthFrom_146 rfl ?_
                cases hF
                exact g_weak (ih_19 (l4_35, l7_36) rfl) ⟨Or.inr rfl, Or.inr rfl, Or.inr rfl, Or.inr rfl, Or.inr rfl, Or.inr rfl, Or.inr rfl, Or.inr rfl, Or.inl rfl, trivial⟩
              · replace hF := am_no c_34 hF
                refine g_iload (pc := 132) dX12_worthFrom_132 rfl ?_
                refine g_goto (pc := 134) (tgt := 139) dX12_worthFrom_134 rfl ?_
                refine g_imul (pc := 139) dX12_worthFrom_139 ?_
                refine g_iadd (pc := 140) dX12_worthFrom_140 ?_
                obtain ⟨l4_37, e_l4_37, hF⟩ := am_let_el hF
                refine n_istore (pc := 141) (ls2 := [.ref 55, .int a1, .int a2, .int a3, .int l4_37, .int l5_2, .int l6_11, .int l7_16, .int l8_25]) e_l4_37 rfl dX12_worthFrom_141 (Nat.le_of_ble_eq_true rfl) ?_
                obtain ⟨l7_38, e_l7_38, hF⟩ := am_let_el hF
                refine n_iinc (pc := 143) (ls2 := [.ref 55, .int a1, .int a2, .int a3, .int l4_37, .int l5_2, .int l6_11, .int l7_38, .int l8_25]) e_l7_38 rfl rfl rfl dX12_worthFrom_143 (Nat.le_of_ble_eq_true rfl) ?_
                refine g_goto (pc := 146) (tgt := 58) dX12_worthFrom_146 rfl ?_
                cases hF
                exact g_weak (ih_19 (l4_37, l7_38) rfl) ⟨Or.inr rfl, Or.inr rfl, Or.inr rfl, Or.inr rfl, Or.inr rfl, Or.inr rfl, Or.inr rfl, Or.inr rfl, Or.inl rfl, trivial⟩
        ) _ _ hL_21
      exact hC
    ) _ _ hL_7
  exact hC
def F_X12_worthOf_55 (I : am_IT) (a1 : Int32) (a2 : Int32) : Option (Int32) := if am_ix a1 7 = true then (am_b1 (F_X12_worthFrom_55 I (I 57 a1.toNatClampNeg) a1 a2) (fun (r_3 : Int32) => some r_3)) else none
set_option maxRecDepth 100000 in
set_option maxHeartbeats 4000000 in
theorem s_X12_worthOf_55 {l : Launch} {d N : Nat} {P : am_PT} (hPl : am_Pl 94 N P) (hd : 2 ≤ d) {I : am_IT} {a1 : Int32} {a2 : Int32} {r : Int32} (hF : F_X12_worthOf_55 I a1 a2 = some (r)) : am_C l d 0 0 mX12_worthOf [.ref 55, .int a1, .int a2] N P I (am_qi r N P I) := by
  refine am_body (sc := am_sc0) (n := 0) (by decide +kernel) (by decide) rfl ?_
  change G am_sc0 l d 0 0 mX12_worthOf (am_qi r N P I) 0 [.ref 55, .int a1, .int a2] [] N P I 0 0
  unfold F_X12_worthOf_55 at hF
  refine g_aload_n (pc := 0) dX12_worthOf_0 rfl rfl ?_
  refine g_aload_n (pc := 1) dX12_worthOf_1 rfl rfl ?_
  refine g_getR (pc := 2) (k := 55) (r := 57) kf_X12_17.r rfl rfl (hPl.get (by decide) rfl) (hPl.lt (by decide)) dX12_worthOf_2 ?_
  refine g_iload_n (pc := 5) dX12_worthOf_5 rfl rfl ?_
  obtain ⟨c_1, hF⟩ := am_gd hF
  refine g_iald (pc := 6) (k := 57) rfl (hPl.lt (by decide)) (am_ix_use c_1) dX12_worthOf_6 ?_
  refine g_iload_n (pc := 7) dX12_worthOf_7 rfl rfl ?_
  refine g_iload_n (pc := 8) dX12_worthOf_8 rfl rfl ?_
  obtain ⟨r_3, h_2, hF⟩ := am_b1_el hF
  refine g_cVi (pc := 9) (k := 55) (As := [.int (I 57 a1.toNatClampNeg), .int a1, .int a2]) (st := []) ky_X12_worthFrom kl_X12_282 (s_X12_worthFrom_55 (d := 1) (hPl) (Nat.le_refl _) h_2) rfl rfl rfl (hPl.lt (by decide)) (Nat.le_trans (by decide) hd) (Nat.le_of_ble_eq_true rfl) (Nat.le_refl _) (Nat.le_refl _) dX12_worthOf_9 ?_
  cases hF
  exact g_iret (pc := 12) rfl (Nat.le_refl _) (Nat.le_refl _) dX12_worthOf_12 ⟨rfl, rfl, rfl, rfl⟩
def F_X12_worth_55 (I : am_IT) (a1 : Int32) : Option (Int32 × am_IT) := am_let (up2 I 55 0 (0 : Int32)) (fun (I_1 : am_IT) => am_b1 (F_X12_isOne_55 I_1 a1) (fun (r_3 : Int32) => if r_3 = 0 then (some ((-100000 : Int32), I_1)) else (am_b1 (F_X12_findsYards_55 I_1) (fun (I_7 : am_IT) => am_b1 (F_X12_worthOf_55 I_7 a1 (0 : Int32)) (fun (r_9 : Int32) => some (r_9, I_7))))))
set_option maxRecDepth 100000 in
set_option maxHeartbeats 4000000 in
theorem s_X12_worth_55 {l : Launch} {d N : Nat} {P : am_PT} (hPl : am_Pl 94 N P) (hd : 3 ≤ d) {I : am_IT} {a1 : Int32} {r : Int32} {I2 : am_IT} (hF : F_X12_worth_55 I a1 = some (r, I2)) : am_C l d 0 0 mX12_worth [.ref 55, .int a1] N P I (am_qi r N P I2) := by
  refine am_body (sc := am_sc0) (n := 0) (by decide +kernel) (by decide) rfl ?_
  change G am_sc0 l d 0 0 mX12_worth (am_qi r N P I2) 0 [.ref 55, .int a1] [] N P I 0 0
  unfold F_X12_worth_55 at hF
  refine g_aload_n (pc := 0) dX12_worth_0 rfl rfl ?_
  refine g_iconst (pc := 1) (v := (0 : Int32)) dX12_worth_1 rfl ?_
  obtain ⟨I_1, e_I_1, hF⟩ := am_let_el hF
  refine n_putI (pc := 2) (k := 55) e_I_1 kf_X12_134 rfl rfl (hPl.lt (by decide)) dX12_worth_2 ?_
  refine g_aload_n (pc := 5) dX12_worth_5 rfl rfl ?_
  refine g_iload_n (pc := 6) dX12_worth_6 rfl rfl ?_
  obtain ⟨r_3, h_2, hF⟩ := am_b1_el hF
  refine g_cVz (pc := 7) (k := 55) (As := [.int a1]) (st := []) ky_X12_isOne kl_X12_175 (s_X12_isOne_55 (d := 1) (hPl) (Nat.le_refl _) h_2) rfl rfl rfl (hPl.lt (by decide)) (Nat.le_trans (by decide) hd) (Nat.le_of_ble_eq_true rfl) (Nat.le_refl _) (Nat.le_refl _) dX12_worth_7 ?_
  intro z_4
  refine g_if_ne (pc := 10) (tgt := 17) dX12_worth_10 rfl (fun c_5 => ?_) (fun c_5 => ?_)
  · replace hF := am_no c_5 hF
    refine g_aload_n (pc := 17) dX12_worth_17 rfl rfl ?_
    obtain ⟨I_7, h_6, hF⟩ := am_b1_el hF
    refine g_cVv (pc := 18) (k := 55) (As := []) (st := []) ky_X12_findsYards kl_X12_286 (s_X12_findsYards_55 (d := 2) (hPl) (Nat.le_refl _) h_6) rfl rfl rfl (hPl.lt (by decide)) (Nat.le_trans (by decide) hd) (Nat.le_of_ble_eq_true rfl) (Nat.le_refl _) (Nat.le_refl _) dX12_worth_18 ?_
    refine g_aload_n (pc := 21) dX12_worth_21 rfl rfl ?_
    refine g_iload_n (pc := 22) dX12_worth_22 rfl rfl ?_
    refine g_iconst (pc := 23) (v := (0 : Int32)) dX12_worth_23 rfl ?_
    obtain ⟨r_9, h_8, hF⟩ := am_b1_el hF
    refine g_cVi (pc := 24) (k := 55) (As := [.int a1, .int (0 : Int32)]) (st := []) ky_X12_worthOf kl_X12_289 (s_X12_worthOf_55 (d := 2) (hPl) (Nat.le_refl _) h_8) rfl rfl rfl (hPl.lt (by decide)) (Nat.le_trans (by decide) hd) (Nat.le_of_ble_eq_true rfl) (Nat.le_refl _) (Nat.le_refl _) dX12_worth_24 ?_
    cases hF
    exact g_iret (pc := 27) rfl (Nat.le_refl _) (Nat.le_refl _) dX12_worth_27 ⟨rfl, rfl, rfl, rfl⟩
  · replace hF := am_yes c_5 hF
    refine g_ldcw (pc := 13) dX12_worth_13 kc_X12_285 ?_
    cases hF
    exact g_iret (pc := 16) rfl (Nat.le_refl _) (Nat.le_refl _) dX12_worth_16 ⟨rfl, rfl, rfl, rfl⟩
def F_X12_says_55 (I : am_IT) (a1 : Int32) (a2 : Int32) : Option (Int32) := if a1 = (I 55 49) then (if a2 = (I 55 50) then (some (9 : Int32)) else (some (-9 : Int32))) else (if am_ix (((4 : Int32) * a1) + a2) 28 = true then (some (I 64 (((4 : Int32) * a1) + a2).toNatClampNeg)) else none)
set_option maxRecDepth 100000 in
set_option maxHeartbeats 4000000 in
theorem s_X12_says_55 {l : Launch} {d N : Nat} {P : am_PT} (hPl : am_Pl 94 N P) (hd : 1 ≤ d) {I : am_IT} {a1 : Int32} {a2 : Int32} {r : Int32} (hF : F_X12_says_55 I a1 a2 = some (r)) : am_C l d 0 0 mX12_says [.ref 55, .int a1, .int a2] N P I (am_qi r N P I) := by
  refine am_body (sc := am_sc0) (n := 0) (by decide +kernel) (by decide) rfl ?_
  change G am_sc0 l d 0 0 mX12_says (am_qi r N P I) 0 [.ref 55, .int a1, .int a2] [] N P I 0 0
  unfold F_X12_says_55 at hF
  refine g_iload_n (pc := 0) dX12_says_0 rfl rfl ?_
  refine g_aload_n (pc := 1) dX12_says_1 rfl rfl ?_
  refine g_getI (pc := 2) (k := 55) kf_X12_101.r rfl rfl (hPl.lt (by decide)) dX12_says_2 ?_
  refine g_icmp_ne (pc := 5) (tgt := 26) dX12_says_5 rfl (fun c_1 => ?_) (fun c_1 => ?_)
  · replace hF := am_no c_1 hF
    refine g_aload_n (pc := 26) dX12_says_26 rfl rfl ?_
    refine g_getR (pc := 27) (k := 55) (r := 64) kf_X12_38.r rfl rfl (hPl.get (by decide) rfl) (hPl.lt (by decide)) dX12_says_27 ?_
    refine g_iconst (pc := 30) (v := (4 : Int32)) dX12_says_30 rfl ?_
    refine g_iload_n (pc := 31) dX12_says_31 rfl rfl ?_
    refine g_imul (pc := 32) dX12_says_32 ?_
    refine g_iload_n (pc := 33) dX12_says_33 rfl rfl ?_
    refine g_iadd (pc := 34) dX12_says_34 ?_
    obtain ⟨c_2, hF⟩ := am_gd hF
    refine g_iald (pc := 35) (k := 64) rfl (hPl.lt (by decide)) (am_ix_use c_2) dX12_says_35 ?_
    cases hF
    exact g_iret (pc := 36) rfl (Nat.le_refl _) (Nat.le_refl _) dX12_says_36 ⟨rfl, rfl, rfl, rfl⟩
  · replace hF := am_yes c_1 hF
    refine g_iload_n (pc := 8) dX12_says_8 rfl rfl ?_
    refine g_aload_n (pc := 9) dX12_says_9 rfl rfl ?_
    refine g_getI (pc := 10) (k := 55) kf_X12_292.r rfl rfl (hPl.lt (by decide)) dX12_says_10 ?_
    refine g_icmp_ne (pc := 13) (tgt := 21) dX12_says_13 rfl (fun c_3 => ?_) (fun c_3 => ?_)
    · replace hF := am_no c_3 hF
      refine g_bipush (pc := 21) (v := (-9 : Int32)) dX12_says_21 (by decide) ?_
      refine g_goto (pc := 23) (tgt := 36) dX12_says_23 rfl ?_
      cases hF
      exact g_iret (pc := 36) rfl (Nat.le_refl _) (Nat.le_refl _) dX12_says_36 ⟨rfl, rfl, rfl, rfl⟩
    · replace hF := am_yes c_3 hF
      refine g_bipush (pc := 16) (v := (9 : Int32)) dX12_says_16 rfl ?_
      refine g_goto (pc := 18) (tgt := 36) dX12_says_18 rfl ?_
      cases hF
      exact g_iret (pc := 36) rfl (Nat.le_refl _) (Nat.le_refl _) dX12_says_36 ⟨rfl, rfl, rfl, rfl⟩
def F_X12_bestColourOf_55 (I : am_IT) (a1 : Int32) : Option (Int32) := am_b1 (am_it am_fu (am_u2 (fun (l2_1 : Int32) (l3_2 : Int32) => if (I 55 2) ≤ l3_2 then (some (.inr (l2_1))) else (am_b1 (F_X12_says_55 I a1 l3_2) (fun (r_11 : Int32) => am_b1 (F_X12_says_55 I a1 l2_1) (fun (r_13 : Int32) => if r_11 ≤ r_13 then (am_let (l3_2 + (1 : Int32)) (fun (l3_15 : Int32) => some (.inl (l2_1, l3_15)))) else (am_let (l3_2 + (1 : Int32)) (fun (l3_16 : Int32) => some (.inl (l3_2, l3_16))))))))) ((0 : Int32), (1 : Int32))) (fun (l2_3 : Int32) => some l2_3)
set_option maxRecDepth 100000 in
set_option maxHeartbeats 4000000 in
theorem s_X12_bestColourOf_55 {l : Launch} {d N : Nat} {P : am_PT} (hPl : am_Pl 94 N P) (hd : 2 ≤ d) {I : am_IT} {a1 : Int32} {r : Int32} (hF : F_X12_bestColourOf_55 I a1 = some (r)) : am_C l d 0 0 mX12_bestColourOf [.ref 55, .int a1] N P I (am_qi r N P I) := by
  refine am_body (sc := am_sc0) (n := 2) (by decide +kernel) (by decide) rfl ?_
  change G am_sc0 l d 0 0 mX12_bestColourOf (am_qi r N P I) 0 [.ref 55, .int a1, .null, .null] [] N P I 0 0
  unfold F_X12_bestColourOf_55 at hF
  refine g_iconst (pc := 0) (v := (0 : Int32)) dX12_bestColourOf_0 rfl ?_
  refine n_istore_n (pc := 1) (ls2 := [.ref 55, .int a1, .int (0 : Int32), .null]) rfl rfl dX12_bestColourOf_1 rfl (Nat.le_of_ble_eq_true rfl) ?_
  refine g_iconst (pc := 2) (v := (1 : Int32)) dX12_bestColourOf_2 rfl ?_
  refine n_istore_n (pc := 3) (ls2 := [.ref 55, .int a1, .int (0 : Int32), .int (1 : Int32)]) rfl rfl dX12_bestColourOf_3 rfl (Nat.le_of_ble_eq_true rfl) ?_
  obtain ⟨l2_3, hL_7, hF⟩ := am_b1_el hF
  have hX_4 : G am_sc0 l d 0 0 mX12_bestColourOf (am_qi r N P I) 35 [.ref 55, .int a1, .int l2_3, .null] [] N P I 0 0 := by
    refine g_iload_n (pc := 35) dX12_bestColourOf_35 rfl rfl ?_
    cases hF
    exact g_iret (pc := 36) rfl (Nat.le_refl _) (Nat.le_refl _) dX12_bestColourOf_36 ⟨rfl, rfl, rfl, rfl⟩
  clear hF
  have hC := am_loop (C := fun x => G am_sc0 l d 0 0 mX12_bestColourOf (am_qi r N P I) 4 [.ref 55, .int a1, .int x.1, .int x.2] [] N P I 0 0) (by
    rintro ⟨l2_1, l3_2⟩ rr hF ih_5 hE_6
    replace hF := am_u2_ap hF
    change G am_sc0 l d 0 0 mX12_bestColourOf (am_qi r N P I) 4 [.ref 55, .int a1, .int l2_1, .int l3_2] [] N P I 0 0
    refine g_iload_n (pc := 4) dX12_bestColourOf_4 rfl rfl ?_
    refine g_aload_n (pc := 5) dX12_bestColourOf_5 rfl rfl ?_
    refine g_getI (pc := 6) (k := 55) kf_X12_7.r rfl rfl (hPl.lt (by decide)) dX12_bestColourOf_6 ?_
    refine g_icmp_ge (pc := 9) (tgt := 35) dX12_bestColourOf_9 rfl (fun c_9 => ?_) (fun c_9 => ?_)
    · replace hF := am_yes c_9 hF
      cases hF
      cases hE_6 _ rfl
      exact g_weak hX_4 ⟨Or.inr rfl, Or.inr rfl, Or.inr rfl, Or.inl rfl, trivial⟩
    · replace hF := am_no c_9 hF
      refine g_aload_n (pc := 12) dX12_bestColourOf_12 rfl rfl ?_
      refine g_iload_n (pc := 13) dX12_bestColourOf_13 rfl rfl ?_
      refine g_iload_n (pc := 14) dX12_bestColourOf_14 rfl rfl ?_
      obtain ⟨r_11, h_10, hF⟩ := am_b1_el hF
      refine g_cVi (pc := 15) (k := 55) (As := [.int a1, .int l3_2]) (st := []) ky_X12_says kl_X12_295 (s_X12_says_55 (d := 1) (hPl) (Nat.le_refl _) h_10) rfl rfl rfl (hPl.lt (by decide)) (Nat.le_trans (by decide) hd) (Nat.le_of_ble_eq_true rfl) (Nat.le_refl _) (Nat.le_refl _) dX12_bestColourOf_15 ?_
      refine g_aload_n (pc := 18) dX12_bestColourOf_18 rfl rfl ?_
      refine g_iload_n (pc := 19) dX12_bestColourOf_19 rfl rfl ?_
      refine g_iload_n (pc := 20) dX12_bestColourOf_20 rfl rfl ?_
      obtain ⟨r_13, h_12, hF⟩ := am_b1_el hF
      refine g_cVi (pc := 21) (k := 55) (As := [.int a1, .int l2_1]) (st := [.int r_11]) ky_X12_says kl_X12_295 (s_X12_says_55 (d := 1) (hPl) (Nat.le_refl _) h_12) rfl rfl rfl (hPl.lt (by decide)) (Nat.le_trans (by decide) hd) (Nat.le_of_ble_eq_true rfl) (Nat.le_refl _) (Nat.le_refl _) dX12_bestColourOf_21 ?_
      refine g_icmp_le (pc := 24) (tgt := 29) dX12_bestColourOf_24 rfl (fun c_14 => ?_) (fun c_14 => ?_)
      · replace hF := am_yes c_14 hF
        obtain ⟨l3_15, e_l3_15, hF⟩ := am_let_el hF
        refine n_iinc (pc := 29) (ls2 := [.ref 55, .int a1, .int l2_1, .int l3_15]) e_l3_15 rfl rfl rfl dX12_bestColourOf_29 (Nat.le_of_ble_eq_true rfl) ?_
        refine g_goto (pc := 32) (tgt := 4) dX12_bestColourOf_32 rfl ?_
        cases hF
        exact ih_5 (l2_1, l3_15) rfl
      · replace hF := am_no c_14 hF
        refine g_iload_n (pc := 27) dX12_bestColourOf_27 rfl rfl ?_
        refine n_istore_n (pc := 28) (ls2 := [.ref 55, .int a1, .int l3_2, .int l3_2]) rfl rfl dX12_bestColourOf_28 rfl (Nat.le_of_ble_eq_true rfl) ?_
        obtain ⟨l3_16, e_l3_16, hF⟩ := am_let_el hF
        refine n_iinc (pc := 29) (ls2 := [.ref 55, .int a1, .int l3_2, .int l3_16]) e_l3_16 rfl rfl rfl dX12_bestColourOf_29 (Nat.le_of_ble_eq_true rfl) ?_
        refine g_goto (pc := 32) (tgt := 4) dX12_bestColourOf_32 rfl ?_
        cases hF
        exact ih_5 (l3_2, l3_16) rfl
    ) _ _ hL_7
  exact hC
def F_X12_greatest_55 (I : am_IT) : Option (Int32) := am_b1 (am_it am_fu (am_u2 (fun (l1_1 : Int32) (l2_2 : Int32) => if (I 55 2) ≤ l2_2 then (some (.inr (l1_1))) else (if am_ix l2_2 4 = true then (if am_ix l1_1 4 = true then (if (I 84 l2_2.toNatClampNeg) ≤ (I 84 l1_1.toNatClampNeg) then (am_let (l2_2 + (1 : Int32)) (fun (l2_13 : Int32) => some (.inl (l1_1, l2_13)))) else (am_let (l2_2 + (1 : Int32)) (fun (l2_14 : Int32) => some (.inl (l2_2, l2_14))))) else none) else none))) ((0 : Int32), (1 : Int32))) (fun (l1_3 : Int32) => some l1_3)
set_option maxRecDepth 100000 in
set_option maxHeartbeats 4000000 in
theorem s_X12_greatest_55 {l : Launch} {d N : Nat} {P : am_PT} (hPl : am_Pl 94 N P) (hd : 1 ≤ d) {I : am_IT} {r : Int32} (hF : F_X12_greatest_55 I = some (r)) : am_C l d 0 0 mX12_greatest [.ref 55] N P I (am_qi r N P I) := by
  refine am_body (sc := am_sc0) (n := 2) (by decide +kernel) (by decide) rfl ?_
  change G am_sc0 l d 0 0 mX12_greatest (am_qi r N P I) 0 [.ref 55, .null, .null] [] N P I 0 0
  unfold F_X12_greatest_55 at hF
  refine g_iconst (pc := 0) (v := (0 : Int32)) dX12_greatest_0 rfl ?_
  refine n_istore_n (pc := 1) (ls2 := [.ref 55, .int (0 : Int32), .null]) rfl rfl dX12_greatest_1 rfl (Nat.le_of_ble_eq_true rfl) ?_
  refine g_iconst (pc := 2) (v := (1 : Int32)) dX12_greatest_2 rfl ?_
  refine n_istore_n (pc := 3) (ls2 := [.ref 55, .int (0 : Int32), .int (1 : Int32)]) rfl rfl dX12_greatest_3 rfl (Nat.le_of_ble_eq_true rfl) ?_
  obtain ⟨l1_3, hL_7, hF⟩ := am_b1_el hF
  have hX_4 : G am_sc0 l d 0 0 mX12_greatest (am_qi r N P I) 35 [.ref 55, .int l1_3, .null] [] N P I 0 0 := by
    refine g_iload_n (pc := 35) dX12_greatest_35 rfl rfl ?_
    cases hF
    exact g_iret (pc := 36) rfl (Nat.le_refl _) (Nat.le_refl _) dX12_greatest_36 ⟨rfl, rfl, rfl, rfl⟩
  clear hF
  have hC := am_loop (C := fun x => G am_sc0 l d 0 0 mX12_greatest (am_qi r N P I) 4 [.ref 55, .int x.1, .int x.2] [] N P I 0 0) (by
    rintro ⟨l1_1, l2_2⟩ rr hF ih_5 hE_6
    replace hF := am_u2_ap hF
    change G am_sc0 l d 0 0 mX12_greatest (am_qi r N P I) 4 [.ref 55, .int l1_1, .int l2_2] [] N P I 0 0
    refine g_iload_n (pc := 4) dX12_greatest_4 rfl rfl ?_
    refine g_aload_n (pc := 5) dX12_greatest_5 rfl rfl ?_
    refine g_getI (pc := 6) (k := 55) kf_X12_7.r rfl rfl (hPl.lt (by decide)) dX12_greatest_6 ?_
    refine g_icmp_ge (pc := 9) (tgt := 35) dX12_greatest_9 rfl (fun c_9 => ?_) (fun c_9 => ?_)
    · replace hF := am_yes c_9 hF
      cases hF
      cases hE_6 _ rfl
      exact g_weak hX_4 ⟨Or.inr rfl, Or.inr rfl, Or.inl rfl, trivial⟩
    · replace hF := am_no c_9 hF
      refine g_aload_n (pc := 12) dX12_greatest_12 rfl rfl ?_
      refine g_getR (pc := 13) (k := 55) (r := 84) kf_X12_104.r rfl rfl (hPl.get (by decide) rfl) (hPl.lt (by decide)) dX12_greatest_13 ?_
      refine g_iload_n (pc := 16) dX12_greatest_16 rfl rfl ?_
      obtain ⟨c_10, hF⟩ := am_gd hF
      refine g_iald (pc := 17) (k := 84) rfl (hPl.lt (by decide)) (am_ix_use c_10) dX12_greatest_17 ?_
      refine g_aload_n (pc := 18) dX12_greatest_18 rfl rfl ?_
      refine g_getR (pc := 19) (k := 55) (r := 84) kf_X12_104.r rfl rfl (hPl.get (by decide) rfl) (hPl.lt (by decide)) dX12_greatest_19 ?_
      refine g_iload_n (pc := 22) dX12_greatest_22 rfl rfl ?_
      obtain ⟨c_11, hF⟩ := am_gd hF
      refine g_iald (pc := 23) (k := 84) rfl (hPl.lt (by decide)) (am_ix_use c_11) dX12_greatest_23 ?_
      refine g_icmp_le (pc := 24) (tgt := 29) dX12_greatest_24 rfl (fun c_12 => ?_) (fun c_12 => ?_)
      · replace hF := am_yes c_12 hF
        obtain ⟨l2_13, e_l2_13, hF⟩ := am_let_el hF
        refine n_iinc (pc := 29) (ls2 := [.ref 55, .int l1_1, .int l2_13]) e_l2_13 rfl rfl rfl dX12_greatest_29 (Nat.le_of_ble_eq_true rfl) ?_
        refine g_goto (pc := 32) (tgt := 4) dX12_greatest_32 rfl ?_
        cases hF
        exact ih_5 (l1_1, l2_13) rfl
      · replace hF := am_no c_12 hF
        refine g_iload_n (pc := 27) dX12_greatest_27 rfl rfl ?_
        refine n_istore_n (pc := 28) (ls2 := [.ref 55, .int l2_2, .int l2_2]) rfl rfl dX12_greatest_28 rfl (Nat.le_of_ble_eq_true rfl) ?_
        obtain ⟨l2_14, e_l2_14, hF⟩ := am_let_el hF
        refine n_iinc (pc := 29) (ls2 := [.ref 55, .int l2_2, .int l2_14]) e_l2_14 rfl rfl rfl dX12_greatest_29 (Nat.le_of_ble_eq_true rfl) ?_
        refine g_goto (pc := 32) (tgt := 4) dX12_greatest_32 rfl ?_
        cases hF
        exact ih_5 (l2_2, l2_14) rfl
    ) _ _ hL_7
  exact hC
def F_X12_byScores_55 (I : am_IT) (a1 : Int32) (a2 : Int32) : Option (Int32 × am_IT) := am_b1 (am_it am_fu (am_u2 (fun (l3_1 : Int32) (I_2 : am_IT) => if (I_2 55 2) ≤ l3_1 then (some (.inr (I_2))) else (if am_ix l3_1 4 = true then (am_let (up2 I_2 84 l3_1.toNatClampNeg (0 : Int32)) (fun (I_11 : am_IT) => am_let (l3_1 + (1 : Int32)) (fun (l3_12 : Int32) => some (.inl (l3_12, I_11))))) else none))) ((0 : Int32), I)) (fun (I_3 : am_IT) => am_b1 (am_it am_fu (am_u2 (fun (l3_13 : Int32) (I_14 : am_IT) => if (I_14 55 5) ≤ l3_13 then (some (.inr (I_14))) else (if am_ix l3_13 7 = true then (if am_ix (((7 : Int32) * (I_14 57 l3_13.toNatClampNeg)) + a2) 56 = true then (am_let (I_14 83 (((7 : Int32) * (I_14 57 l3_13.toNatClampNeg)) + a2).toNatClampNeg) (fun (l4_24 : Int32) => if l4_24 = 0 then (am_let (l3_13 + (1 : Int32)) (fun (l3_59 : Int32) => some (.inl (l3_59, I_14)))) else (am_b1 (am_it am_fu (am_u2 (fun (l5_26 : Int32) (I_27 : am_IT) => if (I_27 55 2) ≤ l5_26 then (some (.inr (I_27))) else (am_b1 (F_X12_bestColourOf_55 I_27 l3_13) (fun (r_36 : Int32) => am_b1 (if l5_26 = r_36 then (some ((1 : Int32))) else (some ((0 : Int32)))) (fun (v_38 : Int32) => if a1 = (4 : Int32) then (if am_ix l5_26 4 = true then (am_b1 (F_X12_says_55 I_27 l3_13 l5_26) (fun (r_54 : Int32) => if am_ix l5_26 4 = true then (am_let (up2 I_27 84 l5_26.toNatClampNeg ((I_27 84 l5_26.toNatClampNeg) + (l4_24 * r_54))) (fun (I_56 : am_IT) => am_let (l5_26 + (1 : Int32)) (fun (l5_57 : Int32) => some (.inl (l5_57, I_56))))) else none)) else none) else (if v_38 = 0 then (am_let (l5_26 + (1 : Int32)) (fun (l5_43 : Int32) => some (.inl (l5_43, I_27)))) else (if am_ix l5_26 4 = true then (if a1 = (2 : Int32) then (if am_ix l5_26 4 = true then (am_let (up2 I_27 84 l5_26.toNatClampNeg ((I_27 84 l5_26.toNatClampNeg) + (1 : Int32))) (fun (I_50 : am_IT) => am_let (l5_26 + (1 : Int32)) (fun (l5_51 : Int32) => some (.inl (l5_51, I_50))))) else none) else (if am_ix l5_26 4 = true then (am_let (up2 I_27 84 l5_26.toNatClampNeg ((I_27 84 l5_26.toNatClampNeg) + l4_24)) (fun (I_47 : am_IT) => am_let (l5_26 + (1 : Int32)) (fun (l5_48 : Int32) => some (.inl (l5_48, I_47))))) else none)) else none))))))) ((0 : Int32), I_14)) (fun (I_28 : am_IT) => am_let (l3_13 + (1 : Int32)) (fun (l3_58 : Int32) => some (.inl (l3_58, I_28))))))) else none) else none))) ((0 : Int32), I_3)) (fun (I_15 : am_IT) => am_b1 (F_X12_greatest_55 I_15) (fun (r_61 : Int32) => some (r_61, I_15))))
set_option maxRecDepth 100000 in
set_option maxHeartbeats 4000000 in
theorem s_X12_byScores_55 {l : Launch} {d N : Nat} {P : am_PT} (hPl : am_Pl 94 N P) (hd : 3 ≤ d) {I : am_IT} {a1 : Int32} {a2 : Int32} {r : Int32} {I2 : am_IT} (hF : F_X12_byScores_55 I a1 a2 = some (r, I2)) : am_C l d 0 0 mX12_byScores [.ref 55, .int a1, .int a2] N P I (am_qi r N P I2) := by
  refine am_body (sc := am_sc0) (n := 4) (by decide +kernel) (by decide) rfl ?_
  change G am_sc0 l d 0 0 mX12_byScores (am_qi r N P I2) 0 [.ref 55, .int a1, .int a2, .null, .null, .null, .null] [] N P I 0 0
  unfold F_X12_byScores_55 at hF
  refine g_iconst (pc := 0) (v := (0 : Int32)) dX12_byScores_0 rfl ?_
  refine n_istore_n (pc := 1) (ls2 := [.ref 55, .int a1, .int a2, .int (0 : Int32), .null, .null, .null]) rfl rfl dX12_byScores_1 rfl (Nat.le_of_ble_eq_true rfl) ?_
  obtain ⟨I_3, hL_7, hF⟩ := am_b1_el hF
  have hX_4 : G am_sc0 l d 0 0 mX12_byScores (am_qi r N P I2) 23 [.ref 55, .int a1, .int a2, .null, .null, .null, .null] [] N P I_3 0 0 := by
    refine g_iconst (pc := 23) (v := (0 : Int32)) dX12_byScores_23 rfl ?_
    refine n_istore_n (pc := 24) (ls2 := [.ref 55, .int a1, .int a2, .int (0 : Int32), .null, .null, .null]) rfl rfl dX12_byScores_24 rfl (Nat.le_of_ble_eq_true rfl) ?_
    obtain ⟨I_15, hL_19, hF⟩ := am_b1_el hF
    have hX_16 : G am_sc0 l d 0 0 mX12_byScores (am_qi r N P I2) 164 [.ref 55, .int a1, .int a2, .null, .null, .null, .null] [] N P I_15 0 0 := by
      refine g_aload_n (pc := 164) dX12_byScores_164 rfl rfl ?_
      obtain ⟨r_61, h_60, hF⟩ := am_b1_el hF
      refine g_cVi (pc := 165) (k := 55) (As := []) (st := []) ky_X12_greatest kl_X12_301 (s_X12_greatest_55 (d := 1) (hPl) (Nat.le_refl _) h_60) rfl rfl rfl (hPl.lt (by decide)) (Nat.le_trans (by decide) hd) (Nat.le_of_ble_eq_true rfl) (Nat.le_refl _) (Nat.le_refl _) dX12_byScores_165 ?_
      cases hF
      exact g_iret (pc := 168) rfl (Nat.le_refl _) (Nat.le_refl _) dX12_byScores_168 ⟨rfl, rfl, rfl, rfl⟩
    clear hF
    have hC := am_loop (C := fun x => G am_sc0 l d 0 0 mX12_byScores (am_qi r N P I2) 25 [.ref 55, .int a1, .int a2, .int x.1, .null, .null, .null] [] N P x.2 0 0) (by
      rintro ⟨l3_13, I_14⟩ rr hF ih_17 hE_18
      replace hF := am_u2_ap hF
      change G am_sc0 l d 0 0 mX12_byScores (am_qi r N P I2) 25 [.ref 55, .int a1, .int a2, .int l3_13, .null, .null, .null] [] N P I_14 0 0
      refine g_iload_n (pc := 25) dX12_byScores_25 rfl rfl ?_
      refine g_aload_n (pc := 26) dX12_byScores_26 rfl rfl ?_
      refine g_getI (pc := 27) (k := 55) kf_X12_145.r rfl rfl (hPl.lt (by decide)) dX12_byScores_27 ?_
      refine g_icmp_ge (pc := 30) (tgt := 164) dX12_byScores_30 rfl (fun c_21 => ?_) (fun c_21 => ?_)
      · replace hF := am_yes c_21 hF
        cases hF
        cases hE_18 _ rfl
        exact g_weak hX_16 ⟨Or.inr rfl, Or.inr rfl, Or.inr rfl, Or.inl rfl, Or.inl rfl, Or.inl rfl, Or.inl rfl, trivial⟩
      · replace hF := am_no c_21 hF
        refine g_aload_n (pc := 33) dX12_byScores_33 rfl rfl ?_
        refine g_getR (pc := 34) (k := 55) (r := 83) kf_X12_98.r rfl rfl (hPl.get (by decide) rfl) (hPl.lt (by decide)) dX12_byScores_34 ?_
        refine g_bipush (pc := 37) (v := (7 : Int32)) dX12_byScores_37 rfl ?_
        refine g_aload_n (pc := 39) dX12_byScores_39 rfl rfl ?_
        refine g_getR (pc := 40) (k := 55) (r := 57) kf_X12_17.r rfl rfl (hPl.get (by decide) rfl) (hPl.lt (by decide)) dX12_byScores_40 ?_
        refine g_iload_n (pc := 43) dX12_byScores_43 rfl rfl ?_
        obtain ⟨c_22, hF⟩ := am_gd hF
        refine g_iald (pc := 44) (k := 57) rfl (hPl.lt (by decide)) (am_ix_use c_22) dX12_byScores_44 ?_
        refine g_imul (pc := 45) dX12_byScores_45 ?_
        refine g_iload_n (pc := 46) dX12_byScores_46 rfl rfl ?_
        refine g_iadd (pc := 47) dX12_byScores_47 ?_
        obtain ⟨c_23, hF⟩ := am_gd hF
        refine g_iald (pc := 48) (k := 83) rfl (hPl.lt (by decide)) (am_ix_use c_23) dX12_byScores_48 ?_
        obtain ⟨l4_24, e_l4_24, hF⟩ := am_let_el hF
        refine n_istore (pc := 49) (ls2 := [.ref 55, .int a1, .int a2, .int l3_13, .int l4_24, .null, .null]) e_l4_24 rfl dX12_byScores_49 (Nat.le_of_ble_eq_true rfl) ?_
        refine g_iload (pc := 51) dX12_byScores_51 rfl ?_
        refine g_if_ne (pc := 53) (tgt := 59) dX12_byScores_53 rfl (fun c_25 => ?_) (fun c_25 => ?_)
        · replace hF := am_no c_25 hF
          refine g_iconst (pc := 59) (v := (0 : Int32)) dX12_byScores_59 rfl ?_
          refine n_istore (pc := 60) (ls2 := [.ref 55, .int a1, .int a2, .int l3_13, .int l4_24, .int (0 : Int32), .null]) rfl rfl dX12_byScores_60 (Nat.le_of_ble_eq_true rfl) ?_
          obtain ⟨I_28, hL_32, hF⟩ := am_b1_el hF
          have hX_29 : G am_sc0 l d 0 0 mX12_byScores (am_qi r N P I2) 158 [.ref 55, .int a1, .int a2, .int l3_13, .int l4_24, .null, .null] [] N P I_28 0 0 := by
            obtain ⟨l3_58, e_l3_58, hF⟩ := am_let_el hF
            refine n_iinc (pc := 158) (ls2 := [.ref 55, .int a1, .int a2, .int l3_58, .int l4_24, .null, .null]) e_l3_58 rfl rfl rfl dX12_byScores_158 (Nat.le_of_ble_eq_true rfl) ?_
            refine g_goto (pc := 161) (tgt := 25) dX12_byScores_161 rfl ?_
            cases hF
            exact g_weak (ih_17 (l3_58, I_28) rfl) ⟨Or.inr rfl, Or.inr rfl, Or.inr rfl, Or.inr rfl, Or.inl rfl, Or.inl rfl, Or.inl rfl, trivial⟩
          clear hF
          have hC := am_loop (C := fun x => G am_sc0 l d 0 0 mX12_byScores (am_qi r N P I2) 62 [.ref 55, .int a1, .int a2, .int l3_13, .int l4_24, .int x.1, .null] [] N P x.2 0 0) (by
            rintro ⟨l5_26, I_27⟩ rr hF ih_30 hE_31
            replace hF := am_u2_ap hF
            change G am_sc0 l d 0 0 mX12_byScores (am_qi r N P I2) 62 [.ref 55, .int a1, .int a2, .int l3_13, .int l4_24, .int l5_26, .null] [] N P I_27 0 0
            refine g_iload (pc := 62) dX12_byScores_62 rfl ?_
            refine g_aload_n (pc := 64) dX12_byScores_64 rfl rfl ?_
            refine g_getI (pc := 65) (k := 55) kf_X12_7.r rfl rfl (hPl.lt (by decide)) dX12_byScores_65 ?_
            refine g_icmp_ge (pc := 68) (tgt := 158) dX12_byScores_68 rfl (fun c_34 => ?_) (fun c_34 => ?_)
            · replace hF := am_yes c_34 hF
              cases hF
              cases hE_31 _ rfl
              exact g_weak hX_29 ⟨Or.inr rfl, Or.inr rfl, Or.inr rfl, Or.inr rfl, Or.inr rfl, Or.inl rfl, Or.inl rfl, trivial⟩
            · replace hF := am_no c_34 hF
              refine g_iload (pc := 71) dX12_byScores_71 rfl ?_
              refine g_aload_n (pc := 73) dX12_byScores_73 rfl rfl ?_
              refine g_iload_n (pc := 74) dX12_byScores_74 rfl rfl ?_
              obtain ⟨r_36, h_35, hF⟩ := am_b1_el hF
              refine g_cVi (pc := 75) (k := 55) (As := [.int l3_13]) (st := [.int l5_26]) ky_X12_bestColourOf kl_X12_298 (s_X12_bestColourOf_55 (d := 2) (hPl) (Nat.le_refl _) h_35) rfl rfl rfl (hPl.lt (by decide)) (Nat.le_trans (by decide) hd) (Nat.le_of_ble_eq_true rfl) (Nat.le_refl _) (Nat.le_refl _) dX12_byScores_75 ?_
              obtain ⟨v_38, hR_39, hF⟩ := am_b1_el hF
              have hJ_40 : G am_sc0 l d 0 0 mX12_byScores (am_qi r N P I2) 86 [.ref 55, .int a1, .int a2, .int l3_13, .int l4_24, .int l5_26, .null] [.int v_38] N P I_27 0 0 := by
                refine n_istore (pc := 86) (ls2 := [.ref 55, .int a1, .int a2, .int l3_13, .int l4_24, .int l5_26, .int v_38]) rfl rfl dX12_byScores_86 (Nat.le_of_ble_eq_true rfl) ?_
                refine g_iload_n (pc := 88) dX12_byScores_88 rfl rfl ?_
                refine g_iconst (pc := 89) (v := (4 : Int32)) dX12_byScores_89 rfl ?_
                refine g_icmp_ne (pc := 90) (tgt := 121) dX12_byScores_90 rfl (fun c_41 => ?_) (fun c_41 => ?_)
                · replace hF := am_no c_41 hF
                  refine g_iload (pc := 121) dX12_byScores_121 rfl ?_
                  refine g_if_eq (pc := 123) (tgt := 152) dX12_byScores_123 rfl (fun c_42 => ?_) (fun c_42 => ?_)
                  · replace hF := am_yes c_42 hF
                    obtain ⟨l5_43, e_l5_43, hF⟩ := am_let_el hF
                    refine n_iinc (pc := 152) (ls2 := [.ref 55, .int a1, .int a2, .int l3_13, .int l4_24, .int l5_43, .int v_38]) e_l5_43 rfl rfl rfl dX12_byScores_152 (Nat.le_of_ble_eq_true rfl) ?_
                    refine g_goto (pc := 155) (tgt := 62) dX12_byScores_155 rfl ?_
                    cases hF
                    exact g_weak (ih_30 (l5_43, I_27) rfl) ⟨Or.inr rfl, Or.inr rfl, Or.inr rfl, Or.inr rfl, Or.inr rfl, Or.inr rfl, Or.inl rfl, trivial⟩
                  · replace hF := am_no c_42 hF
                    refine g_aload_n (pc := 126) dX12_byScores_126 rfl rfl ?_
                    refine g_getR (pc := 127) (k := 55) (r := 84) kf_X12_104.r rfl rfl (hPl.get (by decide) rfl) (hPl.lt (by decide)) dX12_byScores_127 ?_
                    refine g_iload (pc := 130) dX12_byScores_130 rfl ?_
                    refine g_aload_n (pc := 132) dX12_byScores_132 rfl rfl ?_
                    refine g_getR (pc := 133) (k := 55) (r := 84) kf_X12_104.r rfl rfl (hPl.get (by decide) rfl) (hPl.lt (by decide)) dX12_byScores_133 ?_
                    refine g_iload (pc := 136) dX12_byScores_136 rfl ?_
                    obtain ⟨c_44, hF⟩ := am_gd hF
                    refine g_iald (pc := 138) (k := 84) rfl (hPl.lt (by decide)) (am_ix_use c_44) dX12_byScores_138 ?_
                    refine g_iload_n (pc := 139) dX12_byScores_139 rfl rfl ?_
                    refine g_iconst (pc := 140) (v := (2 : Int32)) dX12_byScores_140 rfl ?_
                    refine g_icmp_ne (pc := 141) (tgt := 148) dX12_byScores_141 rfl (fun c_45 => ?_) (fun c_45 => ?_)
                    · replace hF := am_no c_45 hF
                      refine g_iload (pc := 148) dX12_byScores_148 rfl ?_
                      refine g_iadd (pc := 150) dX12_byScores_150 ?_
                      obtain ⟨c_46, hF⟩ := am_gd hF
                      obtain ⟨I_47, e_I_47, hF⟩ := am_let_el hF
                      refine n_iast (pc := 151) (k := 84) e_I_47 rfl (hPl.lt (by decide)) (am_ix_use c_46) dX12_byScores_151 ?_
                      obtain ⟨l5_48, e_l5_48, hF⟩ := am_let_el hF
                      refine n_iinc (pc := 152) (ls2 := [.ref 55, .int a1, .int a2, .int l3_13, .int l4_24, .int l5_48, .int v_38]) e_l5_48 rfl rfl rfl dX12_byScores_152 (Nat.le_of_ble_eq_true rfl) ?_
                      refine g_goto (pc := 155) (tgt := 62) dX12_byScores_155 rfl ?_
                      cases hF
                      exact g_weak (ih_30 (l5_48, I_47) rfl) ⟨Or.inr rfl, Or.inr rfl, Or.inr rfl, Or.inr rfl, Or.inr rfl, Or.inr rfl, Or.inl rfl, trivial⟩
                    · replace hF := am_yes c_45 hF
                      refine g_iconst (pc := 144) (v := (1 : Int32)) dX12_byScores_144 rfl ?_
                      refine g_goto (pc := 145) (tgt := 150) dX12_byScores_145 rfl ?_
                      refine g_iadd (pc := 150) dX12_byScores_150 ?_
                      obtain ⟨c_49, hF⟩ := am_gd hF
                      obtain ⟨I_50, e_I_50, hF⟩ := am_let_el hF
                      refine n_iast (pc := 151) (k := 84) e_I_50 rfl (hPl.lt (by decide)) (am_ix_use c_49) dX12_byScores_151 ?_
                      obtain ⟨l5_51, e_l5_51, hF⟩ := am_let_el hF
                      refine n_iinc (pc := 152) (ls2 := [.ref 55, .int a1, .int a2, .int l3_13, .int l4_24, .int l5_51, .int v_38]) e_l5_51 rfl rfl rfl dX12_byScores_152 (Nat.le_of_ble_eq_true rfl) ?_
                      refine g_goto (pc := 155) (tgt := 62) dX12_byScores_155 rfl ?_
                      cases hF
                      exact g_weak (ih_30 (l5_51, I_50) rfl) ⟨Or.inr rfl, Or.inr rfl, Or.inr rfl, Or.inr rfl, Or.inr rfl, Or.inr rfl, Or.inl rfl, trivial⟩
                · replace hF := am_yes c_41 hF
                  refine g_aload_n (pc := 93) dX12_byScores_93 rfl rfl ?_
                  refine g_getR (pc := 94) (k := 55) (r := 84) kf_X12_104.r rfl rfl (hPl.get (by decide) rfl) (hPl.lt (by decide)) dX12_byScores_94 ?_
                  refine g_iload (pc := 97) dX12_byScores_97 rfl ?_
                  refine g_aload_n (pc := 99) dX12_byScores_99 rfl rfl ?_
                  refine g_getR (pc := 100) (k := 55) (r := 84) kf_X12_104.r rfl rfl (hPl.get (by decide) rfl) (hPl.lt (by decide)) dX12_byScores_100 ?_
                  refine g_iload (pc := 103) dX12_byScores_103 rfl ?_
                  obtain ⟨c_52, hF⟩ := am_gd hF
                  refine g_iald (pc := 105) (k := 84) rfl (hPl.lt (by decide)) (am_ix_use c_52) dX12_byScores_105 ?_
                  refine g_iload (pc := 106) dX12_byScores_106 rfl ?_
                  refine g_aload_n (pc := 108) dX12_byScores_108 rfl rfl ?_
                  refine g_iload_n (pc := 109) dX12_byScores_109 rfl rfl ?_
                  refine g_iload (pc := 110) dX12_byScores_110 rfl ?_
                  obtain ⟨r_54, h_53, hF⟩ := am_b1_el hF
                  refine g_cVi (pc := 112) (k := 55) (As := [.int l3_13, .int l5_26]) (st := [.int l4_24, .int (I_27 84 l5_26.toNatClampNeg), .int l5_26, .ref 84]) ky_X12_says kl_X12_295 (s_X12_says_55 (d := 1) (hPl) (Nat.le_refl _) h_53) rfl rfl rfl (hPl.lt (by decide)) (Nat.le_trans (by decide) hd) (Nat.le_of_ble_eq_true rfl) (Nat.le_refl _) (Nat.le_refl _) dX12_byScores_112 ?_
                  refine g_imul (pc := 115) dX12_byScores_115 ?_
                  refine g_iadd (pc := 116) dX12_byScores_116 ?_
                  obtain ⟨c_55, hF⟩ := am_gd hF
                  obtain ⟨I_56, e_I_56, hF⟩ := am_let_el hF
                  refine n_iast (pc := 117) (k := 84) e_I_56 rfl (hPl.lt (by decide)) (am_ix_use c_55) dX12_byScores_117 ?_
                  refine g_goto (pc := 118) (tgt := 152) dX12_byScores_118 rfl ?_
                  obtain ⟨l5_57, e_l5_57, hF⟩ := am_let_el hF
                  refine n_iinc (pc := 152) (ls2 := [.ref 55, .int a1, .int a2, .int l3_13, .int l4_24, .int l5_57, .int v_38]) e_l5_57 rfl rfl rfl dX12_byScores_152 (Nat.le_of_ble_eq_true rfl) ?_
                  refine g_goto (pc := 155) (tgt := 62) dX12_byScores_155 rfl ?_
                  cases hF
                  exact g_weak (ih_30 (l5_57, I_56) rfl) ⟨Or.inr rfl, Or.inr rfl, Or.inr rfl, Or.inr rfl, Or.inr rfl, Or.inr rfl, Or.inl rfl, trivial⟩
              clear hF
              have hF := hR_39
              clear hR_39
              refine g_icmp_ne (pc := 78) (tgt := 85) dX12_byScores_78 rfl (fun c_37 => ?_) (fun c_37 => ?_)
              · replace hF := am_no c_37 hF
                refine g_iconst (pc := 85) (v := (0 : Int32)) dX12_byScores_85 rfl ?_
                cases hF
                exact hJ_40
              · replace hF := am_yes c_37 hF
                refine g_iconst (pc := 81) (v := (1 : Int32)) dX12_byScores_81 rfl ?_
                refine g_goto (pc := 82) (tgt := 86) dX12_byScores_82 rfl ?_
                cases hF
                exact hJ_40
            ) _ _ hL_32
          exact hC
        · replace hF := am_yes c_25 hF
          refine g_goto (pc := 56) (tgt := 158) dX12_byScores_56 rfl ?_
          obtain ⟨l3_59, e_l3_59, hF⟩ := am_let_el hF
          refine n_iinc (pc := 158) (ls2 := [.ref 55, .int a1, .int a2, .int l3_59, .int l4_24, .null, .null]) e_l3_59 rfl rfl rfl dX12_byScores_158 (Nat.le_of_ble_eq_true rfl) ?_
          refine g_goto (pc := 161) (tgt := 25) dX12_byScores_161 rfl ?_
          cases hF
          exact g_weak (ih_17 (l3_59, I_14) rfl) ⟨Or.inr rfl, Or.inr rfl, Or.inr rfl, Or.inr rfl, Or.inl rfl, Or.inl rfl, Or.inl rfl, trivial⟩
      ) _ _ hL_19
    exact hC
  clear hF
  have hC := am_loop (C := fun x => G am_sc0 l d 0 0 mX12_byScores (am_qi r N P I2) 2 [.ref 55, .int a1, .int a2, .int x.1, .null, .null, .null] [] N P x.2 0 0) (by
    rintro ⟨l3_1, I_2⟩ rr hF ih_5 hE_6
    replace hF := am_u2_ap hF
    change G am_sc0 l d 0 0 mX12_byScores (am_qi r N P I2) 2 [.ref 55, .int a1, .int a2, .int l3_1, .null, .null, .null] [] N P I_2 0 0
    refine g_iload_n (pc := 2) dX12_byScores_2 rfl rfl ?_
    refine g_aload_n (pc := 3) dX12_byScores_3 rfl rfl ?_
    refine g_getI (pc := 4) (k := 55) kf_X12_7.r rfl rfl (hPl.lt (by decide)) dX12_byScores_4 ?_
    refine g_icmp_ge (pc := 7) (tgt := 23) dX12_byScores_7 rfl (fun c_9 => ?_) (fun c_9 => ?_)
    · replace hF := am_yes c_9 hF
      cases hF
      cases hE_6 _ rfl
      exact g_weak hX_4 ⟨Or.inr rfl, Or.inr rfl, Or.inr rfl, Or.inl rfl, Or.inl rfl, Or.inl rfl, Or.inl rfl, trivial⟩
    · replace hF := am_no c_9 hF
      refine g_aload_n (pc := 10) dX12_byScores_10 rfl rfl ?_
      refine g_getR (pc := 11) (k := 55) (r := 84) kf_X12_104.r rfl rfl (hPl.get (by decide) rfl) (hPl.lt (by decide)) dX12_byScores_11 ?_
      refine g_iload_n (pc := 14) dX12_byScores_14 rfl rfl ?_
      refine g_iconst (pc := 15) (v := (0 : Int32)) dX12_byScores_15 rfl ?_
      obtain ⟨c_10, hF⟩ := am_gd hF
      obtain ⟨I_11, e_I_11, hF⟩ := am_let_el hF
      refine n_iast (pc := 16) (k := 84) e_I_11 rfl (hPl.lt (by decide)) (am_ix_use c_10) dX12_byScores_16 ?_
      obtain ⟨l3_12, e_l3_12, hF⟩ := am_let_el hF
      refine n_iinc (pc := 17) (ls2 := [.ref 55, .int a1, .int a2, .int l3_12, .null, .null, .null]) e_l3_12 rfl rfl rfl dX12_byScores_17 (Nat.le_of_ble_eq_true rfl) ?_
      refine g_goto (pc := 20) (tgt := 2) dX12_byScores_20 rfl ?_
      cases hF
      exact ih_5 (l3_12, I_11) rfl
    ) _ _ hL_7
  exact hC
def F_X12_methodFor_55 (I : am_IT) (a1 : Int32) (a2 : Int32) (a3 : Int32) (a4 : Int32) : Option (Int32 × am_IT) := if am_ix (0 : Int32) 6 = true then (am_let (up2 I 81 (0 : Int32).toNatClampNeg a1) (fun (I_2 : am_IT) => if am_ix (1 : Int32) 6 = true then (am_let (up2 I_2 81 (1 : Int32).toNatClampNeg a2) (fun (I_4 : am_IT) => if am_ix (2 : Int32) 6 = true then (am_let (up2 I_4 81 (2 : Int32).toNatClampNeg a3) (fun (I_6 : am_IT) => if am_ix (3 : Int32) 6 = true then (am_let (up2 I_6 81 (3 : Int32).toNatClampNeg a4) (fun (I_8 : am_IT) => if am_ix ((0 : Int32) + a1) 35 = true then (if am_ix (4 : Int32) 6 = true then (am_let (up2 I_8 81 (4 : Int32).toNatClampNeg (I_8 72 ((0 : Int32) + a1).toNatClampNeg)) (fun (I_11 : am_IT) => if am_ix (5 : Int32) 6 = true then (am_let (up2 I_11 81 (5 : Int32).toNatClampNeg (I_11 55 13)) (fun (I_13 : am_IT) => am_lr (am_it am_fu (am_u2 (fun (l5_14 : Int32) (I_15 : am_IT) => if (I_15 55 32) ≤ l5_14 then (some (.inr (.inl (I_15)))) else (am_b2 (F_X12_isSo_55 I_15 (0 : Int32) l5_14) (fun (r_24 : Int32) (I_25 : am_IT) => if r_24 = 0 then (am_let (l5_14 + (1 : Int32)) (fun (l5_28 : Int32) => some (.inl (l5_28, I_25)))) else (if am_ix l5_14 32 = true then (some (.inr (.inr (I_25 75 l5_14.toNatClampNeg, I_25)))) else none))))) ((0 : Int32), I_13)) (fun (I_16 : am_IT) => some ((6 : Int32), I_16)))) else none)) else none) else none)) else none)) else none)) else none)) else none
set_option maxRecDepth 100000 in
set_option maxHeartbeats 4000000 in
theorem s_X12_methodFor_55 {l : Launch} {d N : Nat} {P : am_PT} (hPl : am_Pl 94 N P) (hd : 3 ≤ d) {I : am_IT} {a1 : Int32} {a2 : Int32} {a3 : Int32} {a4 : Int32} {r : Int32} {I2 : am_IT} (hF : F_X12_methodFor_55 I a1 a2 a3 a4 = some (r, I2)) : am_C l d 0 0 mX12_methodFor [.ref 55, .int a1, .int a2, .int a3, .int a4] N P I (am_qi r N P I2) := by
  refine am_body (sc := am_sc0) (n := 1) (by decide +kernel) (by decide) rfl ?_
  change G am_sc0 l d 0 0 mX12_methodFor (am_qi r N P I2) 0 [.ref 55, .int a1, .int a2, .int a3, .int a4, .null] [] N P I 0 0
  unfold F_X12_methodFor_55 at hF
  refine g_aload_n (pc := 0) dX12_methodFor_0 rfl rfl ?_
  refine g_getR (pc := 1) (k := 55) (r := 81) kf_X12_92.r rfl rfl (hPl.get (by decide) rfl) (hPl.lt (by decide)) dX12_methodFor_1 ?_
  refine g_iconst (pc := 4) (v := (0 : Int32)) dX12_methodFor_4 rfl ?_
  refine g_iload_n (pc := 5) dX12_methodFor_5 rfl rfl ?_
  obtain ⟨c_1, hF⟩ := am_gd hF
  obtain ⟨I_2, e_I_2, hF⟩ := am_let_el hF
  refine n_iast (pc := 6) (k := 81) e_I_2 rfl (hPl.lt (by decide)) (am_ix_use c_1) dX12_methodFor_6 ?_
  refine g_aload_n (pc := 7) dX12_methodFor_7 rfl rfl ?_
  refine g_getR (pc := 8) (k := 55) (r := 81) kf_X12_92.r rfl rfl (hPl.get (by decide) rfl) (hPl.lt (by decide)) dX12_methodFor_8 ?_
  refine g_iconst (pc := 11) (v := (1 : Int32)) dX12_methodFor_11 rfl ?_
  refine g_iload_n (pc := 12) dX12_methodFor_12 rfl rfl ?_
  obtain ⟨c_3, hF⟩ := am_gd hF
  obtain ⟨I_4, e_I_4, hF⟩ := am_let_el hF
  refine n_iast (pc := 13) (k := 81) e_I_4 rfl (hPl.lt (by decide)) (am_ix_use c_3) dX12_methodFor_13 ?_
  refine g_aload_n (pc := 14) dX12_methodFor_14 rfl rfl ?_
  refine g_getR (pc := 15) (k := 55) (r := 81) kf_X12_92.r rfl rfl (hPl.get (by decide) rfl) (hPl.lt (by decide)) dX12_methodFor_15 ?_
  refine g_iconst (pc := 18) (v := (2 : Int32)) dX12_methodFor_18 rfl ?_
  refine g_iload_n (pc := 19) dX12_methodFor_19 rfl rfl ?_
  obtain ⟨c_5, hF⟩ := am_gd hF
  obtain ⟨I_6, e_I_6, hF⟩ := am_let_el hF
  refine n_iast (pc := 20) (k := 81) e_I_6 rfl (hPl.lt (by decide)) (am_ix_use c_5) dX12_methodFor_20 ?_
  refine g_aload_n (pc := 21) dX12_methodFor_21 rfl rfl ?_
  refine g_getR (pc := 22) (k := 55) (r := 81) kf_X12_92.r rfl rfl (hPl.get (by decide) rfl) (hPl.lt (by decide)) dX12_methodFor_22 ?_
  refine g_iconst (pc := 25) (v := (3 : Int32)) dX12_methodFor_25 rfl ?_
  refine g_iload (pc := 26) dX12_methodFor_26 rfl ?_
  obtain ⟨c_7, hF⟩ := am_gd hF
  obtain ⟨I_8, e_I_8, hF⟩ := am_let_el hF
  refine n_iast (pc := 28) (k := 81) e_I_8 rfl (hPl.lt (by decide)) (am_ix_use c_7) dX12_methodFor_28 ?_
  refine g_aload_n (pc := 29) dX12_methodFor_29 rfl rfl ?_
  refine g_getR (pc := 30) (k := 55) (r := 81) kf_X12_92.r rfl rfl (hPl.get (by decide) rfl) (hPl.lt (by decide)) dX12_methodFor_30 ?_
  refine g_iconst (pc := 33) (v := (4 : Int32)) dX12_methodFor_33 rfl ?_
  refine g_aload_n (pc := 34) dX12_methodFor_34 rfl rfl ?_
  refine g_getR (pc := 35) (k := 55) (r := 72) kf_X12_62.r rfl rfl (hPl.get (by decide) rfl) (hPl.lt (by decide)) dX12_methodFor_35 ?_
  refine g_iconst (pc := 38) (v := (0 : Int32)) dX12_methodFor_38 rfl ?_
  refine g_iload_n (pc := 39) dX12_methodFor_39 rfl rfl ?_
  refine g_iadd (pc := 40) dX12_methodFor_40 ?_
  obtain ⟨c_9, hF⟩ := am_gd hF
  refine g_iald (pc := 41) (k := 72) rfl (hPl.lt (by decide)) (am_ix_use c_9) dX12_methodFor_41 ?_
  obtain ⟨c_10, hF⟩ := am_gd hF
  obtain ⟨I_11, e_I_11, hF⟩ := am_let_el hF
  refine n_iast (pc := 42) (k := 81) e_I_11 rfl (hPl.lt (by decide)) (am_ix_use c_10) dX12_methodFor_42 ?_
  refine g_aload_n (pc := 43) dX12_methodFor_43 rfl rfl ?_
  refine g_getR (pc := 44) (k := 55) (r := 81) kf_X12_92.r rfl rfl (hPl.get (by decide) rfl) (hPl.lt (by decide)) dX12_methodFor_44 ?_
  refine g_iconst (pc := 47) (v := (5 : Int32)) dX12_methodFor_47 rfl ?_
  refine g_aload_n (pc := 48) dX12_methodFor_48 rfl rfl ?_
  refine g_getI (pc := 49) (k := 55) kf_X12_155.r rfl rfl (hPl.lt (by decide)) dX12_methodFor_49 ?_
  obtain ⟨c_12, hF⟩ := am_gd hF
  obtain ⟨I_13, e_I_13, hF⟩ := am_let_el hF
  refine n_iast (pc := 52) (k := 81) e_I_13 rfl (hPl.lt (by decide)) (am_ix_use c_12) dX12_methodFor_52 ?_
  refine g_iconst (pc := 53) (v := (0 : Int32)) dX12_methodFor_53 rfl ?_
  refine n_istore (pc := 54) (ls2 := [.ref 55, .int a1, .int a2, .int a3, .int a4, .int (0 : Int32)]) rfl rfl dX12_methodFor_54 (Nat.le_of_ble_eq_true rfl) ?_
  obtain ⟨x_31, hL_20, hF⟩ := am_lr_el hF
  have hX_17 : ∀ (I_16 : am_IT), x_31 = .inl I_16 → G am_sc0 l d 0 0 mX12_methodFor (am_qi r N P I2) 89 [.ref 55, .int a1, .int a2, .int a3, .int a4, .null] [] N P I_16 0 0 := by
    intro I_16 q
    subst q
    refine g_bipush (pc := 89) (v := (6 : Int32)) dX12_methodFor_89 rfl ?_
    cases hF
    exact g_iret (pc := 91) rfl (Nat.le_refl _) (Nat.le_refl _) dX12_methodFor_91 ⟨rfl, rfl, rfl, rfl⟩
  have hZ_21 : ∀ y, x_31 = .inr y → y = _ := fun y q => by subst q; exact hF
  clear hF
  have hC := am_loop (C := fun x => G am_sc0 l d 0 0 mX12_methodFor (am_qi r N P I2) 56 [.ref 55, .int a1, .int a2, .int a3, .int a4, .int x.1] [] N P x.2 0 0) (by
    rintro ⟨l5_14, I_15⟩ rr hF ih_18 hE_19
    replace hF := am_u2_ap hF
    change G am_sc0 l d 0 0 mX12_methodFor (am_qi r N P I2) 56 [.ref 55, .int a1, .int a2, .int a3, .int a4, .int l5_14] [] N P I_15 0 0
    refine g_iload (pc := 56) dX12_methodFor_56 rfl ?_
    refine g_aload_n (pc := 58) dX12_methodFor_58 rfl rfl ?_
    refine g_getI (pc := 59) (k := 55) kf_X12_161.r rfl rfl (hPl.lt (by decide)) dX12_methodFor_59 ?_
    refine g_icmp_ge (pc := 62) (tgt := 89) dX12_methodFor_62 rfl (fun c_22 => ?_) (fun c_22 => ?_)
    · replace hF := am_yes c_22 hF
      cases hF
      exact g_weak (hX_17 _ (hE_19 _ rfl).symm) ⟨Or.inr rfl, Or.inr rfl, Or.inr rfl, Or.inr rfl, Or.inr rfl, Or.inl rfl, trivial⟩
    · replace hF := am_no c_22 hF
      refine g_aload_n (pc := 65) dX12_methodFor_65 rfl rfl ?_
      refine g_iconst (pc := 66) (v := (0 : Int32)) dX12_methodFor_66 rfl ?_
      refine g_iload (pc := 67) dX12_methodFor_67 rfl ?_
      obtain ⟨r_24, I_25, h_23, hF⟩ := am_b2_el hF
      refine g_cVz (pc := 69) (k := 55) (As := [.int (0 : Int32), .int l5_14]) (st := []) ky_X12_isSo kl_X12_304 (s_X12_isSo_55 (d := 2) (hPl) (Nat.le_refl _) h_23) rfl rfl rfl (hPl.lt (by decide)) (Nat.le_trans (by decide) hd) (Nat.le_of_ble_eq_true rfl) (Nat.le_refl _) (Nat.le_refl _) dX12_methodFor_69 ?_
      intro z_26
      refine g_if_eq (pc := 72) (tgt := 83) dX12_methodFor_72 rfl (fun c_27 => ?_) (fun c_27 => ?_)
      · replace hF := am_yes c_27 hF
        obtain ⟨l5_28, e_l5_28, hF⟩ := am_let_el hF
        refine n_iinc (pc := 83) (ls2 := [.ref 55, .int a1, .int a2, .int a3, .int a4, .int l5_28]) e_l5_28 rfl rfl rfl dX12_methodFor_83 (Nat.le_of_ble_eq_true rfl) ?_
        refine g_goto (pc := 86) (tgt := 56) dX12_methodFor_86 rfl ?_
        cases hF
        exact ih_18 (l5_28, I_25) rfl
      · replace hF := am_no c_27 hF
        refine g_aload_n (pc := 75) dX12_methodFor_75 rfl rfl ?_
        refine g_getR (pc := 76) (k := 55) (r := 75) kf_X12_71.r rfl rfl (hPl.get (by decide) rfl) (hPl.lt (by decide)) dX12_methodFor_76 ?_
        refine g_iload (pc := 79) dX12_methodFor_79 rfl ?_
        obtain ⟨c_29, hF⟩ := am_gd hF
        refine g_iald (pc := 81) (k := 75) rfl (hPl.lt (by decide)) (am_ix_use c_29) dX12_methodFor_81 ?_
        cases hF
        have q_30 := hZ_21 _ (hE_19 _ rfl).symm
        cases q_30
        exact g_iret (pc := 82) rfl (Nat.le_refl _) (Nat.le_refl _) dX12_methodFor_82 ⟨rfl, rfl, rfl, rfl⟩
    ) _ _ hL_20
  exact hC
def F_X12_judgedColour_55 (I : am_IT) (a1 : Int32) : Option (Int32 × am_IT) := am_b4 (am_it am_fu (am_u5 (fun (l2_1 : Int32) (l3_2 : Int32) (l4_3 : Int32) (l5_4 : Int32) (l6_5 : Int32) => if (I 55 5) ≤ l6_5 then (some (.inr (l2_1, l3_2, l4_3, l5_4))) else (if am_ix l6_5 7 = true then (if am_ix (((7 : Int32) * (I 57 l6_5.toNatClampNeg)) + a1) 56 = true then (am_let (I 83 (((7 : Int32) * (I 57 l6_5.toNatClampNeg)) + a1).toNatClampNeg) (fun (l7_18 : Int32) => if l7_18 = 0 then (am_let (l6_5 + (1 : Int32)) (fun (l6_29 : Int32) => some (.inl (l2_1, l3_2, l4_3, l5_4, l6_29)))) else (am_let (l2_1 + (1 : Int32)) (fun (l2_20 : Int32) => am_let (l3_2 + l7_18) (fun (l3_21 : Int32) => am_b1 (if l7_18 ≤ l5_4 then (some (l4_3)) else (some (l6_5))) (fun (l4_23 : Int32) => if l7_18 ≤ l5_4 then (am_let (l6_5 + (1 : Int32)) (fun (l6_27 : Int32) => some (.inl (l2_20, l3_21, l4_23, l5_4, l6_27)))) else (am_let (l6_5 + (1 : Int32)) (fun (l6_28 : Int32) => some (.inl (l2_20, l3_21, l4_23, l7_18, l6_28)))))))))) else none) else none))) ((0 : Int32), (0 : Int32), (-1 : Int32), (0 : Int32), (0 : Int32))) (fun (l2_6 : Int32) (l3_7 : Int32) (l4_8 : Int32) (l5_9 : Int32) => if l2_6 = 0 then (if am_ix ((0 : Int32) + a1) 35 = true then (some (I 72 ((0 : Int32) + a1).toNatClampNeg, I)) else none) else (am_b2 (F_X12_methodFor_55 I a1 l2_6 l3_7 l5_9) (fun (r_32 : Int32) (I_33 : am_IT) => if r_32 = (6 : Int32) then (if am_ix ((0 : Int32) + a1) 35 = true then (some (I_33 72 ((0 : Int32) + a1).toNatClampNeg, I_33)) else none) else (if r_32 = (1 : Int32) then (am_b1 (F_X12_bestColourOf_55 I_33 l4_8) (fun (r_49 : Int32) => some (r_49, I_33))) else (if r_32 = (5 : Int32) then (if ¬ (I_33 55 5) = (0 : Int32) then (am_let (((I_33 55 13) + a1) - ((I_33 55 13) + a1) / (I_33 55 5) * (I_33 55 5)) (fun (l7_38 : Int32) => if am_ix l7_38 7 = true then (if am_ix (((7 : Int32) * (I_33 57 l7_38.toNatClampNeg)) + a1) 56 = true then (if (I_33 83 (((7 : Int32) * (I_33 57 l7_38.toNatClampNeg)) + a1).toNatClampNeg) ≤ 0 then (if am_ix ((0 : Int32) + a1) 35 = true then (some (I_33 72 ((0 : Int32) + a1).toNatClampNeg, I_33)) else none) else (am_b1 (F_X12_bestColourOf_55 I_33 l7_38) (fun (r_44 : Int32) => some (r_44, I_33)))) else none) else none)) else none) else (am_b2 (F_X12_byScores_55 I_33 r_32 a1) (fun (r_46 : Int32) (I_47 : am_IT) => some (r_46, I_47))))))))
set_option maxRecDepth 100000 in
set_option maxHeartbeats 4000000 in
theorem s_X12_judgedColour_55 {l : Launch} {d N : Nat} {P : am_PT} (hPl : am_Pl 94 N P) (hd : 4 ≤ d) {I : am_IT} {a1 : Int32} {r : Int32} {I2 : am_IT} (hF : F_X12_judgedColour_55 I a1 = some (r, I2)) : am_C l d 0 0 mX12_judgedColour [.ref 55, .int a1] N P I (am_qi r N P I2) := by
  refine am_body (sc := am_sc0) (n := 6) (by decide +kernel) (by decide) rfl ?_
  change G am_sc0 l d 0 0 mX12_judgedColour (am_qi r N P I2) 0 [.ref 55, .int a1, .null, .null, .null, .null, .null, .null] [] N P I 0 0
  unfold F_X12_judgedColour_55 at hF
  refine g_iconst (pc := 0) (v := (0 : Int32)) dX12_judgedColour_0 rfl ?_
  refine n_istore_n (pc := 1) (ls2 := [.ref 55, .int a1, .int (0 : Int32), .null, .null, .null, .null, .null]) rfl rfl dX12_judgedColour_1 rfl (Nat.le_of_ble_eq_true rfl) ?_
  refine g_iconst (pc := 2) (v := (0 : Int32)) dX12_judgedColour_2 rfl ?_
  refine n_istore_n (pc := 3) (ls2 := [.ref 55, .int a1, .int (0 : Int32), .int (0 : Int32), .null, .null, .null, .null]) rfl rfl dX12_judgedColour_3 rfl (Nat.le_of_ble_eq_true rfl) ?_
  refine g_iconst (pc := 4) (v := (-1 : Int32)) dX12_judgedColour_4 (by decide) ?_
  refine n_istore (pc := 5) (ls2 := [.ref 55, .int a1, .int (0 : Int32), .int (0 : Int32), .int (-1 : Int32), .null, .null, .null]) rfl rfl dX12_judgedColour_5 (Nat.le_of_ble_eq_true rfl) ?_
  refine g_iconst (pc := 7) (v := (0 : Int32)) dX12_judgedColour_7 rfl ?_
  refine n_istore (pc := 8) (ls2 := [.ref 55, .int a1, .int (0 : Int32), .int (0 : Int32), .int (-1 : Int32), .int (0 : Int32), .null, .null]) rfl rfl dX12_judgedColour_8 (Nat.le_of_ble_eq_true rfl) ?_
  refine g_iconst (pc := 10) (v := (0 : Int32)) dX12_judgedColour_10 rfl ?_
  refine n_istore (pc := 11) (ls2 := [.ref 55, .int a1, .int (0 : Int32), .int (0 : Int32), .int (-1 : Int32), .int (0 : Int32), .int (0 : Int32), .null]) rfl rfl dX12_judgedColour_11 (Nat.le_of_ble_eq_true rfl) ?_
  obtain ⟨l2_6, l3_7, l4_8, l5_9, hL_13, hF⟩ := am_b4_el hF
  have hX_10 : G am_sc0 l d 0 0 mX12_judgedColour (am_qi r N P I2) 91 [.ref 55, .int a1, .int l2_6, .int l3_7, .int l4_8, .int l5_9, .null, .null] [] N P I 0 0 := by
    refine g_iload_n (pc := 91) dX12_judgedColour_91 rfl rfl ?_
    refine g_if_ne (pc := 92) (tgt := 104) dX12_judgedColour_92 rfl (fun c_30 => ?_) (fun c_30 => ?_)
    · replace hF := am_no c_30 hF
      refine g_aload_n (pc := 104) dX12_judgedColour_104 rfl rfl ?_
      refine g_iload_n (pc := 105) dX12_judgedColour_105 rfl rfl ?_
      refine g_iload_n (pc := 106) dX12_judgedColour_106 rfl rfl ?_
      refine g_iload_n (pc := 107) dX12_judgedColour_107 rfl rfl ?_
      refine g_iload (pc := 108) dX12_judgedColour_108 rfl ?_
      obtain ⟨r_32, I_33, h_31, hF⟩ := am_b2_el hF
      refine g_cVi (pc := 110) (k := 55) (As := [.int a1, .int l2_6, .int l3_7, .int l5_9]) (st := []) ky_X12_methodFor kl_X12_308 (s_X12_methodFor_55 (d := 3) (hPl) (Nat.le_refl _) h_31) rfl rfl rfl (hPl.lt (by decide)) (Nat.le_trans (by decide) hd) (Nat.le_of_ble_eq_true rfl) (Nat.le_refl _) (Nat.le_refl _) dX12_judgedColour_110 ?_
      refine n_istore (pc := 113) (ls2 := [.ref 55, .int a1, .int l2_6, .int l3_7, .int l4_8, .int l5_9, .int r_32, .null]) rfl rfl dX12_judgedColour_113 (Nat.le_of_ble_eq_true rfl) ?_
      refine g_iload (pc := 115) dX12_judgedColour_115 rfl ?_
      refine g_bipush (pc := 117) (v := (6 : Int32)) dX12_judgedColour_117 rfl ?_
      refine g_icmp_ne (pc := 119) (tgt := 131) dX12_judgedColour_119 rfl (fun c_34 => ?_) (fun c_34 => ?_)
      · replace hF := am_no c_34 hF
        refine g_iload (pc := 131) dX12_judgedColour_131 rfl ?_
        refine g_iconst (pc := 133) (v := (1 : Int32)) dX12_judgedColour_133 rfl ?_
        refine g_icmp_ne (pc := 134) (tgt := 144) dX12_judgedColour_134 rfl (fun c_35 => ?_) (fun c_35 => ?_)
        · replace hF := am_no c_35 hF
          refine g_iload (pc := 144) dX12_judgedColour_144 rfl ?_
          refine g_iconst (pc := 146) (v := (5 : Int32)) dX12_judgedColour_146 rfl ?_
          refine g_icmp_eq (pc := 147) (tgt := 158) dX12_judgedColour_147 rfl (fun c_36 => ?_) (fun c_36 => ?_)
          · replace hF := am_yes c_36 hF
            refine g_aload_n (pc := 158) dX12_judgedColour_158 rfl rfl ?_
            refine g_getI (pc := 159) (k := 55) kf_X12_155.r rfl rfl (hPl.lt (by decide)) dX12_judgedColour_159 ?_
            refine g_iload_n (pc := 162) dX12_judgedColour_162 rfl rfl ?_
            refine g_iadd (pc := 163) dX12_judgedColour_163 ?_
            refine g_aload_n (pc := 164) dX12_judgedColour_164 rfl rfl ?_
            refine g_getI (pc := 165) (k := 55) kf_X12_145.r rfl rfl (hPl.lt (by decide)) dX12_judgedColour_165 ?_
            obtain ⟨c_37, hF⟩ := am_gd hF
            refine g_irem (pc := 168) dX12_judgedColour_168 c_37 ?_
            obtain ⟨l7_38, e_l7_38, hF⟩ := am_let_el hF
            refine n_istore (pc := 169) (ls2 := [.ref 55, .int a1, .int l2_6, .int l3_7, .int l4_8, .int l5_9, .int r_32, .int l7_38]) e_l7_38 rfl dX12_judgedColour_169 (Nat.le_of_ble_eq_true rfl) ?_
            refine g_aload_n (pc := 171) dX12_judgedColour_171 rfl rfl ?_
            refine g_getR (pc := 172) (k := 55) (r := 83) kf_X12_98.r rfl rfl (hPl.get (by decide) rfl) (hPl.lt (by decide)) dX12_judgedColour_172 ?_
            refine g_bipush (pc := 175) (v := (7 : Int32)) dX12_judgedColour_175 rfl ?_
            refine g_aload_n (pc := 177) dX12_judgedColour_177 rfl rfl ?_
            refine g_getR (pc := 178) (k := 55) (r := 57) kf_X12_17.r rfl rfl (hPl.get (by decide) rfl) (hPl.lt (by decide)) dX12_judgedColour_178 ?_
            refine g_iload (pc := 181) dX12_judgedColour_181 rfl ?_
            obtain ⟨c_39, hF⟩ := am_gd hF
            refine g_iald (pc := 183) (k := 57) rfl (hPl.lt (by decide)) (am_ix_use c_39) dX12_judgedColour_183 ?_
            refine g_imul (pc := 184) dX12_judgedColour_184 ?_
            refine g_iload_n (pc := 185) dX12_judgedColour_185 rfl rfl ?_
            refine g_iadd (pc := 186) dX12_judgedColour_186 ?_
            obtain ⟨c_40, hF⟩ := am_gd hF
            refine g_iald (pc := 187) (k := 83) rfl (hPl.lt (by decide)) (am_ix_use c_40) dX12_judgedColour_187 ?_
            refine g_if_le (pc := 188) (tgt := 200) dX12_judgedColour_188 rfl (fun c_41 => ?_) (fun c_41 => ?_)
            · replace hF := am_yes c_41 hF
              refine g_aload_n (pc := 200) dX12_judgedColour_200 rfl rfl ?_
              refine g_getR (pc := 201) (k := 55) (r := 72) kf_X12_62.r rfl rfl (hPl.get (by decide) rfl) (hPl.lt (by decide)) dX12_judgedColour_201 ?_
              refine g_iconst (pc := 204) (v := (0 : Int32)) dX12_judgedColour_204 rfl ?_
              refine g_iload_n (pc := 205) dX12_judgedColour_205 rfl rfl ?_
              refine g_iadd (pc := 206) dX12_judgedColour_206 ?_
              obtain ⟨c_42, hF⟩ := am_gd hF
              refine g_iald (pc := 207) (k := 72) rfl (hPl.lt (by decide)) (am_ix_use c_42) dX12_judgedColour_207 ?_
              cases hF
              exact g_iret (pc := 208) rfl (Nat.le_refl _) (Nat.le_refl _) dX12_judgedColour_208 ⟨rfl, rfl, rfl, rfl⟩
            · replace hF := am_no c_41 hF
              refine g_aload_n (pc := 191) dX12_judgedColour_191 rfl rfl ?_
              refine g_iload (pc := 192) dX12_judgedColour_192 rfl ?_
              obtain ⟨r_44, h_43, hF⟩ := am_b1_el hF
              refine g_cVi (pc := 194) (k := 55) (As := [.int l7_38]) (st := []) ky_X12_bestColourOf kl_X12_298 (s_X12_bestColourOf_55 (d := 2) (hPl) (Nat.le_refl _) h_43) rfl rfl rfl (hPl.lt (by decide)) (Nat.le_trans (by decide) hd) (Nat.le_of_ble_eq_true rfl) (Nat.le_refl _) (Nat.le_refl _) dX12_judgedColour_194 ?_
              refine g_goto (pc := 197) (tgt := 208) dX12_judgedColour_197 rfl ?_
              cases hF
              exact g_iret (pc := 208) rfl (Nat.le_refl _) (Nat.le_refl _) dX12_judgedColour_208 ⟨rfl, rfl, rfl, rfl⟩
          · replace hF := am_no c_36 hF
            refine g_aload_n (pc := 150) dX12_judgedColour_150 rfl rfl ?_
            refine g_iload (pc := 151) dX12_judgedColour_151 rfl ?_
            refine g_iload_n (pc := 153) dX12_judgedColour_153 rfl rfl ?_
            obtain ⟨r_46, I_47, h_45, hF⟩ := am_b2_el hF
            refine g_cVi (pc := 154) (k := 55) (As := [.int r_32, .int a1]) (st := []) ky_X12_byScores kl_X12_312 (s_X12_byScores_55 (d := 3) (hPl) (Nat.le_refl _) h_45) rfl rfl rfl (hPl.lt (by decide)) (Nat.le_trans (by decide) hd) (Nat.le_of_ble_eq_true rfl) (Nat.le_refl _) (Nat.le_refl _) dX12_judgedColour_154 ?_
            cases hF
            exact g_iret (pc := 157) rfl (Nat.le_refl _) (Nat.le_refl _) dX12_judgedColour_157 ⟨rfl, rfl, rfl, rfl⟩
        · replace hF := am_yes c_35 hF
          refine g_aload_n (pc := 137) dX12_judgedColour_137 rfl rfl ?_
          refine g_iload (pc := 138) dX12_judgedColour_138 rfl ?_
          obtain ⟨r_49, h_48, hF⟩ := am_b1_el hF
          refine g_cVi (pc := 140) (k := 55) (As := [.int l4_8]) (st := []) ky_X12_bestColourOf kl_X12_298 (s_X12_bestColourOf_55 (d := 2) (hPl) (Nat.le_refl _) h_48) rfl rfl rfl (hPl.lt (by decide)) (Nat.le_trans (by decide) hd) (Nat.le_of_ble_eq_true rfl) (Nat.le_refl _) (Nat.le_refl _) dX12_judgedColour_140 ?_
          cases hF
          exact g_iret (pc := 143) rfl (Nat.le_refl _) (Nat.le_refl _) dX12_judgedColour_143 ⟨rfl, rfl, rfl, rfl⟩
      · replace hF := am_yes c_34 hF
        refine g_aload_n (pc := 122) dX12_judgedColour_122 rfl rfl ?_
        refine g_getR (pc := 123) (k := 55) (r := 72) kf_X12_62.r rfl rfl (hPl.get (by decide) rfl) (hPl.lt (by decide)) dX12_judgedColour_123 ?_
        refine g_iconst (pc := 126) (v := (0 : Int32)) dX12_judgedColour_126 rfl ?_
        refine g_iload_n (pc := 127) dX12_judgedColour_127 rfl rfl ?_
        refine g_iadd (pc := 128) dX12_judgedColour_128 ?_
        obtain ⟨c_50, hF⟩ := am_gd hF
        refine g_iald (pc := 129) (k := 72) rfl (hPl.lt (by decide)) (am_ix_use c_50) dX12_judgedColour_129 ?_
        cases hF
        exact g_iret (pc := 130) rfl (Nat.le_refl _) (Nat.le_refl _) dX12_judgedColour_130 ⟨rfl, rfl, rfl, rfl⟩
    · replace hF := am_yes c_30 hF
      refine g_aload_n (pc := 95) dX12_judgedColour_95 rfl rfl ?_
      refine g_getR (pc := 96) (k := 55) (r := 72) kf_X12_62.r rfl rfl (hPl.get (by decide) rfl) (hPl.lt (by decide)) dX12_judgedColour_96 ?_
      refine g_iconst (pc := 99) (v := (0 : Int32)) dX12_judgedColour_99 rfl ?_
      refine g_iload_n (pc := 100) dX12_judgedColour_100 rfl rfl ?_
      refine g_iadd (pc := 101) dX12_judgedColour_101 ?_
      obtain ⟨c_51, hF⟩ := am_gd hF
      refine g_iald (pc := 102) (k := 72) rfl (hPl.lt (by decide)) (am_ix_use c_51) dX12_judgedColour_102 ?_
      cases hF
      exact g_iret (pc := 103) rfl (Nat.le_refl _) (Nat.le_refl _) dX12_judgedColour_103 ⟨rfl, rfl, rfl, rfl⟩
  clear hF
  have hC := am_loop (C := fun x => G am_sc0 l d 0 0 mX12_judgedColour (am_qi r N P I2) 13 [.ref 55, .int a1, .int x.1, .int x.2.1, .int x.2.2.1, .int x.2.2.2.1, .int x.2.2.2.2, .null] [] N P I 0 0) (by
    rintro ⟨l2_1, l3_2, l4_3, l5_4, l6_5⟩ rr hF ih_11 hE_12
    replace hF := am_u5_ap hF
    change G am_sc0 l d 0 0 mX12_judgedColour (am_qi r N P I2) 13 [.ref 55, .int a1, .int l2_1, .int l3_2, .int l4_3, .int l5_4, .int l6_5, .null] [] N P I 0 0
    refine g_iload (pc := 13) dX12_judgedColour_13 rfl ?_
    refine g_aload_n (pc := 15) dX12_judgedColour_15 rfl rfl ?_
    refine g_getI (pc := 16) (k := 55) kf_X12_145.r rfl rfl (hPl.lt (by decide)) dX12_judgedColour_16 ?_
    refine g_icmp_ge (pc := 19) (tgt := 91) dX12_judgedColour_19 rfl (fun c_15 => ?_) (fun c_15 => ?_)
    · replace hF := am_yes c_15 hF
      cases hF
      cases hE_12 _ rfl
      exact g_weak hX_10 ⟨Or.inr rfl, Or.inr rfl, Or.inr rfl, Or.inr rfl, Or.inr rfl, Or.inr rfl, Or.inl rfl, Or.inl rfl, trivial⟩
    · replace hF := am_no c_15 hF
      refine g_aload_n (pc := 22) dX12_judgedColour_22 rfl rfl ?_
      refine g_getR (pc := 23) (k := 55) (r := 83) kf_X12_98.r rfl rfl (hPl.get (by decide) rfl) (hPl.lt (by decide)) dX12_judgedColour_23 ?_
      refine g_bipush (pc := 26) (v := (7 : Int32)) dX12_judgedColour_26 rfl ?_
      refine g_aload_n (pc := 28) dX12_judgedColour_28 rfl rfl ?_
      refine g_getR (pc := 29) (k := 55) (r := 57) kf_X12_17.r rfl rfl (hPl.get (by decide) rfl) (hPl.lt (by decide)) dX12_judgedColour_29 ?_
      refine g_iload (pc := 32) dX12_judgedColour_32 rfl ?_
      obtain ⟨c_16, hF⟩ := am_gd hF
      refine g_iald (pc := 34) (k := 57) rfl (hPl.lt (by decide)) (am_ix_use c_16) dX12_judgedColour_34 ?_
      refine g_imul (pc := 35) dX12_judgedColour_35 ?_
      refine g_iload_n (pc := 36) dX12_judgedColour_36 rfl rfl ?_
      refine g_iadd (pc := 37) dX12_judgedColour_37 ?_
      obtain ⟨c_17, hF⟩ := am_gd hF
      refine g_iald (pc := 38) (k := 83) rfl (hPl.lt (by decide)) (am_ix_use c_17) dX12_judgedColour_38 ?_
      obtain ⟨l7_18, e_l7_18, hF⟩ := am_let_el hF
      refine n_istore (pc := 39) (ls2 := [.ref 55, .int a1, .int l2_1, .int l3_2, .int l4_3, .int l5_4, .int l6_5, .int l7_18]) e_l7_18 rfl dX12_judgedColour_39 (Nat.le_of_ble_eq_true rfl) ?_
      refine g_iload (pc := 41) dX12_judgedColour_41 rfl ?_
      refine g_if_ne (pc := 43) (tgt := 49) dX12_judgedColour_43 rfl (fun c_19 => ?_) (fun c_19 => ?_)
      · replace hF := am_no c_19 hF
        refine g_iload_n (pc := 49) dX12_judgedColour_49 rfl rfl ?_
        refine g_iconst (pc := 50) (v := (1 : Int32)) dX12_judgedColour_50 rfl ?_
        refine g_iadd (pc := 51) dX12_judgedColour_51 ?_
        obtain ⟨l2_20, e_l2_20, hF⟩ := am_let_el hF
        refine n_istore_n (pc := 52) (ls2 := [.ref 55, .int a1, .int l2_20, .int l3_2, .int l4_3, .int l5_4, .int l6_5, .int l7_18]) e_l2_20 rfl dX12_judgedColour_52 rfl (Nat.le_of_ble_eq_true rfl) ?_
        refine g_iload_n (pc := 53) dX12_judgedColour_53 rfl rfl ?_
        refine g_iload (pc := 54) dX12_judgedColour_54 rfl ?_
        refine g_iadd (pc := 56) dX12_judgedColour_56 ?_
        obtain ⟨l3_21, e_l3_21, hF⟩ := am_let_el hF
        refine n_istore_n (pc := 57) (ls2 := [.ref 55, .int a1, .int l2_20, .int l3_21, .int l4_3, .int l5_4, .int l6_5, .int l7_18]) e_l3_21 rfl dX12_judgedColour_57 rfl (Nat.le_of_ble_eq_true rfl) ?_
        refine g_iload (pc := 58) dX12_judgedColour_58 rfl ?_
        refine g_iload (pc := 60) dX12_judgedColour_60 rfl ?_
        obtain ⟨l4_23, hR_24, hF⟩ := am_b1_el hF
        have hJ_25 : G am_sc0 l d 0 0 mX12_judgedColour (am_qi r N P I2) 69 [.ref 55, .int a1, .int l2_20, .int l3_21, .int l4_23, .int l5_4, .int l6_5, .int l7_18] [] N P I 0 0 := by
          refine g_iload (pc := 69) dX12_judgedColour_69 rfl ?_
          refine g_iload (pc := 71) dX12_judgedColour_71 rfl ?_
          refine g_icmp_le (pc := 73) (tgt := 81) dX12_judgedColour_73 rfl (fun c_26 => ?_) (fun c_26 => ?_)
          · replace hF := am_yes c_26 hF
            refine g_iload (pc := 81) dX12_judgedColour_81 rfl ?_
            refine n_istore (pc := 83) (ls2 := [.ref 55, .int a1, .int l2_20, .int l3_21, .int l4_23, .int l5_4, .int l6_5, .int l7_18]) rfl rfl dX12_judgedColour_83 (Nat.le_of_ble_eq_true rfl) ?_
            obtain ⟨l6_27, e_l6_27, hF⟩ := am_let_el hF
            refine n_iinc (pc := 85) (ls2 := [.ref 55, .int a1, .int l2_20, .int l3_21, .int l4_23, .int l5_4, .int l6_27, .int l7_18]) e_l6_27 rfl rfl rfl dX12_judgedColour_85 (Nat.le_of_ble_eq_true rfl) ?_
            refine g_goto (pc := 88) (tgt := 13) dX12_judgedColour_88 rfl ?_
            cases hF
            exact g_weak (ih_11 (l2_20, l3_21, l4_23, l5_4, l6_27) rfl) ⟨Or.inr rfl, Or.inr rfl, Or.inr rfl, Or.inr rfl, Or.inr rfl, Or.inr rfl, Or.inr rfl, Or.inl rfl, trivial⟩
          · replace hF := am_no c_26 hF
            refine g_iload (pc := 76) dX12_judgedColour_76 rfl ?_
            refine g_goto (pc := 78) (tgt := 83) dX12_judgedColour_78 rfl ?_
            refine n_istore (pc := 83) (ls2 := [.ref 55, .int a1, .int l2_20, .int l3_21, .int l4_23, .int l7_18, .int l6_5, .int l7_18]) rfl rfl dX12_judgedColour_83 (Nat.le_of_ble_eq_true rfl) ?_
            obtain ⟨l6_28, e_l6_28, hF⟩ := am_let_el hF
            refine n_iinc (pc := 85) (ls2 := [.ref 55, .int a1, .int l2_20, .int l3_21, .int l4_23, .int l7_18, .int l6_28, .int l7_18]) e_l6_28 rfl rfl rfl dX12_judgedColour_85 (Nat.le_of_ble_eq_true rfl) ?_
            refine g_goto (pc := 88) (tgt := 13) dX12_judgedColour_88 rfl ?_
            cases hF
            exact g_weak (ih_11 (l2_20, l3_21, l4_23, l7_18, l6_28) rfl) ⟨Or.inr rfl, Or.inr rfl, Or.inr rfl, Or.inr rfl, Or.inr rfl, Or.inr rfl, Or.inr rfl, Or.inl rfl, trivial⟩
        clear hF
        have hF := hR_24
        clear hR_24
        refine g_icmp_le (pc := 62) (tgt := 69) dX12_judgedColour_62 rfl (fun c_22 => ?_) (fun c_22 => ?_)
        · replace hF := am_yes c_22 hF
          cases hF
          exact hJ_25
        · replace hF := am_no c_22 hF
          refine g_iload (pc := 65) dX12_judgedColour_65 rfl ?_
          refine n_istore (pc := 67) (ls2 := [.ref 55, .int a1, .int l2_20, .int l3_21, .int l6_5, .int l5_4, .int l6_5, .int l7_18]) rfl rfl dX12_judgedColour_67 (Nat.le_of_ble_eq_true rfl) ?_
          cases hF
          exact hJ_25
      · replace hF := am_yes c_19 hF
        refine g_goto (pc := 46) (tgt := 85) dX12_judgedColour_46 rfl ?_
        obtain ⟨l6_29, e_l6_29, hF⟩ := am_let_el hF
        refine n_iinc (pc := 85) (ls2 := [.ref 55, .int a1, .int l2_1, .int l3_2, .int l4_3, .int l5_4, .int l6_29, .int l7_18]) e_l6_29 rfl rfl rfl dX12_judgedColour_85 (Nat.le_of_ble_eq_true rfl) ?_
        refine g_goto (pc := 88) (tgt := 13) dX12_judgedColour_88 rfl ?_
        cases hF
        exact g_weak (ih_11 (l2_1, l3_2, l4_3, l5_4, l6_29) rfl) ⟨Or.inr rfl, Or.inr rfl, Or.inr rfl, Or.inr rfl, Or.inr rfl, Or.inr rfl, Or.inr rfl, Or.inl rfl, trivial⟩
    ) _ _ hL_13
  exact hC
def F_X12_judges_55 (I : am_IT) (a1 : Int32) : Option (am_IT) := am_b1 (F_X12_findsYards_55 I) (fun (I_2 : am_IT) => am_b1 (am_it am_fu (am_u2 (fun (l2_3 : Int32) (I_4 : am_IT) => if (I_4 55 4) ≤ l2_3 then (some (.inr (I_4))) else (am_b2 (F_X12_judgedColour_55 I_4 l2_3) (fun (r_13 : Int32) (I_14 : am_IT) => if am_ix (a1 + l2_3) 35 = true then (am_let (up2 I_14 72 (a1 + l2_3).toNatClampNeg r_13) (fun (I_16 : am_IT) => am_let (l2_3 + (1 : Int32)) (fun (l2_17 : Int32) => some (.inl (l2_17, I_16))))) else none)))) ((0 : Int32), I_2)) (fun (I_5 : am_IT) => some I_5))
set_option maxRecDepth 100000 in
set_option maxHeartbeats 4000000 in
theorem s_X12_judges_55 {l : Launch} {d N : Nat} {P : am_PT} (hPl : am_Pl 94 N P) (hd : 5 ≤ d) {I : am_IT} {a1 : Int32} {I2 : am_IT} (hF : F_X12_judges_55 I a1 = some (I2)) : am_C l d 0 0 mX12_judges [.ref 55, .int a1] N P I (am_qv N P I2) := by
  refine am_body (sc := am_sc0) (n := 1) (by decide +kernel) (by decide) rfl ?_
  change G am_sc0 l d 0 0 mX12_judges (am_qv N P I2) 0 [.ref 55, .int a1, .null] [] N P I 0 0
  unfold F_X12_judges_55 at hF
  refine g_aload_n (pc := 0) dX12_judges_0 rfl rfl ?_
  obtain ⟨I_2, h_1, hF⟩ := am_b1_el hF
  refine g_cVv (pc := 1) (k := 55) (As := []) (st := []) ky_X12_findsYards kl_X12_286 (s_X12_findsYards_55 (d := 2) (hPl) (Nat.le_refl _) h_1) rfl rfl rfl (hPl.lt (by decide)) (Nat.le_trans (by decide) hd) (Nat.le_of_ble_eq_true rfl) (Nat.le_refl _) (Nat.le_refl _) dX12_judges_1 ?_
  refine g_iconst (pc := 4) (v := (0 : Int32)) dX12_judges_4 rfl ?_
  refine n_istore_n (pc := 5) (ls2 := [.ref 55, .int a1, .int (0 : Int32)]) rfl rfl dX12_judges_5 rfl (Nat.le_of_ble_eq_true rfl) ?_
  obtain ⟨I_5, hL_9, hF⟩ := am_b1_el hF
  have hX_6 : G am_sc0 l d 0 0 mX12_judges (am_qv N P I2) 33 [.ref 55, .int a1, .null] [] N P I_5 0 0 := by
    cases hF
    exact g_vret (pc := 33) rfl (Nat.le_refl _) (Nat.le_refl _) dX12_judges_33 ⟨rfl, rfl, rfl, rfl⟩
  clear hF
  have hC := am_loop (C := fun x => G am_sc0 l d 0 0 mX12_judges (am_qv N P I2) 6 [.ref 55, .int a1, .int x.1] [] N P x.2 0 0) (by
    rintro ⟨l2_3, I_4⟩ rr hF ih_7 hE_8
    replace hF := am_u2_ap hF
    change G am_sc0 l d 0 0 mX12_judges (am_qv N P I2) 6 [.ref 55, .int a1, .int l2_3] [] N P I_4 0 0
    refine g_iload_n (pc := 6) dX12_judges_6 rfl rfl ?_
    refine g_aload_n (pc := 7) dX12_judges_7 rfl rfl ?_
    refine g_getI (pc := 8) (k := 55) kf_X12_142.r rfl rfl (hPl.lt (by decide)) dX12_judges_8 ?_
    refine g_icmp_ge (pc := 11) (tgt := 33) dX12_judges_11 rfl (fun c_11 => ?_) (fun c_11 => ?_)
    · replace hF := am_yes c_11 hF
      cases hF
      cases hE_8 _ rfl
      exact g_weak hX_6 ⟨Or.inr rfl, Or.inr rfl, Or.inl rfl, trivial⟩
    · replace hF := am_no c_11 hF
      refine g_aload_n (pc := 14) dX12_judges_14 rfl rfl ?_
      refine g_getR (pc := 15) (k := 55) (r := 72) kf_X12_62.r rfl rfl (hPl.get (by decide) rfl) (hPl.lt (by decide)) dX12_judges_15 ?_
      refine g_iload_n (pc := 18) dX12_judges_18 rfl rfl ?_
      refine g_iload_n (pc := 19) dX12_judges_19 rfl rfl ?_
      refine g_iadd (pc := 20) dX12_judges_20 ?_
      refine g_aload_n (pc := 21) dX12_judges_21 rfl rfl ?_
      refine g_iload_n (pc := 22) dX12_judges_22 rfl rfl ?_
      obtain ⟨r_13, I_14, h_12, hF⟩ := am_b2_el hF
      refine g_cVi (pc := 23) (k := 55) (As := [.int l2_3]) (st := [.int (a1 + l2_3), .ref 72]) ky_X12_judgedColour kl_X12_315 (s_X12_judgedColour_55 (d := 4) (hPl) (Nat.le_refl _) h_12) rfl rfl rfl (hPl.lt (by decide)) (Nat.le_trans (by decide) hd) (Nat.le_of_ble_eq_true rfl) (Nat.le_refl _) (Nat.le_refl _) dX12_judges_23 ?_
      obtain ⟨c_15, hF⟩ := am_gd hF
      obtain ⟨I_16, e_I_16, hF⟩ := am_let_el hF
      refine n_iast (pc := 26) (k := 72) e_I_16 rfl (hPl.lt (by decide)) (am_ix_use c_15) dX12_judges_26 ?_
      obtain ⟨l2_17, e_l2_17, hF⟩ := am_let_el hF
      refine n_iinc (pc := 27) (ls2 := [.ref 55, .int a1, .int l2_17]) e_l2_17 rfl rfl rfl dX12_judges_27 (Nat.le_of_ble_eq_true rfl) ?_
      refine g_goto (pc := 30) (tgt := 6) dX12_judges_30 rfl ?_
      cases hF
      exact ih_7 (l2_17, I_16) rfl
    ) _ _ hL_9
  exact hC
def F_X12_gains_55 (I : am_IT) (a1 : Int32) (a2 : Int32) : Option (Int32 × am_IT) := am_let (up2 I 55 0 (0 : Int32)) (fun (I_1 : am_IT) => am_b1 (F_X12_isOne_55 I_1 a1) (fun (r_3 : Int32) => if r_3 = 0 then (some ((-100000 : Int32), I_1)) else (am_b1 (F_X12_isIn_55 I_1 a2 (0 : Int32) (1 : Int32)) (fun (r_7 : Int32) => if r_7 = 0 then (some ((-100000 : Int32), I_1)) else (am_b1 (F_X12_judges_55 I_1 (7 : Int32)) (fun (I_11 : am_IT) => am_b1 (F_X12_worthOf_55 I_11 a1 (7 : Int32)) (fun (r_13 : Int32) => am_b3 (am_it am_fu (am_u4 (fun (l4_14 : Int32) (l5_15 : Int32) (l6_16 : Int32) (I_17 : am_IT) => if (I_17 55 2) ≤ l6_16 then (some (.inr (l4_14, l5_15, I_17))) else (am_let (up2 I_17 55 49 a1) (fun (I_27 : am_IT) => am_let (up2 I_27 55 50 l6_16) (fun (I_28 : am_IT) => am_b1 (F_X12_judges_55 I_28 (21 : Int32)) (fun (I_30 : am_IT) => am_let (up2 I_30 55 49 (-1 : Int32)) (fun (I_31 : am_IT) => am_b1 (F_X12_worthOf_55 I_31 a1 (21 : Int32)) (fun (r_33 : Int32) => am_let (r_33 - r_13) (fun (l7_34 : Int32) => if l5_15 < l7_34 then (am_let (l6_16 + (1 : Int32)) (fun (l6_36 : Int32) => some (.inl (l6_16, l7_34, l6_36, I_31)))) else (am_let (l6_16 + (1 : Int32)) (fun (l6_37 : Int32) => some (.inl (l4_14, l5_15, l6_37, I_31))))))))))))) ((-1 : Int32), (0 : Int32), (0 : Int32), I_11)) (fun (l4_18 : Int32) (l5_19 : Int32) (I_20 : am_IT) => if a2 = 0 then (some (l4_18, I_20)) else (some (l5_19, I_20))))))))))
set_option maxRecDepth 100000 in
set_option maxHeartbeats 4000000 in
theorem s_X12_gains_55 {l : Launch} {d N : Nat} {P : am_PT} (hPl : am_Pl 94 N P) (hd : 6 ≤ d) {I : am_IT} {a1 : Int32} {a2 : Int32} {r : Int32} {I2 : am_IT} (hF : F_X12_gains_55 I a1 a2 = some (r, I2)) : am_C l d 0 0 mX12_gains [.ref 55, .int a1, .int a2] N P I (am_qi r N P I2) := by
  refine am_body (sc := am_sc0) (n := 5) (by decide +kernel) (by decide) rfl ?_
  change G am_sc0 l d 0 0 mX12_gains (am_qi r N P I2) 0 [.ref 55, .int a1, .int a2, .null, .null, .null, .null, .null] [] N P I 0 0
  unfold F_X12_gains_55 at hF
  refine g_aload_n (pc := 0) dX12_gains_0 rfl rfl ?_
  refine g_iconst (pc := 1) (v := (0 : Int32)) dX12_gains_1 rfl ?_
  obtain ⟨I_1, e_I_1, hF⟩ := am_let_el hF
  refine n_putI (pc := 2) (k := 55) e_I_1 kf_X12_134 rfl rfl (hPl.lt (by decide)) dX12_gains_2 ?_
  refine g_aload_n (pc := 5) dX12_gains_5 rfl rfl ?_
  refine g_iload_n (pc := 6) dX12_gains_6 rfl rfl ?_
  obtain ⟨r_3, h_2, hF⟩ := am_b1_el hF
  refine g_cVz (pc := 7) (k := 55) (As := [.int a1]) (st := []) ky_X12_isOne kl_X12_175 (s_X12_isOne_55 (d := 1) (hPl) (Nat.le_refl _) h_2) rfl rfl rfl (hPl.lt (by decide)) (Nat.le_trans (by decide) hd) (Nat.le_of_ble_eq_true rfl) (Nat.le_refl _) (Nat.le_refl _) dX12_gains_7 ?_
  intro z_4
  refine g_if_eq (pc := 10) (tgt := 23) dX12_gains_10 rfl (fun c_5 => ?_) (fun c_5 => ?_)
  · replace hF := am_yes c_5 hF
    refine g_ldcw (pc := 23) dX12_gains_23 kc_X12_285 ?_
    cases hF
    exact g_iret (pc := 26) rfl (Nat.le_refl _) (Nat.le_refl _) dX12_gains_26 ⟨rfl, rfl, rfl, rfl⟩
  · replace hF := am_no c_5 hF
    refine g_aload_n (pc := 13) dX12_gains_13 rfl rfl ?_
    refine g_iload_n (pc := 14) dX12_gains_14 rfl rfl ?_
    refine g_iconst (pc := 15) (v := (0 : Int32)) dX12_gains_15 rfl ?_
    refine g_iconst (pc := 16) (v := (1 : Int32)) dX12_gains_16 rfl ?_
    obtain ⟨r_7, h_6, hF⟩ := am_b1_el hF
    refine g_cVz (pc := 17) (k := 55) (As := [.int a2, .int (0 : Int32), .int (1 : Int32)]) (st := []) ky_X12_isIn kl_X12_148 (s_X12_isIn_55 (d := 1) (hPl) (Nat.le_refl _) h_6) rfl rfl rfl (hPl.lt (by decide)) (Nat.le_trans (by decide) hd) (Nat.le_of_ble_eq_true rfl) (Nat.le_refl _) (Nat.le_refl _) dX12_gains_17 ?_
    intro z_8
    refine g_if_ne (pc := 20) (tgt := 27) dX12_gains_20 rfl (fun c_9 => ?_) (fun c_9 => ?_)
    · replace hF := am_no c_9 hF
      refine g_aload_n (pc := 27) dX12_gains_27 rfl rfl ?_
      refine g_bipush (pc := 28) (v := (7 : Int32)) dX12_gains_28 rfl ?_
      obtain ⟨I_11, h_10, hF⟩ := am_b1_el hF
      refine g_cVv (pc := 30) (k := 55) (As := [.int (7 : Int32)]) (st := []) ky_X12_judges kl_X12_318 (s_X12_judges_55 (d := 5) (hPl) (Nat.le_refl _) h_10) rfl rfl rfl (hPl.lt (by decide)) (Nat.le_trans (by decide) hd) (Nat.le_of_ble_eq_true rfl) (Nat.le_refl _) (Nat.le_refl _) dX12_gains_30 ?_
      refine g_aload_n (pc := 33) dX12_gains_33 rfl rfl ?_
      refine g_iload_n (pc := 34) dX12_gains_34 rfl rfl ?_
      refine g_bipush (pc := 35) (v := (7 : Int32)) dX12_gains_35 rfl ?_
      obtain ⟨r_13, h_12, hF⟩ := am_b1_el hF
      refine g_cVi (pc := 37) (k := 55) (As := [.int a1, .int (7 : Int32)]) (st := []) ky_X12_worthOf kl_X12_289 (s_X12_worthOf_55 (d := 2) (hPl) (Nat.le_refl _) h_12) rfl rfl rfl (hPl.lt (by decide)) (Nat.le_trans (by decide) hd) (Nat.le_of_ble_eq_true rfl) (Nat.le_refl _) (Nat.le_refl _) dX12_gains_37 ?_
      refine n_istore_n (pc := 40) (ls2 := [.ref 55, .int a1, .int a2, .int r_13, .null, .null, .null, .null]) rfl rfl dX12_gains_40 rfl (Nat.le_of_ble_eq_true rfl) ?_
      refine g_iconst (pc := 41) (v := (-1 : Int32)) dX12_gains_41 (by decide) ?_
      refine n_istore (pc := 42) (ls2 := [.ref 55, .int a1, .int a2, .int r_13, .int (-1 : Int32), .null, .null, .null]) rfl rfl dX12_gains_42 (Nat.le_of_ble_eq_true rfl) ?_
      refine g_iconst (pc := 44) (v := (0 : Int32)) dX12_gains_44 rfl ?_
      refine n_istore (pc := 45) (ls2 := [.ref 55, .int a1, .int a2, .int r_13, .int (-1 : Int32), .int (0 : Int32), .null, .null]) rfl rfl dX12_gains_45 (Nat.le_of_ble_eq_true rfl) ?_
      refine g_iconst (pc := 47) (v := (0 : Int32)) dX12_gains_47 rfl ?_
      refine n_istore (pc := 48) (ls2 := [.ref 55, .int a1, .int a2, .int r_13, .int (-1 : Int32), .int (0 : Int32), .int (0 : Int32), .null]) rfl rfl dX12_gains_48 (Nat.le_of_ble_eq_true rfl) ?_
      obtain ⟨l4_18, l5_19, I_20, hL_24, hF⟩ := am_b3_el hF
      have hX_21 : G am_sc0 l d 0 0 mX12_gains (am_qi r N P I2) 116 [.ref 55, .int a1, .int a2, .int r_13, .int l4_18, .int l5_19, .null, .null] [] N P I_20 0 0 := by
        refine g_iload_n (pc := 116) dX12_gains_116 rfl rfl ?_
        refine g_if_ne (pc := 117) (tgt := 125) dX12_gains_117 rfl (fun c_38 => ?_) (fun c_38 => ?_)
        · replace hF := am_no c_38 hF
          refine g_iload (pc := 125) dX12_gains_125 rfl ?_
          cases hF
          exact g_iret (pc := 127) rfl (Nat.le_refl _) (Nat.le_refl _) dX12_gains_127 ⟨rfl, rfl, rfl, rfl⟩
        · replace hF := am_yes c_38 hF
          refine g_iload (pc := 120) dX12_gains_120 rfl ?_
          refine g_goto (pc := 122) (tgt := 127) dX12_gains_122 rfl ?_
          cases hF
          exact g_iret (pc := 127) rfl (Nat.le_refl _) (Nat.le_refl _) dX12_gains_127 ⟨rfl, rfl, rfl, rfl⟩
      clear hF
      have hC := am_loop (C := fun x => G am_sc0 l d 0 0 mX12_gains (am_qi r N P I2) 50 [.ref 55, .int a1, .int a2, .int r_13, .int x.1, .int x.2.1, .int x.2.2.1, .null] [] N P x.2.2.2 0 0) (by
        rintro ⟨l4_14, l5_15, l6_16, I_17⟩ rr hF ih_22 hE_23
        replace hF := am_u4_ap hF
        change G am_sc0 l d 0 0 mX12_gains (am_qi r N P I2) 50 [.ref 55, .int a1, .int a2, .int r_13, .int l4_14, .int l5_15, .int l6_16, .null] [] N P I_17 0 0
        refine g_iload (pc := 50) dX12_gains_50 rfl ?_
        refine g_aload_n (pc := 52) dX12_gains_52 rfl rfl ?_
        refine g_getI (pc := 53) (k := 55) kf_X12_7.r rfl rfl (hPl.lt (by decide)) dX12_gains_53 ?_
        refine g_icmp_ge (pc := 56) (tgt := 116) dX12_gains_56 rfl (fun c_26 => ?_) (fun c_26 => ?_)
        · replace hF := am_yes c_26 hF
          cases hF
          cases hE_23 _ rfl
          exact g_weak hX_21 ⟨Or.inr rfl, Or.inr rfl, Or.inr rfl, Or.inr rfl, Or.inr rfl, Or.inr rfl, Or.inl rfl, Or.inl rfl, trivial⟩
        · replace hF := am_no c_26 hF
          refine g_aload_n (pc := 59) dX12_gains_59 rfl rfl ?_
          refine g_iload_n (pc := 60) dX12_gains_60 rfl rfl ?_
          obtain ⟨I_27, e_I_27, hF⟩ := am_let_el hF
          refine n_putI (pc := 61) (k := 55) e_I_27 kf_X12_101 rfl rfl (hPl.lt (by decide)) dX12_gains_61 ?_
          refine g_aload_n (pc := 64) dX12_gains_64 rfl rfl ?_
          refine g_iload (pc := 65) dX12_gains_65 rfl ?_
          obtain ⟨I_28, e_I_28, hF⟩ := am_let_el hF
          refine n_putI (pc := 67) (k := 55) e_I_28 kf_X12_292 rfl rfl (hPl.lt (by decide)) dX12_gains_67 ?_
          refine g_aload_n (pc := 70) dX12_gains_70 rfl rfl ?_
          refine g_bipush (pc := 71) (v := (21 : Int32)) dX12_gains_71 rfl ?_
          obtain ⟨I_30, h_29, hF⟩ := am_b1_el hF
          refine g_cVv (pc := 73) (k := 55) (As := [.int (21 : Int32)]) (st := []) ky_X12_judges kl_X12_318 (s_X12_judges_55 (d := 5) (hPl) (Nat.le_refl _) h_29) rfl rfl rfl (hPl.lt (by decide)) (Nat.le_trans (by decide) hd) (Nat.le_of_ble_eq_true rfl) (Nat.le_refl _) (Nat.le_refl _) dX12_gains_73 ?_
          refine g_aload_n (pc := 76) dX12_gains_76 rfl rfl ?_
          refine g_iconst (pc := 77) (v := (-1 : Int32)) dX12_gains_77 (by decide) ?_
          obtain ⟨I_31, e_I_31, hF⟩ := am_let_el hF
          refine n_putI (pc := 78) (k := 55) e_I_31 kf_X12_101 rfl rfl (hPl.lt (by decide)) dX12_gains_78 ?_
          refine g_aload_n (pc := 81) dX12_gains_81 rfl rfl ?_
          refine g_iload_n (pc := 82) dX12_gains_82 rfl rfl ?_
          refine g_bipush (pc := 83) (v := (21 : Int32)) dX12_gains_83 rfl ?_
          obtain ⟨r_33, h_32, hF⟩ := am_b1_el hF
          refine g_cVi (pc := 85) (k := 55) (As := [.int a1, .int (21 : Int32)]) (st := []) ky_X12_worthOf kl_X12_289 (s_X12_worthOf_55 (d := 2) (hPl) (Nat.le_refl _) h_32) rfl rfl rfl (hPl.lt (by decide)) (Nat.le_trans (by decide) hd) (Nat.le_of_ble_eq_true rfl) (Nat.le_refl _) (Nat.le_refl _) dX12_gains_85 ?_
          refine g_iload_n (pc := 88) dX12_gains_88 rfl rfl ?_
          refine g_isub (pc := 89) dX12_gains_89 ?_
          obtain ⟨l7_34, e_l7_34, hF⟩ := am_let_el hF
          refine n_istore (pc := 90) (ls2 := [.ref 55, .int a1, .int a2, .int r_13, .int l4_14, .int l5_15, .int l6_16, .int l7_34]) e_l7_34 rfl dX12_gains_90 (Nat.le_of_ble_eq_true rfl) ?_
          refine g_iload (pc := 92) dX12_gains_92 rfl ?_
          refine g_iload (pc := 94) dX12_gains_94 rfl ?_
          refine g_icmp_gt (pc := 96) (tgt := 102) dX12_gains_96 rfl (fun c_35 => ?_) (fun c_35 => ?_)
          · replace hF := am_yes c_35 hF
            refine g_iload (pc := 102) dX12_gains_102 rfl ?_
            refine n_istore (pc := 104) (ls2 := [.ref 55, .int a1, .int a2, .int r_13, .int l6_16, .int l5_15, .int l6_16, .int l7_34]) rfl rfl dX12_gains_104 (Nat.le_of_ble_eq_true rfl) ?_
            refine g_iload (pc := 106) dX12_gains_106 rfl ?_
            refine n_istore (pc := 108) (ls2 := [.ref 55, .int a1, .int a2, .int r_13, .int l6_16, .int l7_34, .int l6_16, .int l7_34]) rfl rfl dX12_gains_108 (Nat.le_of_ble_eq_true rfl) ?_
            obtain ⟨l6_36, e_l6_36, hF⟩ := am_let_el hF
            refine n_iinc (pc := 110) (ls2 := [.ref 55, .int a1, .int a2, .int r_13, .int l6_16, .int l7_34, .int l6_36, .int l7_34]) e_l6_36 rfl rfl rfl dX12_gains_110 (Nat.le_of_ble_eq_true rfl) ?_
            refine g_goto (pc := 113) (tgt := 50) dX12_gains_113 rfl ?_
            cases hF
            exact g_weak (ih_22 (l6_16, l7_34, l6_36, I_31) rfl) ⟨Or.inr rfl, Or.inr rfl, Or.inr rfl, Or.inr rfl, Or.inr rfl, Or.inr rfl, Or.inr rfl, Or.inl rfl, trivial⟩
          · replace hF := am_no c_35 hF
            refine g_goto (pc := 99) (tgt := 110) dX12_gains_99 rfl ?_
            obtain ⟨l6_37, e_l6_37, hF⟩ := am_let_el hF
            refine n_iinc (pc := 110) (ls2 := [.ref 55, .int a1, .int a2, .int r_13, .int l4_14, .int l5_15, .int l6_37, .int l7_34]) e_l6_37 rfl rfl rfl dX12_gains_110 (Nat.le_of_ble_eq_true rfl) ?_
            refine g_goto (pc := 113) (tgt := 50) dX12_gains_113 rfl ?_
            cases hF
            exact g_weak (ih_22 (l4_14, l5_15, l6_37, I_31) rfl) ⟨Or.inr rfl, Or.inr rfl, Or.inr rfl, Or.inr rfl, Or.inr rfl, Or.inr rfl, Or.inr rfl, Or.inl rfl, trivial⟩
        ) _ _ hL_24
      exact hC
    · replace hF := am_yes c_9 hF
      refine g_ldcw (pc := 23) dX12_gains_23 kc_X12_285 ?_
      cases hF
      exact g_iret (pc := 26) rfl (Nat.le_refl _) (Nat.le_refl _) dX12_gains_26 ⟨rfl, rfl, rfl, rfl⟩
def F_X12_potsOf_55 (I : am_IT) (a1 : Int32) : Option (Int32) := am_b1 (am_it am_fu (am_u2 (fun (l2_1 : Int32) (l3_2 : Int32) => if (I 55 4) ≤ l3_2 then (some (.inr (l2_1))) else (if am_ix (a1 + l3_2) 35 = true then (am_let (l2_1 ||| ((1 : Int32) <<< ((I 72 (a1 + l3_2).toNatClampNeg) &&& 31))) (fun (l2_11 : Int32) => am_let (l3_2 + (1 : Int32)) (fun (l3_12 : Int32) => some (.inl (l2_11, l3_12))))) else none))) ((0 : Int32), (0 : Int32))) (fun (l2_3 : Int32) => am_b1 (am_it am_fu (am_u2 (fun (l3_13 : Int32) (l4_14 : Int32) => if (I 55 2) ≤ l4_14 then (some (.inr (l3_13))) else (if ((l2_3 >>> (l4_14 &&& 31)) &&& (1 : Int32)) = (1 : Int32) then (if am_ix l4_14 4 = true then (am_let (l3_13 + (I 56 l4_14.toNatClampNeg)) (fun (l3_25 : Int32) => am_let (l4_14 + (1 : Int32)) (fun (l4_26 : Int32) => some (.inl (l3_25, l4_26))))) else none) else (am_let (l4_14 + (1 : Int32)) (fun (l4_23 : Int32) => some (.inl (l3_13, l4_23))))))) ((0 : Int32), (0 : Int32))) (fun (l3_15 : Int32) => some l3_15))
set_option maxRecDepth 100000 in
set_option maxHeartbeats 4000000 in
theorem s_X12_potsOf_55 {l : Launch} {d N : Nat} {P : am_PT} (hPl : am_Pl 94 N P) (hd : 1 ≤ d) {I : am_IT} {a1 : Int32} {r : Int32} (hF : F_X12_potsOf_55 I a1 = some (r)) : am_C l d 0 0 mX12_potsOf [.ref 55, .int a1] N P I (am_qi r N P I) := by
  refine am_body (sc := am_sc0) (n := 3) (by decide +kernel) (by decide) rfl ?_
  change G am_sc0 l d 0 0 mX12_potsOf (am_qi r N P I) 0 [.ref 55, .int a1, .null, .null, .null] [] N P I 0 0
  unfold F_X12_potsOf_55 at hF
  refine g_iconst (pc := 0) (v := (0 : Int32)) dX12_potsOf_0 rfl ?_
  refine n_istore_n (pc := 1) (ls2 := [.ref 55, .int a1, .int (0 : Int32), .null, .null]) rfl rfl dX12_potsOf_1 rfl (Nat.le_of_ble_eq_true rfl) ?_
  refine g_iconst (pc := 2) (v := (0 : Int32)) dX12_potsOf_2 rfl ?_
  refine n_istore_n (pc := 3) (ls2 := [.ref 55, .int a1, .int (0 : Int32), .int (0 : Int32), .null]) rfl rfl dX12_potsOf_3 rfl (Nat.le_of_ble_eq_true rfl) ?_
  obtain ⟨l2_3, hL_7, hF⟩ := am_b1_el hF
  have hX_4 : G am_sc0 l d 0 0 mX12_potsOf (am_qi r N P I) 31 [.ref 55, .int a1, .int l2_3, .null, .null] [] N P I 0 0 := by
    refine g_iconst (pc := 31) (v := (0 : Int32)) dX12_potsOf_31 rfl ?_
    refine n_istore_n (pc := 32) (ls2 := [.ref 55, .int a1, .int l2_3, .int (0 : Int32), .null]) rfl rfl dX12_potsOf_32 rfl (Nat.le_of_ble_eq_true rfl) ?_
    refine g_iconst (pc := 33) (v := (0 : Int32)) dX12_potsOf_33 rfl ?_
    refine n_istore (pc := 34) (ls2 := [.ref 55, .int a1, .int l2_3, .int (0 : Int32), .int (0 : Int32)]) rfl rfl dX12_potsOf_34 (Nat.le_of_ble_eq_true rfl) ?_
    obtain ⟨l3_15, hL_19, hF⟩ := am_b1_el hF
    have hX_16 : G am_sc0 l d 0 0 mX12_potsOf (am_qi r N P I) 71 [.ref 55, .int a1, .int l2_3, .int l3_15, .null] [] N P I 0 0 := by
      refine g_iload_n (pc := 71) dX12_potsOf_71 rfl rfl ?_
      cases hF
      exact g_iret (pc := 72) rfl (Nat.le_refl _) (Nat.le_refl _) dX12_potsOf_72 ⟨rfl, rfl, rfl, rfl⟩
    clear hF
    have hC := am_loop (C := fun x => G am_sc0 l d 0 0 mX12_potsOf (am_qi r N P I) 36 [.ref 55, .int a1, .int l2_3, .int x.1, .int x.2] [] N P I 0 0) (by
      rintro ⟨l3_13, l4_14⟩ rr hF ih_17 hE_18
      replace hF := am_u2_ap hF
      change G am_sc0 l d 0 0 mX12_potsOf (am_qi r N P I) 36 [.ref 55, .int a1, .int l2_3, .int l3_13, .int l4_14] [] N P I 0 0
      refine g_iload (pc := 36) dX12_potsOf_36 rfl ?_
      refine g_aload_n (pc := 38) dX12_potsOf_38 rfl rfl ?_
      refine g_getI (pc := 39) (k := 55) kf_X12_7.r rfl rfl (hPl.lt (by decide)) dX12_potsOf_39 ?_
      refine g_icmp_ge (pc := 42) (tgt := 71) dX12_potsOf_42 rfl (fun c_21 => ?_) (fun c_21 => ?_)
      · replace hF := am_yes c_21 hF
        cases hF
        cases hE_18 _ rfl
        exact g_weak hX_16 ⟨Or.inr rfl, Or.inr rfl, Or.inr rfl, Or.inr rfl, Or.inl rfl, trivial⟩
      · replace hF := am_no c_21 hF
        refine g_iload_n (pc := 45) dX12_potsOf_45 rfl rfl ?_
        refine g_iload (pc := 46) dX12_potsOf_46 rfl ?_
        refine g_ishr (pc := 48) dX12_potsOf_48 ?_
        refine g_iconst (pc := 49) (v := (1 : Int32)) dX12_potsOf_49 rfl ?_
        refine g_iand (pc := 50) dX12_potsOf_50 ?_
        refine g_iconst (pc := 51) (v := (1 : Int32)) dX12_potsOf_51 rfl ?_
        refine g_icmp_ne (pc := 52) (tgt := 65) dX12_potsOf_52 rfl (fun c_22 => ?_) (fun c_22 => ?_)
        · replace hF := am_no c_22 hF
          obtain ⟨l4_23, e_l4_23, hF⟩ := am_let_el hF
          refine n_iinc (pc := 65) (ls2 := [.ref 55, .int a1, .int l2_3, .int l3_13, .int l4_23]) e_l4_23 rfl rfl rfl dX12_potsOf_65 (Nat.le_of_ble_eq_true rfl) ?_
          refine g_goto (pc := 68) (tgt := 36) dX12_potsOf_68 rfl ?_
          cases hF
          exact ih_17 (l3_13, l4_23) rfl
        · replace hF := am_yes c_22 hF
          refine g_iload_n (pc := 55) dX12_potsOf_55 rfl rfl ?_
          refine g_aload_n (pc := 56) dX12_potsOf_56 rfl rfl ?_
          refine g_getR (pc := 57) (k := 55) (r := 56) kf_X12_13.r rfl rfl (hPl.get (by decide) rfl) (hPl.lt (by decide)) dX12_potsOf_57 ?_
          refine g_iload (pc := 60) dX12_potsOf_60 rfl ?_
          obtain ⟨c_24, hF⟩ := am_gd hF
          refine g_iald (pc := 62) (k := 56) rfl (hPl.lt (by decide)) (am_ix_use c_24) dX12_potsOf_62 ?_
          refine g_iadd (pc := 63) dX12_potsOf_63 ?_
          obtain ⟨l3_25, e_l3_25, hF⟩ := am_let_el hF
          refine n_istore_n (pc := 64) (ls2 := [.ref 55, .int a1, .int l2_3, .int l3_25, .int l4_14]) e_l3_25 rfl dX12_potsOf_64 rfl (Nat.le_of_ble_eq_true rfl) ?_
          obtain ⟨l4_26, e_l4_26, hF⟩ := am_let_el hF
          refine n_iinc (pc := 65) (ls2 := [.ref 55, .int a1, .int l2_3, .int l3_25, .int l4_26]) e_l4_26 rfl rfl rfl dX12_potsOf_65 (Nat.le_of_ble_eq_true rfl) ?_
          refine g_goto (pc := 68) (tgt := 36) dX12_potsOf_68 rfl ?_
          cases hF
          exact ih_17 (l3_25, l4_26) rfl
      ) _ _ hL_19
    exact hC
  clear hF
  have hC := am_loop (C := fun x => G am_sc0 l d 0 0 mX12_potsOf (am_qi r N P I) 4 [.ref 55, .int a1, .int x.1, .int x.2, .null] [] N P I 0 0) (by
    rintro ⟨l2_1, l3_2⟩ rr hF ih_5 hE_6
    replace hF := am_u2_ap hF
    change G am_sc0 l d 0 0 mX12_potsOf (am_qi r N P I) 4 [.ref 55, .int a1, .int l2_1, .int l3_2, .null] [] N P I 0 0
    refine g_iload_n (pc := 4) dX12_potsOf_4 rfl rfl ?_
    refine g_aload_n (pc := 5) dX12_potsOf_5 rfl rfl ?_
    refine g_getI (pc := 6) (k := 55) kf_X12_142.r rfl rfl (hPl.lt (by decide)) dX12_potsOf_6 ?_
    refine g_icmp_ge (pc := 9) (tgt := 31) dX12_potsOf_9 rfl (fun c_9 => ?_) (fun c_9 => ?_)
    · replace hF := am_yes c_9 hF
      cases hF
      cases hE_6 _ rfl
      exact g_weak hX_4 ⟨Or.inr rfl, Or.inr rfl, Or.inr rfl, Or.inl rfl, Or.inl rfl, trivial⟩
    · replace hF := am_no c_9 hF
      refine g_iload_n (pc := 12) dX12_potsOf_12 rfl rfl ?_
      refine g_iconst (pc := 13) (v := (1 : Int32)) dX12_potsOf_13 rfl ?_
      refine g_aload_n (pc := 14) dX12_potsOf_14 rfl rfl ?_
      refine g_getR (pc := 15) (k := 55) (r := 72) kf_X12_62.r rfl rfl (hPl.get (by decide) rfl) (hPl.lt (by decide)) dX12_potsOf_15 ?_
      refine g_iload_n (pc := 18) dX12_potsOf_18 rfl rfl ?_
      refine g_iload_n (pc := 19) dX12_potsOf_19 rfl rfl ?_
      refine g_iadd (pc := 20) dX12_potsOf_20 ?_
      obtain ⟨c_10, hF⟩ := am_gd hF
      refine g_iald (pc := 21) (k := 72) rfl (hPl.lt (by decide)) (am_ix_use c_10) dX12_potsOf_21 ?_
      refine g_ishl (pc := 22) dX12_potsOf_22 ?_
      refine g_ior (pc := 23) dX12_potsOf_23 ?_
      obtain ⟨l2_11, e_l2_11, hF⟩ := am_let_el hF
      refine n_istore_n (pc := 24) (ls2 := [.ref 55, .int a1, .int l2_11, .int l3_2, .null]) e_l2_11 rfl dX12_potsOf_24 rfl (Nat.le_of_ble_eq_true rfl) ?_
      obtain ⟨l3_12, e_l3_12, hF⟩ := am_let_el hF
      refine n_iinc (pc := 25) (ls2 := [.ref 55, .int a1, .int l2_11, .int l3_12, .null]) e_l3_12 rfl rfl rfl dX12_potsOf_25 (Nat.le_of_ble_eq_true rfl) ?_
      refine g_goto (pc := 28) (tgt := 4) dX12_potsOf_28 rfl ?_
      cases hF
      exact ih_5 (l2_11, l3_12) rfl
    ) _ _ hL_7
  exact hC
def F_X12_triesNext_55 (I : am_IT) : Option (Int32 × am_IT) := am_let ((I 55 4) - (1 : Int32)) (fun (l1_1 : Int32) => am_lr (am_it am_fu (am_u2 (fun (l1_2 : Int32) (I_3 : am_IT) => if l1_2 < 0 then (some (.inr (.inl (I_3)))) else (if am_ix ((21 : Int32) + l1_2) 35 = true then (if am_ix ((21 : Int32) + l1_2) 35 = true then (am_let (up2 I_3 72 ((21 : Int32) + l1_2).toNatClampNeg ((I_3 72 ((21 : Int32) + l1_2).toNatClampNeg) + (1 : Int32))) (fun (I_13 : am_IT) => if am_ix ((21 : Int32) + l1_2) 35 = true then (if (I_13 55 2) ≤ (I_13 72 ((21 : Int32) + l1_2).toNatClampNeg) then (if am_ix ((21 : Int32) + l1_2) 35 = true then (am_let (up2 I_13 72 ((21 : Int32) + l1_2).toNatClampNeg (0 : Int32)) (fun (I_17 : am_IT) => am_let (l1_2 + (-1 : Int32)) (fun (l1_18 : Int32) => some (.inl (l1_18, I_17))))) else none) else (some (.inr (.inr ((1 : Int32), I_13))))) else none)) else none) else none))) (l1_1, I)) (fun (I_4 : am_IT) => some ((0 : Int32), I_4)))
set_option maxRecDepth 100000 in
set_option maxHeartbeats 4000000 in
theorem s_X12_triesNext_55 {l : Launch} {d N : Nat} {P : am_PT} (hPl : am_Pl 94 N P) (hd : 1 ≤ d) {I : am_IT} {r : Int32} {I2 : am_IT} (hF : F_X12_triesNext_55 I = some (r, I2)) : am_C l d 0 0 mX12_triesNext [.ref 55] N P I (am_qz r N P I2) := by
  refine am_body (sc := am_sc0) (n := 1) (by decide +kernel) (by decide) rfl ?_
  change G am_sc0 l d 0 0 mX12_triesNext (am_qz r N P I2) 0 [.ref 55, .null] [] N P I 0 0
  unfold F_X12_triesNext_55 at hF
  refine g_aload_n (pc := 0) dX12_triesNext_0 rfl rfl ?_
  refine g_getI (pc := 1) (k := 55) kf_X12_142.r rfl rfl (hPl.lt (by decide)) dX12_triesNext_1 ?_
  refine g_iconst (pc := 4) (v := (1 : Int32)) dX12_triesNext_4 rfl ?_
  refine g_isub (pc := 5) dX12_triesNext_5 ?_
  obtain ⟨l1_1, e_l1_1, hF⟩ := am_let_el hF
  refine n_istore_n (pc := 6) (ls2 := [.ref 55, .int l1_1]) e_l1_1 rfl dX12_triesNext_6 rfl (Nat.le_of_ble_eq_true rfl) ?_
  obtain ⟨x_20, hL_8, hF⟩ := am_lr_el hF
  have hX_5 : ∀ (I_4 : am_IT), x_20 = .inl I_4 → G am_sc0 l d 0 0 mX12_triesNext (am_qz r N P I2) 65 [.ref 55, .null] [] N P I_4 0 0 := by
    intro I_4 q
    subst q
    refine g_iconst (pc := 65) (v := (0 : Int32)) dX12_triesNext_65 rfl ?_
    cases hF
    exact g_zret (pc := 66) rfl (Or.inl rfl) (Nat.le_refl _) (Nat.le_refl _) dX12_triesNext_66 ⟨(Or.inl rfl), rfl, rfl, rfl, rfl⟩
  have hZ_9 : ∀ y, x_20 = .inr y → y = _ := fun y q => by subst q; exact hF
  clear hF
  have hC := am_loop (C := fun x => G am_sc0 l d 0 0 mX12_triesNext (am_qz r N P I2) 7 [.ref 55, .int x.1] [] N P x.2 0 0) (by
    rintro ⟨l1_2, I_3⟩ rr hF ih_6 hE_7
    replace hF := am_u2_ap hF
    change G am_sc0 l d 0 0 mX12_triesNext (am_qz r N P I2) 7 [.ref 55, .int l1_2] [] N P I_3 0 0
    refine g_iload_n (pc := 7) dX12_triesNext_7 rfl rfl ?_
    refine g_if_lt (pc := 8) (tgt := 65) dX12_triesNext_8 rfl (fun c_10 => ?_) (fun c_10 => ?_)
    · replace hF := am_yes c_10 hF
      cases hF
      exact g_weak (hX_5 _ (hE_7 _ rfl).symm) ⟨Or.inr rfl, Or.inl rfl, trivial⟩
    · replace hF := am_no c_10 hF
      refine g_aload_n (pc := 11) dX12_triesNext_11 rfl rfl ?_
      refine g_getR (pc := 12) (k := 55) (r := 72) kf_X12_62.r rfl rfl (hPl.get (by decide) rfl) (hPl.lt (by decide)) dX12_triesNext_12 ?_
      refine g_bipush (pc := 15) (v := (21 : Int32)) dX12_triesNext_15 rfl ?_
      refine g_iload_n (pc := 17) dX12_triesNext_17 rfl rfl ?_
      refine g_iadd (pc := 18) dX12_triesNext_18 ?_
      refine g_aload_n (pc := 19) dX12_triesNext_19 rfl rfl ?_
      refine g_getR (pc := 20) (k := 55) (r := 72) kf_X12_62.r rfl rfl (hPl.get (by decide) rfl) (hPl.lt (by decide)) dX12_triesNext_20 ?_
      refine g_bipush (pc := 23) (v := (21 : Int32)) dX12_triesNext_23 rfl ?_
      refine g_iload_n (pc := 25) dX12_triesNext_25 rfl rfl ?_
      refine g_iadd (pc := 26) dX12_triesNext_26 ?_
      obtain ⟨c_11, hF⟩ := am_gd hF
      refine g_iald (pc := 27) (k := 72) rfl (hPl.lt (by decide)) (am_ix_use c_11) dX12_triesNext_27 ?_
      refine g_iconst (pc := 28) (v := (1 : Int32)) dX12_triesNext_28 rfl ?_
      refine g_iadd (pc := 29) dX12_triesNext_29 ?_
      obtain ⟨c_12, hF⟩ := am_gd hF
      obtain ⟨I_13, e_I_13, hF⟩ := am_let_el hF
      refine n_iast (pc := 30) (k := 72) e_I_13 rfl (hPl.lt (by decide)) (am_ix_use c_12) dX12_triesNext_30 ?_
      refine g_aload_n (pc := 31) dX12_triesNext_31 rfl rfl ?_
      refine g_getR (pc := 32) (k := 55) (r := 72) kf_X12_62.r rfl rfl (hPl.get (by decide) rfl) (hPl.lt (by decide)) dX12_triesNext_32 ?_
      refine g_bipush (pc := 35) (v := (21 : Int32)) dX12_triesNext_35 rfl ?_
      refine g_iload_n (pc := 37) dX12_triesNext_37 rfl rfl ?_
      refine g_iadd (pc := 38) dX12_triesNext_38 ?_
      obtain ⟨c_14, hF⟩ := am_gd hF
      refine g_iald (pc := 39) (k := 72) rfl (hPl.lt (by decide)) (am_ix_use c_14) dX12_triesNext_39 ?_
      refine g_aload_n (pc := 40) dX12_triesNext_40 rfl rfl ?_
      refine g_getI (pc := 41) (k := 55) kf_X12_7.r rfl rfl (hPl.lt (by decide)) dX12_triesNext_41 ?_
      refine g_icmp_ge (pc := 44) (tgt := 49) dX12_triesNext_44 rfl (fun c_15 => ?_) (fun c_15 => ?_)
      · replace hF := am_yes c_15 hF
        refine g_aload_n (pc := 49) dX12_triesNext_49 rfl rfl ?_
        refine g_getR (pc := 50) (k := 55) (r := 72) kf_X12_62.r rfl rfl (hPl.get (by decide) rfl) (hPl.lt (by decide)) dX12_triesNext_50 ?_
        refine g_bipush (pc := 53) (v := (21 : Int32)) dX12_triesNext_53 rfl ?_
        refine g_iload_n (pc := 55) dX12_triesNext_55 rfl rfl ?_
        refine g_iadd (pc := 56) dX12_triesNext_56 ?_
        refine g_iconst (pc := 57) (v := (0 : Int32)) dX12_triesNext_57 rfl ?_
        obtain ⟨c_16, hF⟩ := am_gd hF
        obtain ⟨I_17, e_I_17, hF⟩ := am_let_el hF
        refine n_iast (pc := 58) (k := 72) e_I_17 rfl (hPl.lt (by decide)) (am_ix_use c_16) dX12_triesNext_58 ?_
        obtain ⟨l1_18, e_l1_18, hF⟩ := am_let_el hF
        refine n_iinc (pc := 59) (ls2 := [.ref 55, .int l1_18]) e_l1_18 (by rw [show Int32.ofInt (-1) = (-1 : Int32) from by decide]) rfl rfl dX12_triesNext_59 (Nat.le_of_ble_eq_true rfl) ?_
        refine g_goto (pc := 62) (tgt := 7) dX12_triesNext_62 rfl ?_
        cases hF
        exact ih_6 (l1_18, I_17) rfl
      · replace hF := am_no c_15 hF
        refine g_iconst (pc := 47) (v := (1 : Int32)) dX12_triesNext_47 rfl ?_
        cases hF
        have q_19 := hZ_9 _ (hE_7 _ rfl).symm
        cases q_19
        exact g_zret (pc := 48) rfl (Or.inr rfl) (Nat.le_refl _) (Nat.le_refl _) dX12_triesNext_48 ⟨(Or.inr rfl), rfl, rfl, rfl, rfl⟩
    ) _ _ hL_8
  exact hC
def F_X12_findsBest_55 (I : am_IT) : Option (am_IT) := am_b1 (F_X12_findsYards_55 I) (fun (I_2 : am_IT) => am_b1 (am_it am_fu (am_u2 (fun (l1_3 : Int32) (I_4 : am_IT) => if (I_4 55 4) ≤ l1_3 then (some (.inr (I_4))) else (if am_ix ((21 : Int32) + l1_3) 35 = true then (am_let (up2 I_4 72 ((21 : Int32) + l1_3).toNatClampNeg (0 : Int32)) (fun (I_13 : am_IT) => am_let (l1_3 + (1 : Int32)) (fun (l1_14 : Int32) => some (.inl (l1_14, I_13))))) else none))) ((0 : Int32), I_2)) (fun (I_5 : am_IT) => am_b1 (am_it am_fu (am_u3 (fun (l1_15 : Int32) (l2_16 : Int32) (I_17 : am_IT) => if l2_16 = 0 then (some (.inr (I_17))) else (am_b1 (F_X12_potsOf_55 I_17 (21 : Int32)) (fun (r_26 : Int32) => am_let (-r_26) (fun (l4_27 : Int32) => am_b2 (am_it am_fu (am_u3 (fun (l4_28 : Int32) (l5_29 : Int32) (I_30 : am_IT) => if (I_30 55 5) ≤ l5_29 then (some (.inr (l4_28, I_30))) else (am_b1 (F_X12_worthOf_55 I_30 l5_29 (21 : Int32)) (fun (r_40 : Int32) => if am_ix l5_29 7 = true then (am_let (up2 I_30 85 l5_29.toNatClampNeg r_40) (fun (I_42 : am_IT) => if am_ix l5_29 7 = true then (am_let (l4_28 + (I_42 85 l5_29.toNatClampNeg)) (fun (l4_44 : Int32) => am_let (l5_29 + (1 : Int32)) (fun (l5_45 : Int32) => some (.inl (l4_44, l5_45, I_42))))) else none)) else none)))) (l4_27, (0 : Int32), I_17)) (fun (l4_31 : Int32) (I_32 : am_IT) => am_b1 (am_it am_fu (am_u2 (fun (l5_46 : Int32) (I_47 : am_IT) => if (I_47 55 5) ≤ l5_46 then (some (.inr (I_47))) else (if l1_15 = 0 then (if am_ix l5_46 7 = true then (if am_ix l5_46 7 = true then (if (l4_31 - (I_47 85 l5_46.toNatClampNeg)) ≤ (I_47 87 l5_46.toNatClampNeg) then (am_let (l5_46 + (1 : Int32)) (fun (l5_63 : Int32) => some (.inl (l5_63, I_47)))) else (if am_ix l5_46 7 = true then (if am_ix l5_46 7 = true then (am_let (up2 I_47 87 l5_46.toNatClampNeg (l4_31 - (I_47 85 l5_46.toNatClampNeg))) (fun (I_66 : am_IT) => am_let (l5_46 + (1 : Int32)) (fun (l5_67 : Int32) => some (.inl (l5_67, I_66))))) else none) else none)) else none) else none) else (if am_ix l5_46 7 = true then (if am_ix l5_46 7 = true then (am_let (up2 I_47 87 l5_46.toNatClampNeg (l4_31 - (I_47 85 l5_46.toNatClampNeg))) (fun (I_58 : am_IT) => am_let (l5_46 + (1 : Int32)) (fun (l5_59 : Int32) => some (.inl (l5_59, I_58))))) else none) else none)))) ((0 : Int32), I_32)) (fun (I_48 : am_IT) => am_b1 (if l1_15 = 0 then (if l4_31 ≤ (I_48 55 52) then (some (I_48)) else (am_let (up2 I_48 55 52 l4_31) (fun (I_101 : am_IT) => am_let (up2 I_101 55 53 r_26) (fun (I_102 : am_IT) => am_b1 (am_it am_fu (am_u2 (fun (l5_103 : Int32) (I_104 : am_IT) => if (I_104 55 5) ≤ l5_103 then (some (.inr (I_104))) else (if am_ix l5_103 7 = true then (if am_ix l5_103 7 = true then (am_let (up2 I_104 86 l5_103.toNatClampNeg (I_104 85 l5_103.toNatClampNeg)) (fun (I_114 : am_IT) => am_let (l5_103 + (1 : Int32)) (fun (l5_115 : Int32) => some (.inl (l5_115, I_114))))) else none) else none))) ((0 : Int32), I_102)) (fun (I_105 : am_IT) => am_b1 (am_it am_fu (am_u2 (fun (l5_116 : Int32) (I_117 : am_IT) => if (I_117 55 4) ≤ l5_116 then (some (.inr (I_117))) else (if am_ix ((21 : Int32) + l5_116) 35 = true then (if am_ix ((14 : Int32) + l5_116) 35 = true then (am_let (up2 I_117 72 ((14 : Int32) + l5_116).toNatClampNeg (I_117 72 ((21 : Int32) + l5_116).toNatClampNeg)) (fun (I_127 : am_IT) => am_let (l5_116 + (1 : Int32)) (fun (l5_128 : Int32) => some (.inl (l5_128, I_127))))) else none) else none))) ((0 : Int32), I_105)) (fun (I_118 : am_IT) => some (I_118))))))) else (am_let (up2 I_48 55 52 l4_31) (fun (I_72 : am_IT) => am_let (up2 I_72 55 53 r_26) (fun (I_73 : am_IT) => am_b1 (am_it am_fu (am_u2 (fun (l5_74 : Int32) (I_75 : am_IT) => if (I_75 55 5) ≤ l5_74 then (some (.inr (I_75))) else (if am_ix l5_74 7 = true then (if am_ix l5_74 7 = true then (am_let (up2 I_75 86 l5_74.toNatClampNeg (I_75 85 l5_74.toNatClampNeg)) (fun (I_85 : am_IT) => am_let (l5_74 + (1 : Int32)) (fun (l5_86 : Int32) => some (.inl (l5_86, I_85))))) else none) else none))) ((0 : Int32), I_73)) (fun (I_76 : am_IT) => am_b1 (am_it am_fu (am_u2 (fun (l5_87 : Int32) (I_88 : am_IT) => if (I_88 55 4) ≤ l5_87 then (some (.inr (I_88))) else (if am_ix ((21 : Int32) + l5_87) 35 = true then (if am_ix ((14 : Int32) + l5_87) 35 = true then (am_let (up2 I_88 72 ((14 : Int32) + l5_87).toNatClampNeg (I_88 72 ((21 : Int32) + l5_87).toNatClampNeg)) (fun (I_98 : am_IT) => am_let (l5_87 + (1 : Int32)) (fun (l5_99 : Int32) => some (.inl (l5_99, I_98))))) else none) else none))) ((0 : Int32), I_76)) (fun (I_89 : am_IT) => some (I_89))))))) (fun (I_69 : am_IT) => am_b2 (F_X12_triesNext_55 I_69) (fun (r_130 : Int32) (I_131 : am_IT) => some (.inl ((0 : Int32), r_130, I_131))))))))))) ((1 : Int32), (1 : Int32), I_5)) (fun (I_18 : am_IT) => some I_18)))
set_option maxRecDepth 100000 in
set_option maxHeartbeats 4000000 in
theorem s_X12_findsBest_55 {l : Launch} {d N : Nat} {P : am_PT} (hPl : am_Pl 94 N P) (hd : 3 ≤ d) {I : am_IT} {I2 : am_IT} (hF : F_X12_findsBest_55 I = some (I2)) : am_C l d 0 0 mX12_findsBest [.ref 55] N P I (am_qv N P I2) := by
  refine am_body (sc := am_sc0) (n := 5) (by decide +kernel) (by decide) rfl ?_
  change G am_sc0 l d 0 0 mX12_findsBest (am_qv N P I2) 0 [.ref 55, .null, .null, .null, .null, .null] [] N P I 0 0
  unfold F_X12_findsBest_55 at hF
  refine g_aload_n (pc := 0) dX12_findsBest_0 rfl rfl ?_
  obtain ⟨I_2, h_1, hF⟩ := am_b1_el hF
  refine g_cVv (pc := 1) (k := 55) (As := []) (st := []) ky_X12_findsYards kl_X12_286 (s_X12_findsYards_55 (d := 2) (hPl) (Nat.le_refl _) h_1) rfl rfl rfl (hPl.lt (by decide)) (Nat.le_trans (by decide) hd) (Nat.le_of_ble_eq_true rfl) (Nat.le_refl _) (Nat.le_refl _) dX12_findsBest_1 ?_
  refine g_iconst (pc := 4) (v := (0 : Int32)) dX12_findsBest_4 rfl ?_
  refine n_istore_n (pc := 5) (ls2 := [.ref 55, .int (0 : Int32), .null, .null, .null, .null]) rfl rfl dX12_findsBest_5 rfl (Nat.le_of_ble_eq_true rfl) ?_
  obtain ⟨I_5, hL_9, hF⟩ := am_b1_el hF
  have hX_6 : G am_sc0 l d 0 0 mX12_findsBest (am_qv N P I2) 30 [.ref 55, .null, .null, .null, .null, .null] [] N P I_5 0 0 := by
    refine g_iconst (pc := 30) (v := (1 : Int32)) dX12_findsBest_30 rfl ?_
    refine n_istore_n (pc := 31) (ls2 := [.ref 55, .int (1 : Int32), .null, .null, .null, .null]) rfl rfl dX12_findsBest_31 rfl (Nat.le_of_ble_eq_true rfl) ?_
    refine g_iconst (pc := 32) (v := (1 : Int32)) dX12_findsBest_32 rfl ?_
    refine n_istore_n (pc := 33) (ls2 := [.ref 55, .int (1 : Int32), .int (1 : Int32), .null, .null, .null]) rfl rfl dX12_findsBest_33 rfl (Nat.le_of_ble_eq_true rfl) ?_
    obtain ⟨I_18, hL_22, hF⟩ := am_b1_el hF
    have hX_19 : G am_sc0 l d 0 0 mX12_findsBest (am_qv N P I2) 257 [.ref 55, .null, .null, .null, .null, .null] [] N P I_18 0 0 := by
      cases hF
      exact g_vret (pc := 257) rfl (Nat.le_refl _) (Nat.le_refl _) dX12_findsBest_257 ⟨rfl, rfl, rfl, rfl⟩
    clear hF
    have hC := am_loop (C := fun x => G am_sc0 l d 0 0 mX12_findsBest (am_qv N P I2) 34 [.ref 55, .int x.1, .int x.2.1, .null, .null, .null] [] N P x.2.2 0 0) (by
      rintro ⟨l1_15, l2_16, I_17⟩ rr hF ih_20 hE_21
      replace hF := am_u3_ap hF
      change G am_sc0 l d 0 0 mX12_findsBest (am_qv N P I2) 34 [.ref 55, .int l1_15, .int l2_16, .null, .null, .null] [] N P I_17 0 0
      refine g_iload_n (pc := 34) dX12_findsBest_34 rfl rfl ?_
      refine g_if_eq (pc := 35) (tgt := 257) dX12_findsBest_35 rfl (fun c_24 => ?_) (fun c_24 => ?_)
      · replace hF := am_yes c_24 hF
        cases hF
        cases hE_21 _ rfl
        exact g_weak hX_19 ⟨Or.inr rfl, Or.inl rfl, Or.inl rfl, Or.inl rfl, Or.inl rfl, Or.inl rfl, trivial⟩
      · replace hF := am_no c_24 hF
        refine g_aload_n (pc := 38) dX12_findsBest_38 rfl rfl ?_
        refine g_bipush (pc := 39) (v := (21 : Int32)) dX12_findsBest_39 rfl ?_
        obtain ⟨r_26, h_25, hF⟩ := am_b1_el hF
        refine g_cVi (pc := 41) (k := 55) (As := [.int (21 : Int32)]) (st := []) ky_X12_potsOf kl_X12_321 (s_X12_potsOf_55 (d := 1) (hPl) (Nat.le_refl _) h_25) rfl rfl rfl (hPl.lt (by decide)) (Nat.le_trans (by decide) hd) (Nat.le_of_ble_eq_true rfl) (Nat.le_refl _) (Nat.le_refl _) dX12_findsBest_41 ?_
        refine n_istore_n (pc := 44) (ls2 := [.ref 55, .int l1_15, .int l2_16, .int r_26, .null, .null]) rfl rfl dX12_findsBest_44 rfl (Nat.le_of_ble_eq_true rfl) ?_
        refine g_iload_n (pc := 45) dX12_findsBest_45 rfl rfl ?_
        refine g_ineg (pc := 46) dX12_findsBest_46 ?_
        obtain ⟨l4_27, e_l4_27, hF⟩ := am_let_el hF
        refine n_istore (pc := 47) (ls2 := [.ref 55, .int l1_15, .int l2_16, .int r_26, .int l4_27, .null]) e_l4_27 rfl dX12_findsBest_47 (Nat.le_of_ble_eq_true rfl) ?_
        refine g_iconst (pc := 49) (v := (0 : Int32)) dX12_findsBest_49 rfl ?_
        refine n_istore (pc := 50) (ls2 := [.ref 55, .int l1_15, .int l2_16, .int r_26, .int l4_27, .int (0 : Int32)]) rfl rfl dX12_findsBest_50 (Nat.le_of_ble_eq_true rfl) ?_
        obtain ⟨l4_31, I_32, hL_36, hF⟩ := am_b2_el hF
        have hX_33 : G am_sc0 l d 0 0 mX12_findsBest (am_qv N P I2) 94 [.ref 55, .int l1_15, .int l2_16, .int r_26, .int l4_31, .null] [] N P I_32 0 0 := by
          refine g_iconst (pc := 94) (v := (0 : Int32)) dX12_findsBest_94 rfl ?_
          refine n_istore (pc := 95) (ls2 := [.ref 55, .int l1_15, .int l2_16, .int r_26, .int l4_31, .int (0 : Int32)]) rfl rfl dX12_findsBest_95 (Nat.le_of_ble_eq_true rfl) ?_
          obtain ⟨I_48, hL_52, hF⟩ := am_b1_el hF
          have hX_49 : G am_sc0 l d 0 0 mX12_findsBest (am_qv N P I2) 153 [.ref 55, .int l1_15, .int l2_16, .int r_26, .int l4_31, .null] [] N P I_48 0 0 := by
            refine g_iload_n (pc := 153) dX12_findsBest_153 rfl rfl ?_
            obtain ⟨I_69, hR_70, hF⟩ := am_b1_el hF
            have hJ_71 : G am_sc0 l d 0 0 mX12_findsBest (am_qv N P I2) 247 [.ref 55, .int l1_15, .int l2_16, .int r_26, .int l4_31, .null] [] N P I_69 0 0 := by
              refine g_iconst (pc := 247) (v := (0 : Int32)) dX12_findsBest_247 rfl ?_
              refine n_istore_n (pc := 248) (ls2 := [.ref 55, .int (0 : Int32), .int l2_16, .int r_26, .int l4_31, .null]) rfl rfl dX12_findsBest_248 rfl (Nat.le_of_ble_eq_true rfl) ?_
              refine g_aload_n (pc := 249) dX12_findsBest_249 rfl rfl ?_
              obtain ⟨r_130, I_131, h_129, hF⟩ := am_b2_el hF
              refine g_cVz (pc := 250) (k := 55) (As := []) (st := []) ky_X12_triesNext kl_X12_330 (s_X12_triesNext_55 (d := 1) (hPl) (Nat.le_refl _) h_129) rfl rfl rfl (hPl.lt (by decide)) (Nat.le_trans (by decide) hd) (Nat.le_of_ble_eq_true rfl) (Nat.le_refl _) (Nat.le_refl _) dX12_findsBest_250 ?_
              intro z_132
              refine n_istore_n (pc := 253) (ls2 := [.ref 55, .int (0 : Int32), .int r_130, .int r_26, .int l4_31, .null]) rfl rfl dX12_findsBest_253 rfl (Nat.le_of_ble_eq_true rfl) ?_
              refine g_goto (pc := 254) (tgt := 34) dX12_findsBest_254 rfl ?_
              cases hF
              exact g_weak (ih_20 ((0 : Int32), r_130, I_131) rfl) ⟨Or.inr rfl, Or.inr rfl, Or.inr rfl, Or.inl rfl, Or.inl rfl, Or.inl rfl, trivial⟩
            clear hF
            have hF := hR_70
            clear hR_70
            refine g_if_ne (pc := 154) (tgt := 166) dX12_findsBest_154 rfl (fun c_68 => ?_) (fun c_68 => ?_)
            · replace hF := am_no c_68 hF
              refine g_aload_n (pc := 166) dX12_findsBest_166 rfl rfl ?_
              refine g_iload (pc := 167) dX12_findsBest_167 rfl ?_
              obtain ⟨I_72, e_I_72, hF⟩ := am_let_el hF
              refine n_putI (pc := 169) (k := 55) e_I_72 kf_X12_324 rfl rfl (hPl.lt (by decide)) dX12_findsBest_169 ?_
              refine g_aload_n (pc := 172) dX12_findsBest_172 rfl rfl ?_
              refine g_iload_n (pc := 173) dX12_findsBest_173 rfl rfl ?_
              obtain ⟨I_73, e_I_73, hF⟩ := am_let_el hF
              refine n_putI (pc := 174) (k := 55) e_I_73 kf_X12_327 rfl rfl (hPl.lt (by decide)) dX12_findsBest_174 ?_
              refine g_iconst (pc := 177) (v := (0 : Int32)) dX12_findsBest_177 rfl ?_
              refine n_istore (pc := 178) (ls2 := [.ref 55, .int l1_15, .int l2_16, .int r_26, .int l4_31, .int (0 : Int32)]) rfl rfl dX12_findsBest_178 (Nat.le_of_ble_eq_true rfl) ?_
              obtain ⟨I_76, hL_80, hF⟩ := am_b1_el hF
              have hX_77 : G am_sc0 l d 0 0 mX12_findsBest (am_qv N P I2) 209 [.ref 55, .int l1_15, .int l2_16, .int r_26, .int l4_31, .null] [] N P I_76 0 0 := by
                refine g_iconst (pc := 209) (v := (0 : Int32)) dX12_findsBest_209 rfl ?_
                refine n_istore (pc := 210) (ls2 := [.ref 55, .int l1_15, .int l2_16, .int r_26, .int l4_31, .int (0 : Int32)]) rfl rfl dX12_findsBest_210 (Nat.le_of_ble_eq_true rfl) ?_
                obtain ⟨I_89, hL_93, hF⟩ := am_b1_el hF
                have hX_90 : G am_sc0 l d 0 0 mX12_findsBest (am_qv N P I2) 247 [.ref 55, .int l1_15, .int l2_16, .int r_26, .int l4_31, .null] [] N P I_89 0 0 := by
                  cases hF
                  exact hJ_71
                clear hF
                have hC := am_loop (C := fun x => G am_sc0 l d 0 0 mX12_findsBest (am_qv N P I2) 212 [.ref 55, .int l1_15, .int l2_16, .int r_26, .int l4_31, .int x.1] [] N P x.2 0 0) (by
                  rintro ⟨l5_87, I_88⟩ rr hF ih_91 hE_92
                  replace hF := am_u2_ap hF
                  change G am_sc0 l d 0 0 mX12_findsBest (am_qv N P I2) 212 [.ref 55, .int l1_15, .int l2_16, .int r_26, .int l4_31, .int l5_87] [] N P I_88 0 0
                  refine g_iload (pc := 212) dX12_findsBest_212 rfl ?_
                  refine g_aload_n (pc := 214) dX12_findsBest_214 rfl rfl ?_
                  refine g_getI (pc := 215) (k := 55) kf_X12_142.r rfl rfl (hPl.lt (by decide)) dX12_findsBest_215 ?_
                  refine g_icmp_ge (pc := 218) (tgt := 247) dX12_findsBest_218 rfl (fun c_95 => ?_) (fun c_95 => ?_)
                  · replace hF := am_yes c_95 hF
                    cases hF
                    cases hE_92 _ rfl
                    exact g_weak hX_90 ⟨Or.inr rfl, Or.inr rfl, Or.inr rfl, Or.inr rfl, Or.inr rfl, Or.inl rfl, trivial⟩
                  · replace hF := am_no c_95 hF
                    refine g_aload_n (pc := 221) dX12_findsBest_221 rfl rfl ?_
                    refine g_getR (pc := 222) (k := 55) (r := 72) kf_X12_62.r rfl rfl (hPl.get (by decide) rfl) (hPl.lt (by decide)) dX12_findsBest_222 ?_
                    refine g_bipush (pc := 225) (v := (14 : Int32)) dX12_findsBest_225 rfl ?_
                    refine g_iload (pc := 227) dX12_findsBest_227 rfl ?_
                    refine g_iadd (pc := 229) dX12_findsBest_229 ?_
                    refine g_aload_n (pc := 230) dX12_findsBest_230 rfl rfl ?_
                    refine g_getR (pc := 231) (k := 55) (r := 72) kf_X12_62.r rfl rfl (hPl.get (by decide) rfl) (hPl.lt (by decide)) dX12_findsBest_231 ?_
                    refine g_bipush (pc := 234) (v := (21 : Int32)) dX12_findsBest_234 rfl ?_
                    refine g_iload (pc := 236) dX12_findsBest_236 rfl ?_
                    refine g_iadd (pc := 238) dX12_findsBest_238 ?_
                    obtain ⟨c_96, hF⟩ := am_gd hF
                    refine g_iald (pc := 239) (k := 72) rfl (hPl.lt (by decide)) (am_ix_use c_96) dX12_findsBest_239 ?_
                    obtain ⟨c_97, hF⟩ := am_gd hF
                    obtain ⟨I_98, e_I_98, hF⟩ := am_let_el hF
                    refine n_iast (pc := 240) (k := 72) e_I_98 rfl (hPl.lt (by decide)) (am_ix_use c_97) dX12_findsBest_240 ?_
                    obtain ⟨l5_99, e_l5_99, hF⟩ := am_let_el hF
                    refine n_iinc (pc := 241) (ls2 := [.ref 55, .int l1_15, .int l2_16, .int r_26, .int l4_31, .int l5_99]) e_l5_99 rfl rfl rfl dX12_findsBest_241 (Nat.le_of_ble_eq_true rfl) ?_
                    refine g_goto (pc := 244) (tgt := 212) dX12_findsBest_244 rfl ?_
                    cases hF
                    exact ih_91 (l5_99, I_98) rfl
                  ) _ _ hL_93
                exact hC
              clear hF
              have hC := am_loop (C := fun x => G am_sc0 l d 0 0 mX12_findsBest (am_qv N P I2) 180 [.ref 55, .int l1_15, .int l2_16, .int r_26, .int l4_31, .int x.1] [] N P x.2 0 0) (by
                rintro ⟨l5_74, I_75⟩ rr hF ih_78 hE_79
                replace hF := am_u2_ap hF
                change G am_sc0 l d 0 0 mX12_findsBest (am_qv N P I2) 180 [.ref 55, .int l1_15, .int l2_16, .int r_26, .int l4_31, .int l5_74] [] N P I_75 0 0
                refine g_iload (pc := 180) dX12_findsBest_180 rfl ?_
                refine g_aload_n (pc := 182) dX12_findsBest_182 rfl rfl ?_
                refine g_getI (pc := 183) (k := 55) kf_X12_145.r rfl rfl (hPl.lt (by decide)) dX12_findsBest_183 ?_
                refine g_icmp_ge (pc := 186) (tgt := 209) dX12_findsBest_186 rfl (fun c_82 => ?_) (fun c_82 => ?_)
                · replace hF := am_yes c_82 hF
                  cases hF
                  cases hE_79 _ rfl
                  exact g_weak hX_77 ⟨Or.inr rfl, Or.inr rfl, Or.inr rfl, Or.inr rfl, Or.inr rfl, Or.inl rfl, trivial⟩
                · replace hF := am_no c_82 hF
                  refine g_aload_n (pc := 189) dX12_findsBest_189 rfl rfl ?_
                  refine g_getR (pc := 190) (k := 55) (r := 86) kf_X12_110.r rfl rfl (hPl.get (by decide) rfl) (hPl.lt (by decide)) dX12_findsBest_190 ?_
                  refine g_iload (pc := 193) dX12_findsBest_193 rfl ?_
                  refine g_aload_n (pc := 195) dX12_findsBest_195 rfl rfl ?_
                  refine g_getR (pc := 196) (k := 55) (r := 85) kf_X12_107.r rfl rfl (hPl.get (by decide) rfl) (hPl.lt (by decide)) dX12_findsBest_196 ?_
                  refine g_iload (pc := 199) dX12_findsBest_199 rfl ?_
                  obtain ⟨c_83, hF⟩ := am_gd hF
                  refine g_iald (pc := 201) (k := 85) rfl (hPl.lt (by decide)) (am_ix_use c_83) dX12_findsBest_201 ?_
                  obtain ⟨c_84, hF⟩ := am_gd hF
                  obtain ⟨I_85, e_I_85, hF⟩ := am_let_el hF
                  refine n_iast (pc := 202) (k := 86) e_I_85 rfl (hPl.lt (by decide)) (am_ix_use c_84) dX12_findsBest_202 ?_
                  obtain ⟨l5_86, e_l5_86, hF⟩ := am_let_el hF
                  refine n_iinc (pc := 203) (ls2 := [.ref 55, .int l1_15, .int l2_16, .int r_26, .int l4_31, .int l5_86]) e_l5_86 rfl rfl rfl dX12_findsBest_203 (Nat.le_of_ble_eq_true rfl) ?_
                  refine g_goto (pc := 206) (tgt := 180) dX12_findsBest_206 rfl ?_
                  cases hF
                  exact ih_78 (l5_86, I_85) rfl
                ) _ _ hL_80
              exact hC
            · replace hF := am_yes c_68 hF
              refine g_iload (pc := 157) dX12_findsBest_157 rfl ?_
              refine g_aload_n (pc := 159) dX12_findsBest_159 rfl rfl ?_
              refine g_getI (pc := 160) (k := 55) kf_X12_324.r rfl rfl (hPl.lt (by decide)) dX12_findsBest_160 ?_
              refine g_icmp_le (pc := 163) (tgt := 247) dX12_findsBest_163 rfl (fun c_100 => ?_) (fun c_100 => ?_)
              · replace hF := am_yes c_100 hF
                cases hF
                exact hJ_71
              · replace hF := am_no c_100 hF
                refine g_aload_n (pc := 166) dX12_findsBest_166 rfl rfl ?_
                refine g_iload (pc := 167) dX12_findsBest_167 rfl ?_
                obtain ⟨I_101, e_I_101, hF⟩ := am_let_el hF
                refine n_putI (pc := 169) (k := 55) e_I_101 kf_X12_324 rfl rfl (hPl.lt (by decide)) dX12_findsBest_169 ?_
                refine g_aload_n (pc := 172) dX12_findsBest_172 rfl rfl ?_
                refine g_iload_n (pc := 173) dX12_findsBest_173 rfl rfl ?_
                obtain ⟨I_102, e_I_102, hF⟩ := am_let_el hF
                refine n_putI (pc := 174) (k := 55) e_I_102 kf_X12_327 rfl rfl (hPl.lt (by decide)) dX12_findsBest_174 ?_
                refine g_iconst (pc := 177) (v := (0 : Int32)) dX12_findsBest_177 rfl ?_
                refine n_istore (pc := 178) (ls2 := [.ref 55, .int l1_15, .int l2_16, .int r_26, .int l4_31, .int (0 : Int32)]) rfl rfl dX12_findsBest_178 (Nat.le_of_ble_eq_true rfl) ?_
                obtain ⟨I_105, hL_109, hF⟩ := am_b1_el hF
                have hX_106 : G am_sc0 l d 0 0 mX12_findsBest (am_qv N P I2) 209 [.ref 55, .int l1_15, .int l2_16, .int r_26, .int l4_31, .null] [] N P I_105 0 0 := by
                  refine g_iconst (pc := 209) (v := (0 : Int32)) dX12_findsBest_209 rfl ?_
                  refine n_istore (pc := 210) (ls2 := [.ref 55, .int l1_15, .int l2_16, .int r_26, .int l4_31, .int (0 : Int32)]) rfl rfl dX12_findsBest_210 (Nat.le_of_ble_eq_true rfl) ?_
                  obtain ⟨I_118, hL_122, hF⟩ := am_b1_el hF
                  have hX_119 : G am_sc0 l d 0 0 mX12_findsBest (am_qv N P I2) 247 [.ref 55, .int l1_15, .int l2_16, .int r_26, .int l4_31, .null] [] N P I_118 0 0 := by
                    cases hF
                    exact hJ_71
                  clear hF
                  have hC := am_loop (C := fun x => G am_sc0 l d 0 0 mX12_findsBest (am_qv N P I2) 212 [.ref 55, .int l1_15, .int l2_16, .int r_26, .int l4_31, .int x.1] [] N P x.2 0 0) (by
                    rintro ⟨l5_116, I_117⟩ rr hF ih_120 hE_121
                    replace hF := am_u2_ap hF
                    change G am_sc0 l d 0 0 mX12_findsBest (am_qv N P I2) 212 [.ref 55, .int l1_15, .int l2_16, .int r_26, .int l4_31, .int l5_116] [] N P I_117 0 0
                    refine g_iload (pc := 212) dX12_findsBest_212 rfl ?_
                    refine g_aload_n (pc := 214) dX12_findsBest_214 rfl rfl ?_
                    refine g_getI (pc := 215) (k := 55) kf_X12_142.r rfl rfl (hPl.lt (by decide)) dX12_findsBest_215 ?_
                    refine g_icmp_ge (pc := 218) (tgt := 247) dX12_findsBest_218 rfl (fun c_124 => ?_) (fun c_124 => ?_)
                    · replace hF := am_yes c_124 hF
                      cases hF
                      cases hE_121 _ rfl
                      exact g_weak hX_119 ⟨Or.inr rfl, Or.inr rfl, Or.inr rfl, Or.inr rfl, Or.inr rfl, Or.inl rfl, trivial⟩
                    · replace hF := am_no c_124 hF
                      refine g_aload_n (pc := 221) dX12_findsBest_221 rfl rfl ?_
                      refine g_getR (pc := 222) (k := 55) (r := 72) kf_X12_62.r rfl rfl (hPl.get (by decide) rfl) (hPl.lt (by decide)) dX12_findsBest_222 ?_
                      refine g_bipush (pc := 225) (v := (14 : Int32)) dX12_findsBest_225 rfl ?_
                      refine g_iload (pc := 227) dX12_findsBest_227 rfl ?_
                      refine g_iadd (pc := 229) dX12_findsBest_229 ?_
                      refine g_aload_n (pc := 230) dX12_findsBest_230 rfl rfl ?_
                      refine g_getR (pc := 231) (k := 55) (r := 72) kf_X12_62.r rfl rfl (hPl.get (by decide) rfl) (hPl.lt (by decide)) dX12_findsBest_231 ?_
                      refine g_bipush (pc := 234) (v := (21 : Int32)) dX12_findsBest_234 rfl ?_
                      refine g_iload (pc := 236) dX12_findsBest_236 rfl ?_
                      refine g_iadd (pc := 238) dX12_findsBest_238 ?_
                      obtain ⟨c_125, hF⟩ := am_gd hF
                      refine g_iald (pc := 239) (k := 72) rfl (hPl.lt (by decide)) (am_ix_use c_125) dX12_findsBest_239 ?_
                      obtain ⟨c_126, hF⟩ := am_gd hF
                      obtain ⟨I_127, e_I_127, hF⟩ := am_let_el hF
                      refine n_iast (pc := 240) (k := 72) e_I_127 rfl (hPl.lt (by decide)) (am_ix_use c_126) dX12_findsBest_240 ?_
                      obtain ⟨l5_128, e_l5_128, hF⟩ := am_let_el hF
                      refine n_iinc (pc := 241) (ls2 := [.ref 55, .int l1_15, .int l2_16, .int r_26, .int l4_31, .int l5_128]) e_l5_128 rfl rfl rfl dX12_findsBest_241 (Nat.le_of_ble_eq_true rfl) ?_
                      refine g_goto (pc := 244) (tgt := 212) dX12_findsBest_244 rfl ?_
                      cases hF
                      exact ih_120 (l5_128, I_127) rfl
                    ) _ _ hL_122
                  exact hC
                clear hF
                have hC := am_loop (C := fun x => G am_sc0 l d 0 0 mX12_findsBest (am_qv N P I2) 180 [.ref 55, .int l1_15, .int l2_16, .int r_26, .int l4_31, .int x.1] [] N P x.2 0 0) (by
                  rintro ⟨l5_103, I_104⟩ rr hF ih_107 hE_108
                  replace hF := am_u2_ap hF
                  change G am_sc0 l d 0 0 mX12_findsBest (am_qv N P I2) 180 [.ref 55, .int l1_15, .int l2_16, .int r_26, .int l4_31, .int l5_103] [] N P I_104 0 0
                  refine g_iload (pc := 180) dX12_findsBest_180 rfl ?_
                  refine g_aload_n (pc := 182) dX12_findsBest_182 rfl rfl ?_
                  refine g_getI (pc := 183) (k := 55) kf_X12_145.r rfl rfl (hPl.lt (by decide)) dX12_findsBest_183 ?_
                  refine g_icmp_ge (pc := 186) (tgt := 209) dX12_findsBest_186 rfl (fun c_111 => ?_) (fun c_111 => ?_)
                  · replace hF := am_yes c_111 hF
                    cases hF
                    cases hE_108 _ rfl
                    exact g_weak hX_106 ⟨Or.inr rfl, Or.inr rfl, Or.inr rfl, Or.inr rfl, Or.inr rfl, Or.inl rfl, trivial⟩
                  · replace hF := am_no c_111 hF
                    refine g_aload_n (pc := 189) dX12_findsBest_189 rfl rfl ?_
                    refine g_getR (pc := 190) (k := 55) (r := 86) kf_X12_110.r rfl rfl (hPl.get (by decide) rfl) (hPl.lt (by decide)) dX12_findsBest_190 ?_
                    refine g_iload (pc := 193) dX12_findsBest_193 rfl ?_
                    refine g_aload_n (pc := 195) dX12_findsBest_195 rfl rfl ?_
                    refine g_getR (pc := 196) (k := 55) (r := 85) kf_X12_107.r rfl rfl (hPl.get (by decide) rfl) (hPl.lt (by decide)) dX12_findsBest_196 ?_
                    refine g_iload (pc := 199) dX12_findsBest_199 rfl ?_
                    obtain ⟨c_112, hF⟩ := am_gd hF
                    refine g_iald (pc := 201) (k := 85) rfl (hPl.lt (by decide)) (am_ix_use c_112) dX12_findsBest_201 ?_
                    obtain ⟨c_113, hF⟩ := am_gd hF
                    obtain ⟨I_114, e_I_114, hF⟩ := am_let_el hF
                    refine n_iast (pc := 202) (k := 86) e_I_114 rfl (hPl.lt (by decide)) (am_ix_use c_113) dX12_findsBest_202 ?_
                    obtain ⟨l5_115, e_l5_115, hF⟩ := am_let_el hF
                    refine n_iinc (pc := 203) (ls2 := [.ref 55, .int l1_15, .int l2_16, .int r_26, .int l4_31, .int l5_115]) e_l5_115 rfl rfl rfl dX12_findsBest_203 (Nat.le_of_ble_eq_true rfl) ?_
                    refine g_goto (pc := 206) (tgt := 180) dX12_findsBest_206 rfl ?_
                    cases hF
                    exact ih_107 (l5_115, I_114) rfl
                  ) _ _ hL_109
                exact hC
          clear hF
          have hC := am_loop (C := fun x => G am_sc0 l d 0 0 mX12_findsBest (am_qv N P I2) 97 [.ref 55, .int l1_15, .int l2_16, .int r_26, .int l4_31, .int x.1] [] N P x.2 0 0) (by
            rintro ⟨l5_46, I_47⟩ rr hF ih_50 hE_51
            replace hF := am_u2_ap hF
            change G am_sc0 l d 0 0 mX12_findsBest (am_qv N P I2) 97 [.ref 55, .int l1_15, .int l2_16, .int r_26, .int l4_31, .int l5_46] [] N P I_47 0 0
            refine g_iload (pc := 97) dX12_findsBest_97 rfl ?_
            refine g_aload_n (pc := 99) dX12_findsBest_99 rfl rfl ?_
            refine g_getI (pc := 100) (k := 55) kf_X12_145.r rfl rfl (hPl.lt (by decide)) dX12_findsBest_100 ?_
            refine g_icmp_ge (pc := 103) (tgt := 153) dX12_findsBest_103 rfl (fun c_54 => ?_) (fun c_54 => ?_)
            · replace hF := am_yes c_54 hF
              cases hF
              cases hE_51 _ rfl
              exact g_weak hX_49 ⟨Or.inr rfl, Or.inr rfl, Or.inr rfl, Or.inr rfl, Or.inr rfl, Or.inl rfl, trivial⟩
            · replace hF := am_no c_54 hF
              refine g_iload_n (pc := 106) dX12_findsBest_106 rfl rfl ?_
              refine g_if_ne (pc := 107) (tgt := 130) dX12_findsBest_107 rfl (fun c_55 => ?_) (fun c_55 => ?_)
              · replace hF := am_no c_55 hF
                refine g_aload_n (pc := 130) dX12_findsBest_130 rfl rfl ?_
                refine g_getR (pc := 131) (k := 55) (r := 87) kf_X12_113.r rfl rfl (hPl.get (by decide) rfl) (hPl.lt (by decide)) dX12_findsBest_131 ?_
                refine g_iload (pc := 134) dX12_findsBest_134 rfl ?_
                refine g_iload (pc := 136) dX12_findsBest_136 rfl ?_
                refine g_aload_n (pc := 138) dX12_findsBest_138 rfl rfl ?_
                refine g_getR (pc := 139) (k := 55) (r := 85) kf_X12_107.r rfl rfl (hPl.get (by decide) rfl) (hPl.lt (by decide)) dX12_findsBest_139 ?_
                refine g_iload (pc := 142) dX12_findsBest_142 rfl ?_
                obtain ⟨c_56, hF⟩ := am_gd hF
                refine g_iald (pc := 144) (k := 85) rfl (hPl.lt (by decide)) (am_ix_use c_56) dX12_findsBest_144 ?_
                refine g_isub (pc := 145) dX12_findsBest_145 ?_
                obtain ⟨c_57, hF⟩ := am_gd hF
                obtain ⟨I_58, e_I_58, hF⟩ := am_let_el hF
                refine n_iast (pc := 146) (k := 87) e_I_58 rfl (hPl.lt (by decide)) (am_ix_use c_57) dX12_findsBest_146 ?_
                obtain ⟨l5_59, e_l5_59, hF⟩ := am_let_el hF
                refine n_iinc (pc := 147) (ls2 := [.ref 55, .int l1_15, .int l2_16, .int r_26, .int l4_31, .int l5_59]) e_l5_59 rfl rfl rfl dX12_findsBest_147 (Nat.le_of_ble_eq_true rfl) ?_
                refine g_goto (pc := 150) (tgt := 97) dX12_findsBest_150 rfl ?_
                cases hF
                exact ih_50 (l5_59, I_58) rfl
              · replace hF := am_yes c_55 hF
                refine g_iload (pc := 110) dX12_findsBest_110 rfl ?_
                refine g_aload_n (pc := 112) dX12_findsBest_112 rfl rfl ?_
                refine g_getR (pc := 113) (k := 55) (r := 85) kf_X12_107.r rfl rfl (hPl.get (by decide) rfl) (hPl.lt (by decide)) dX12_findsBest_113 ?_
                refine g_iload (pc := 116) dX12_findsBest_116 rfl ?_
                obtain ⟨c_60, hF⟩ := am_gd hF
                refine g_iald (pc := 118) (k := 85) rfl (hPl.lt (by decide)) (am_ix_use c_60) dX12_findsBest_118 ?_
                refine g_isub (pc := 119) dX12_findsBest_119 ?_
                refine g_aload_n (pc := 120) dX12_findsBest_120 rfl rfl ?_
                refine g_getR (pc := 121) (k := 55) (r := 87) kf_X12_113.r rfl rfl (hPl.get (by decide) rfl) (hPl.lt (by decide)) dX12_findsBest_121 ?_
                refine g_iload (pc := 124) dX12_findsBest_124 rfl ?_
                obtain ⟨c_61, hF⟩ := am_gd hF
                refine g_iald (pc := 126) (k := 87) rfl (hPl.lt (by decide)) (am_ix_use c_61) dX12_findsBest_126 ?_
                refine g_icmp_le (pc := 127) (tgt := 147) dX12_findsBest_127 rfl (fun c_62 => ?_) (fun c_62 => ?_)
                · replace hF := am_yes c_62 hF
                  obtain ⟨l5_63, e_l5_63, hF⟩ := am_let_el hF
                  refine n_iinc (pc := 147) (ls2 := [.ref 55, .int l1_15, .int l2_16, .int r_26, .int l4_31, .int l5_63]) e_l5_63 rfl rfl rfl dX12_findsBest_147 (Nat.le_of_ble_eq_true rfl) ?_
                  refine g_goto (pc := 150) (tgt := 97) dX12_findsBest_150 rfl ?_
                  cases hF
                  exact ih_50 (l5_63, I_47) rfl
                · replace hF := am_no c_62 hF
                  refine g_aload_n (pc := 130) dX12_findsBest_130 rfl rfl ?_
                  refine g_getR (pc := 131) (k := 55) (r := 87) kf_X12_113.r rfl rfl (hPl.get (by decide) rfl) (hPl.lt (by decide)) dX12_findsBest_131 ?_
                  refine g_iload (pc := 134) dX12_findsBest_134 rfl ?_
                  refine g_iload (pc := 136) dX12_findsBest_136 rfl ?_
                  refine g_aload_n (pc := 138) dX12_findsBest_138 rfl rfl ?_
                  refine g_getR (pc := 139) (k := 55) (r := 85) kf_X12_107.r rfl rfl (hPl.get (by decide) rfl) (hPl.lt (by decide)) dX12_findsBest_139 ?_
                  refine g_iload (pc := 142) dX12_findsBest_142 rfl ?_
                  obtain ⟨c_64, hF⟩ := am_gd hF
                  refine g_iald (pc := 144) (k := 85) rfl (hPl.lt (by decide)) (am_ix_use c_64) dX12_findsBest_144 ?_
                  refine g_isub (pc := 145) dX12_findsBest_145 ?_
                  obtain ⟨c_65, hF⟩ := am_gd hF
                  obtain ⟨I_66, e_I_66, hF⟩ := am_let_el hF
                  refine n_iast (pc := 146) (k := 87) e_I_66 rfl (hPl.lt (by decide)) (am_ix_use c_65) dX12_findsBest_146 ?_
                  obtain ⟨l5_67, e_l5_67, hF⟩ := am_let_el hF
                  refine n_iinc (pc := 147) (ls2 := [.ref 55, .int l1_15, .int l2_16, .int r_26, .int l4_31, .int l5_67]) e_l5_67 rfl rfl rfl dX12_findsBest_147 (Nat.le_of_ble_eq_true rfl) ?_
                  refine g_goto (pc := 150) (tgt := 97) dX12_findsBest_150 rfl ?_
                  cases hF
                  exact ih_50 (l5_67, I_66) rfl
            ) _ _ hL_52
          exact hC
        clear hF
        have hC := am_loop (C := fun x => G am_sc0 l d 0 0 mX12_findsBest (am_qv N P I2) 52 [.ref 55, .int l1_15, .int l2_16, .int r_26, .int x.1, .int x.2.1] [] N P x.2.2 0 0) (by
          rintro ⟨l4_28, l5_29, I_30⟩ rr hF ih_34 hE_35
          replace hF := am_u3_ap hF
          change G am_sc0 l d 0 0 mX12_findsBest (am_qv N P I2) 52 [.ref 55, .int l1_15, .int l2_16, .int r_26, .int l4_28, .int l5_29] [] N P I_30 0 0
          refine g_iload (pc := 52) dX12_findsBest_52 rfl ?_
          refine g_aload_n (pc := 54) dX12_findsBest_54 rfl rfl ?_
          refine g_getI (pc := 55) (k := 55) kf_X12_145.r rfl rfl (hPl.lt (by decide)) dX12_findsBest_55 ?_
          refine g_icmp_ge (pc := 58) (tgt := 94) dX12_findsBest_58 rfl (fun c_38 => ?_) (fun c_38 => ?_)
          · replace hF := am_yes c_38 hF
            cases hF
            cases hE_35 _ rfl
            exact g_weak hX_33 ⟨Or.inr rfl, Or.inr rfl, Or.inr rfl, Or.inr rfl, Or.inr rfl, Or.inl rfl, trivial⟩
          · replace hF := am_no c_38 hF
            refine g_aload_n (pc := 61) dX12_findsBest_61 rfl rfl ?_
            refine g_getR (pc := 62) (k := 55) (r := 85) kf_X12_107.r rfl rfl (hPl.get (by decide) rfl) (hPl.lt (by decide)) dX12_findsBest_62 ?_
            refine g_iload (pc := 65) dX12_findsBest_65 rfl ?_
            refine g_aload_n (pc := 67) dX12_findsBest_67 rfl rfl ?_
            refine g_iload (pc := 68) dX12_findsBest_68 rfl ?_
            refine g_bipush (pc := 70) (v := (21 : Int32)) dX12_findsBest_70 rfl ?_
            obtain ⟨r_40, h_39, hF⟩ := am_b1_el hF
            refine g_cVi (pc := 72) (k := 55) (As := [.int l5_29, .int (21 : Int32)]) (st := [.int l5_29, .ref 85]) ky_X12_worthOf kl_X12_289 (s_X12_worthOf_55 (d := 2) (hPl) (Nat.le_refl _) h_39) rfl rfl rfl (hPl.lt (by decide)) (Nat.le_trans (by decide) hd) (Nat.le_of_ble_eq_true rfl) (Nat.le_refl _) (Nat.le_refl _) dX12_findsBest_72 ?_
            obtain ⟨c_41, hF⟩ := am_gd hF
            obtain ⟨I_42, e_I_42, hF⟩ := am_let_el hF
            refine n_iast (pc := 75) (k := 85) e_I_42 rfl (hPl.lt (by decide)) (am_ix_use c_41) dX12_findsBest_75 ?_
            refine g_iload (pc := 76) dX12_findsBest_76 rfl ?_
            refine g_aload_n (pc := 78) dX12_findsBest_78 rfl rfl ?_
            refine g_getR (pc := 79) (k := 55) (r := 85) kf_X12_107.r rfl rfl (hPl.get (by decide) rfl) (hPl.lt (by decide)) dX12_findsBest_79 ?_
            refine g_iload (pc := 82) dX12_findsBest_82 rfl ?_
            obtain ⟨c_43, hF⟩ := am_gd hF
            refine g_iald (pc := 84) (k := 85) rfl (hPl.lt (by decide)) (am_ix_use c_43) dX12_findsBest_84 ?_
            refine g_iadd (pc := 85) dX12_findsBest_85 ?_
            obtain ⟨l4_44, e_l4_44, hF⟩ := am_let_el hF
            refine n_istore (pc := 86) (ls2 := [.ref 55, .int l1_15, .int l2_16, .int r_26, .int l4_44, .int l5_29]) e_l4_44 rfl dX12_findsBest_86 (Nat.le_of_ble_eq_true rfl) ?_
            obtain ⟨l5_45, e_l5_45, hF⟩ := am_let_el hF
            refine n_iinc (pc := 88) (ls2 := [.ref 55, .int l1_15, .int l2_16, .int r_26, .int l4_44, .int l5_45]) e_l5_45 rfl rfl rfl dX12_findsBest_88 (Nat.le_of_ble_eq_true rfl) ?_
            refine g_goto (pc := 91) (tgt := 52) dX12_findsBest_91 rfl ?_
            cases hF
            exact ih_34 (l4_44, l5_45, I_42) rfl
          ) _ _ hL_36
        exact hC
      ) _ _ hL_22
    exact hC
  clear hF
  have hC := am_loop (C := fun x => G am_sc0 l d 0 0 mX12_findsBest (am_qv N P I2) 6 [.ref 55, .int x.1, .null, .null, .null, .null] [] N P x.2 0 0) (by
    rintro ⟨l1_3, I_4⟩ rr hF ih_7 hE_8
    replace hF := am_u2_ap hF
    change G am_sc0 l d 0 0 mX12_findsBest (am_qv N P I2) 6 [.ref 55, .int l1_3, .null, .null, .null, .null] [] N P I_4 0 0
    refine g_iload_n (pc := 6) dX12_findsBest_6 rfl rfl ?_
    refine g_aload_n (pc := 7) dX12_findsBest_7 rfl rfl ?_
    refine g_getI (pc := 8) (k := 55) kf_X12_142.r rfl rfl (hPl.lt (by decide)) dX12_findsBest_8 ?_
    refine g_icmp_ge (pc := 11) (tgt := 30) dX12_findsBest_11 rfl (fun c_11 => ?_) (fun c_11 => ?_)
    · replace hF := am_yes c_11 hF
      cases hF
      cases hE_8 _ rfl
      exact g_weak hX_6 ⟨Or.inr rfl, Or.inl rfl, Or.inl rfl, Or.inl rfl, Or.inl rfl, Or.inl rfl, trivial⟩
    · replace hF := am_no c_11 hF
      refine g_aload_n (pc := 14) dX12_findsBest_14 rfl rfl ?_
      refine g_getR (pc := 15) (k := 55) (r := 72) kf_X12_62.r rfl rfl (hPl.get (by decide) rfl) (hPl.lt (by decide)) dX12_findsBest_15 ?_
      refine g_bipush (pc := 18) (v := (21 : Int32)) dX12_findsBest_18 rfl ?_
      refine g_iload_n (pc := 20) dX12_findsBest_20 rfl rfl ?_
      refine g_iadd (pc := 21) dX12_findsBest_21 ?_
      refine g_iconst (pc := 22) (v := (0 : Int32)) dX12_findsBest_22 rfl ?_
      obtain ⟨c_12, hF⟩ := am_gd hF
      obtain ⟨I_13, e_I_13, hF⟩ := am_let_el hF
      refine n_iast (pc := 23) (k := 72) e_I_13 rfl (hPl.lt (by decide)) (am_ix_use c_12) dX12_findsBest_23 ?_
      obtain ⟨l1_14, e_l1_14, hF⟩ := am_let_el hF
      refine n_iinc (pc := 24) (ls2 := [.ref 55, .int l1_14, .null, .null, .null, .null]) e_l1_14 rfl rfl rfl dX12_findsBest_24 (Nat.le_of_ble_eq_true rfl) ?_
      refine g_goto (pc := 27) (tgt := 6) dX12_findsBest_27 rfl ?_
      cases hF
      exact ih_7 (l1_14, I_13) rfl
    ) _ _ hL_9
  exact hC
def F_X12_dueOf_55 (I : am_IT) (a1 : Int32) : Option (Int32) := if am_ix a1 7 = true then (if am_ix a1 7 = true then (some ((I 87 a1.toNatClampNeg) - ((I 55 52) - (I 86 a1.toNatClampNeg)))) else none) else none
set_option maxRecDepth 100000 in
set_option maxHeartbeats 4000000 in
theorem s_X12_dueOf_55 {l : Launch} {d N : Nat} {P : am_PT} (hPl : am_Pl 94 N P) (hd : 1 ≤ d) {I : am_IT} {a1 : Int32} {r : Int32} (hF : F_X12_dueOf_55 I a1 = some (r)) : am_C l d 0 0 mX12_dueOf [.ref 55, .int a1] N P I (am_qi r N P I) := by
  refine am_body (sc := am_sc0) (n := 0) (by decide +kernel) (by decide) rfl ?_
  change G am_sc0 l d 0 0 mX12_dueOf (am_qi r N P I) 0 [.ref 55, .int a1] [] N P I 0 0
  unfold F_X12_dueOf_55 at hF
  refine g_aload_n (pc := 0) dX12_dueOf_0 rfl rfl ?_
  refine g_getR (pc := 1) (k := 55) (r := 87) kf_X12_113.r rfl rfl (hPl.get (by decide) rfl) (hPl.lt (by decide)) dX12_dueOf_1 ?_
  refine g_iload_n (pc := 4) dX12_dueOf_4 rfl rfl ?_
  obtain ⟨c_1, hF⟩ := am_gd hF
  refine g_iald (pc := 5) (k := 87) rfl (hPl.lt (by decide)) (am_ix_use c_1) dX12_dueOf_5 ?_
  refine g_aload_n (pc := 6) dX12_dueOf_6 rfl rfl ?_
  refine g_getI (pc := 7) (k := 55) kf_X12_324.r rfl rfl (hPl.lt (by decide)) dX12_dueOf_7 ?_
  refine g_aload_n (pc := 10) dX12_dueOf_10 rfl rfl ?_
  refine g_getR (pc := 11) (k := 55) (r := 86) kf_X12_110.r rfl rfl (hPl.get (by decide) rfl) (hPl.lt (by decide)) dX12_dueOf_11 ?_
  refine g_iload_n (pc := 14) dX12_dueOf_14 rfl rfl ?_
  obtain ⟨c_2, hF⟩ := am_gd hF
  refine g_iald (pc := 15) (k := 86) rfl (hPl.lt (by decide)) (am_ix_use c_2) dX12_dueOf_15 ?_
  refine g_isub (pc := 16) dX12_dueOf_16 ?_
  refine g_isub (pc := 17) dX12_dueOf_17 ?_
  cases hF
  exact g_iret (pc := 18) rfl (Nat.le_refl _) (Nat.le_refl _) dX12_dueOf_18 ⟨rfl, rfl, rfl, rfl⟩
def F_X12_best_55 (I : am_IT) (a1 : Int32) : Option (Int32 × am_IT) := am_let (up2 I 55 0 (0 : Int32)) (fun (I_1 : am_IT) => am_b1 (F_X12_isIn_55 I_1 a1 (0 : Int32) (2 : Int32)) (fun (r_3 : Int32) => if r_3 = 0 then (am_b1 (F_X12_isIn_55 I_1 a1 (10 : Int32) ((9 : Int32) + (I_1 55 5))) (fun (r_28 : Int32) => if r_28 = 0 then (some ((-100000 : Int32), I_1)) else (am_b1 (F_X12_findsBest_55 I_1) (fun (I_32 : am_IT) => if a1 = 0 then (some (I_32 55 52, I_32)) else (if a1 = (1 : Int32) then (some (I_32 55 53, I_32)) else (if a1 ≤ (2 : Int32) then (am_let (I_32 55 53) (fun (l2_36 : Int32) => am_b1 (am_it am_fu (am_u2 (fun (l2_37 : Int32) (l3_38 : Int32) => if (I_32 55 5) ≤ l3_38 then (some (.inr (l2_37))) else (am_b1 (F_X12_dueOf_55 I_32 l3_38) (fun (r_47 : Int32) => am_let (l2_37 - r_47) (fun (l2_48 : Int32) => am_let (l3_38 + (1 : Int32)) (fun (l3_49 : Int32) => some (.inl (l2_48, l3_49)))))))) (l2_36, (0 : Int32))) (fun (l2_39 : Int32) => some (l2_39, I_32)))) else (am_b1 (F_X12_dueOf_55 I_32 (a1 - (10 : Int32))) (fun (r_51 : Int32) => some (r_51, I_32))))))))) else (am_b1 (F_X12_findsBest_55 I_1) (fun (I_7 : am_IT) => if a1 = 0 then (some (I_7 55 52, I_7)) else (if a1 = (1 : Int32) then (some (I_7 55 53, I_7)) else (if a1 ≤ (2 : Int32) then (am_let (I_7 55 53) (fun (l2_11 : Int32) => am_b1 (am_it am_fu (am_u2 (fun (l2_12 : Int32) (l3_13 : Int32) => if (I_7 55 5) ≤ l3_13 then (some (.inr (l2_12))) else (am_b1 (F_X12_dueOf_55 I_7 l3_13) (fun (r_22 : Int32) => am_let (l2_12 - r_22) (fun (l2_23 : Int32) => am_let (l3_13 + (1 : Int32)) (fun (l3_24 : Int32) => some (.inl (l2_23, l3_24)))))))) (l2_11, (0 : Int32))) (fun (l2_14 : Int32) => some (l2_14, I_7)))) else (am_b1 (F_X12_dueOf_55 I_7 (a1 - (10 : Int32))) (fun (r_26 : Int32) => some (r_26, I_7)))))))))
set_option maxRecDepth 100000 in
set_option maxHeartbeats 4000000 in
theorem s_X12_best_55 {l : Launch} {d N : Nat} {P : am_PT} (hPl : am_Pl 94 N P) (hd : 4 ≤ d) {I : am_IT} {a1 : Int32} {r : Int32} {I2 : am_IT} (hF : F_X12_best_55 I a1 = some (r, I2)) : am_C l d 0 0 mX12_best [.ref 55, .int a1] N P I (am_qi r N P I2) := by
  refine am_body (sc := am_sc0) (n := 2) (by decide +kernel) (by decide) rfl ?_
  change G am_sc0 l d 0 0 mX12_best (am_qi r N P I2) 0 [.ref 55, .int a1, .null, .null] [] N P I 0 0
  unfold F_X12_best_55 at hF
  refine g_aload_n (pc := 0) dX12_best_0 rfl rfl ?_
  refine g_iconst (pc := 1) (v := (0 : Int32)) dX12_best_1 rfl ?_
  obtain ⟨I_1, e_I_1, hF⟩ := am_let_el hF
  refine n_putI (pc := 2) (k := 55) e_I_1 kf_X12_134 rfl rfl (hPl.lt (by decide)) dX12_best_2 ?_
  refine g_aload_n (pc := 5) dX12_best_5 rfl rfl ?_
  refine g_iload_n (pc := 6) dX12_best_6 rfl rfl ?_
  refine g_iconst (pc := 7) (v := (0 : Int32)) dX12_best_7 rfl ?_
  refine g_iconst (pc := 8) (v := (2 : Int32)) dX12_best_8 rfl ?_
  obtain ⟨r_3, h_2, hF⟩ := am_b1_el hF
  refine g_cVz (pc := 9) (k := 55) (As := [.int a1, .int (0 : Int32), .int (2 : Int32)]) (st := []) ky_X12_isIn kl_X12_148 (s_X12_isIn_55 (d := 1) (hPl) (Nat.le_refl _) h_2) rfl rfl rfl (hPl.lt (by decide)) (Nat.le_trans (by decide) hd) (Nat.le_of_ble_eq_true rfl) (Nat.le_refl _) (Nat.le_refl _) dX12_best_9 ?_
  intro z_4
  refine g_if_ne (pc := 12) (tgt := 36) dX12_best_12 rfl (fun c_5 => ?_) (fun c_5 => ?_)
  · replace hF := am_no c_5 hF
    refine g_aload_n (pc := 36) dX12_best_36 rfl rfl ?_
    obtain ⟨I_7, h_6, hF⟩ := am_b1_el hF
    refine g_cVv (pc := 37) (k := 55) (As := []) (st := []) ky_X12_findsBest kl_X12_334 (s_X12_findsBest_55 (d := 3) (hPl) (Nat.le_refl _) h_6) rfl rfl rfl (hPl.lt (by decide)) (Nat.le_trans (by decide) hd) (Nat.le_of_ble_eq_true rfl) (Nat.le_refl _) (Nat.le_refl _) dX12_best_37 ?_
    refine g_iload_n (pc := 40) dX12_best_40 rfl rfl ?_
    refine g_if_ne (pc := 41) (tgt := 49) dX12_best_41 rfl (fun c_8 => ?_) (fun c_8 => ?_)
    · replace hF := am_no c_8 hF
      refine g_iload_n (pc := 49) dX12_best_49 rfl rfl ?_
      refine g_iconst (pc := 50) (v := (1 : Int32)) dX12_best_50 rfl ?_
      refine g_icmp_ne (pc := 51) (tgt := 59) dX12_best_51 rfl (fun c_9 => ?_) (fun c_9 => ?_)
      · replace hF := am_no c_9 hF
        refine g_iload_n (pc := 59) dX12_best_59 rfl rfl ?_
        refine g_iconst (pc := 60) (v := (2 : Int32)) dX12_best_60 rfl ?_
        refine g_icmp_le (pc := 61) (tgt := 73) dX12_best_61 rfl (fun c_10 => ?_) (fun c_10 => ?_)
        · replace hF := am_yes c_10 hF
          refine g_aload_n (pc := 73) dX12_best_73 rfl rfl ?_
          refine g_getI (pc := 74) (k := 55) kf_X12_327.r rfl rfl (hPl.lt (by decide)) dX12_best_74 ?_
          obtain ⟨l2_11, e_l2_11, hF⟩ := am_let_el hF
          refine n_istore_n (pc := 77) (ls2 := [.ref 55, .int a1, .int l2_11, .null]) e_l2_11 rfl dX12_best_77 rfl (Nat.le_of_ble_eq_true rfl) ?_
          refine g_iconst (pc := 78) (v := (0 : Int32)) dX12_best_78 rfl ?_
          refine n_istore_n (pc := 79) (ls2 := [.ref 55, .int a1, .int l2_11, .int (0 : Int32)]) rfl rfl dX12_best_79 rfl (Nat.le_of_ble_eq_true rfl) ?_
          obtain ⟨l2_14, hL_18, hF⟩ := am_b1_el hF
          have hX_15 : G am_sc0 l d 0 0 mX12_best (am_qi r N P I2) 102 [.ref 55, .int a1, .int l2_14, .null] [] N P I_7 0 0 := by
            refine g_iload_n (pc := 102) dX12_best_102 rfl rfl ?_
            cases hF
            exact g_iret (pc := 103) rfl (Nat.le_refl _) (Nat.le_refl _) dX12_best_103 ⟨rfl, rfl, rfl, rfl⟩
          clear hF
          have hC := am_loop (C := fun x => G am_sc0 l d 0 0 mX12_best (am_qi r N P I2) 80 [.ref 55, .int a1, .int x.1, .int x.2] [] N P I_7 0 0) (by
            rintro ⟨l2_12, l3_13⟩ rr hF ih_16 hE_17
            replace hF := am_u2_ap hF
            change G am_sc0 l d 0 0 mX12_best (am_qi r N P I2) 80 [.ref 55, .int a1, .int l2_12, .int l3_13] [] N P I_7 0 0
            refine g_iload_n (pc := 80) dX12_best_80 rfl rfl ?_
            refine g_aload_n (pc := 81) dX12_best_81 rfl rfl ?_
            refine g_getI (pc := 82) (k := 55) kf_X12_145.r rfl rfl (hPl.lt (by decide)) dX12_best_82 ?_
            refine g_icmp_ge (pc := 85) (tgt := 102) dX12_best_85 rfl (fun c_20 => ?_) (fun c_20 => ?_)
            · replace hF := am_yes c_20 hF
              cases hF
              cases hE_17 _ rfl
              exact g_weak hX_15 ⟨Or.inr rfl, Or.inr rfl, Or.inr rfl, Or.inl rfl, trivial⟩
            · replace hF := am_no c_20 hF
              refine g_iload_n (pc := 88) dX12_best_88 rfl rfl ?_
              refine g_aload_n (pc := 89) dX12_best_89 rfl rfl ?_
              refine g_iload_n (pc := 90) dX12_best_90 rfl rfl ?_
              obtain ⟨r_22, h_21, hF⟩ := am_b1_el hF
              refine g_cVi (pc := 91) (k := 55) (As := [.int l3_13]) (st := [.int l2_12]) ky_X12_dueOf kl_X12_337 (s_X12_dueOf_55 (d := 1) (hPl) (Nat.le_refl _) h_21) rfl rfl rfl (hPl.lt (by decide)) (Nat.le_trans (by decide) hd) (Nat.le_of_ble_eq_true rfl) (Nat.le_refl _) (Nat.le_refl _) dX12_best_91 ?_
              refine g_isub (pc := 94) dX12_best_94 ?_
              obtain ⟨l2_23, e_l2_23, hF⟩ := am_let_el hF
              refine n_istore_n (pc := 95) (ls2 := [.ref 55, .int a1, .int l2_23, .int l3_13]) e_l2_23 rfl dX12_best_95 rfl (Nat.le_of_ble_eq_true rfl) ?_
              obtain ⟨l3_24, e_l3_24, hF⟩ := am_let_el hF
              refine n_iinc (pc := 96) (ls2 := [.ref 55, .int a1, .int l2_23, .int l3_24]) e_l3_24 rfl rfl rfl dX12_best_96 (Nat.le_of_ble_eq_true rfl) ?_
              refine g_goto (pc := 99) (tgt := 80) dX12_best_99 rfl ?_
              cases hF
              exact ih_16 (l2_23, l3_24) rfl
            ) _ _ hL_18
          exact hC
        · replace hF := am_no c_10 hF
          refine g_aload_n (pc := 64) dX12_best_64 rfl rfl ?_
          refine g_iload_n (pc := 65) dX12_best_65 rfl rfl ?_
          refine g_bipush (pc := 66) (v := (10 : Int32)) dX12_best_66 rfl ?_
          refine g_isub (pc := 68) dX12_best_68 ?_
          obtain ⟨r_26, h_25, hF⟩ := am_b1_el hF
          refine g_cVi (pc := 69) (k := 55) (As := [.int (a1 - (10 : Int32))]) (st := []) ky_X12_dueOf kl_X12_337 (s_X12_dueOf_55 (d := 1) (hPl) (Nat.le_refl _) h_25) rfl rfl rfl (hPl.lt (by decide)) (Nat.le_trans (by decide) hd) (Nat.le_of_ble_eq_true rfl) (Nat.le_refl _) (Nat.le_refl _) dX12_best_69 ?_
          cases hF
          exact g_iret (pc := 72) rfl (Nat.le_refl _) (Nat.le_refl _) dX12_best_72 ⟨rfl, rfl, rfl, rfl⟩
      · replace hF := am_yes c_9 hF
        refine g_aload_n (pc := 54) dX12_best_54 rfl rfl ?_
        refine g_getI (pc := 55) (k := 55) kf_X12_327.r rfl rfl (hPl.lt (by decide)) dX12_best_55 ?_
        cases hF
        exact g_iret (pc := 58) rfl (Nat.le_refl _) (Nat.le_refl _) dX12_best_58 ⟨rfl, rfl, rfl, rfl⟩
    · replace hF := am_yes c_8 hF
      refine g_aload_n (pc := 44) dX12_best_44 rfl rfl ?_
      refine g_getI (pc := 45) (k := 55) kf_X12_324.r rfl rfl (hPl.lt (by decide)) dX12_best_45 ?_
      cases hF
      exact g_iret (pc := 48) rfl (Nat.le_refl _) (Nat.le_refl _) dX12_best_48 ⟨rfl, rfl, rfl, rfl⟩
  · replace hF := am_yes c_5 hF
    refine g_aload_n (pc := 15) dX12_best_15 rfl rfl ?_
    refine g_iload_n (pc := 16) dX12_best_16 rfl rfl ?_
    refine g_bipush (pc := 17) (v := (10 : Int32)) dX12_best_17 rfl ?_
    refine g_bipush (pc := 19) (v := (9 : Int32)) dX12_best_19 rfl ?_
    refine g_aload_n (pc := 21) dX12_best_21 rfl rfl ?_
    refine g_getI (pc := 22) (k := 55) kf_X12_145.r rfl rfl (hPl.lt (by decide)) dX12_best_22 ?_
    refine g_iadd (pc := 25) dX12_best_25 ?_
    obtain ⟨r_28, h_27, hF⟩ := am_b1_el hF
    refine g_cVz (pc := 26) (k := 55) (As := [.int a1, .int (10 : Int32), .int ((9 : Int32) + (I_1 55 5))]) (st := []) ky_X12_isIn kl_X12_148 (s_X12_isIn_55 (d := 1) (hPl) (Nat.le_refl _) h_27) rfl rfl rfl (hPl.lt (by decide)) (Nat.le_trans (by decide) hd) (Nat.le_of_ble_eq_true rfl) (Nat.le_refl _) (Nat.le_refl _) dX12_best_26 ?_
    intro z_29
    refine g_if_ne (pc := 29) (tgt := 36) dX12_best_29 rfl (fun c_30 => ?_) (fun c_30 => ?_)
    · replace hF := am_no c_30 hF
      refine g_aload_n (pc := 36) dX12_best_36 rfl rfl ?_
      obtain ⟨I_32, h_31, hF⟩ := am_b1_el hF
      refine g_cVv (pc := 37) (k := 55) (As := []) (st := []) ky_X12_findsBest kl_X12_334 (s_X12_findsBest_55 (d := 3) (hPl) (Nat.le_refl _) h_31) rfl rfl rfl (hPl.lt (by decide)) (Nat.le_trans (by decide) hd) (Nat.le_of_ble_eq_true rfl) (Nat.le_refl _) (Nat.le_refl _) dX12_best_37 ?_
      refine g_iload_n (pc := 40) dX12_best_40 rfl rfl ?_
      refine g_if_ne (pc := 41) (tgt := 49) dX12_best_41 rfl (fun c_33 => ?_) (fun c_33 => ?_)
      · replace hF := am_no c_33 hF
        refine g_iload_n (pc := 49) dX12_best_49 rfl rfl ?_
        refine g_iconst (pc := 50) (v := (1 : Int32)) dX12_best_50 rfl ?_
        refine g_icmp_ne (pc := 51) (tgt := 59) dX12_best_51 rfl (fun c_34 => ?_) (fun c_34 => ?_)
        · replace hF := am_no c_34 hF
          refine g_iload_n (pc := 59) dX12_best_59 rfl rfl ?_
          refine g_iconst (pc := 60) (v := (2 : Int32)) dX12_best_60 rfl ?_
          refine g_icmp_le (pc := 61) (tgt := 73) dX12_best_61 rfl (fun c_35 => ?_) (fun c_35 => ?_)
          · replace hF := am_yes c_35 hF
            refine g_aload_n (pc := 73) dX12_best_73 rfl rfl ?_
            refine g_getI (pc := 74) (k := 55) kf_X12_327.r rfl rfl (hPl.lt (by decide)) dX12_best_74 ?_
            obtain ⟨l2_36, e_l2_36, hF⟩ := am_let_el hF
            refine n_istore_n (pc := 77) (ls2 := [.ref 55, .int a1, .int l2_36, .null]) e_l2_36 rfl dX12_best_77 rfl (Nat.le_of_ble_eq_true rfl) ?_
            refine g_iconst (pc := 78) (v := (0 : Int32)) dX12_best_78 rfl ?_
            refine n_istore_n (pc := 79) (ls2 := [.ref 55, .int a1, .int l2_36, .int (0 : Int32)]) rfl rfl dX12_best_79 rfl (Nat.le_of_ble_eq_true rfl) ?_
            obtain ⟨l2_39, hL_43, hF⟩ := am_b1_el hF
            have hX_40 : G am_sc0 l d 0 0 mX12_best (am_qi r N P I2) 102 [.ref 55, .int a1, .int l2_39, .null] [] N P I_32 0 0 := by
              refine g_iload_n (pc := 102) dX12_best_102 rfl rfl ?_
              cases hF
              exact g_iret (pc := 103) rfl (Nat.le_refl _) (Nat.le_refl _) dX12_best_103 ⟨rfl, rfl, rfl, rfl⟩
            clear hF
            have hC := am_loop (C := fun x => G am_sc0 l d 0 0 mX12_best (am_qi r N P I2) 80 [.ref 55, .int a1, .int x.1, .int x.2] [] N P I_32 0 0) (by
              rintro ⟨l2_37, l3_38⟩ rr hF ih_41 hE_42
              replace hF := am_u2_ap hF
              change G am_sc0 l d 0 0 mX12_best (am_qi r N P I2) 80 [.ref 55, .int a1, .int l2_37, .int l3_38] [] N P I_32 0 0
              refine g_iload_n (pc := 80) dX12_best_80 rfl rfl ?_
              refine g_aload_n (pc := 81) dX12_best_81 rfl rfl ?_
              refine g_getI (pc := 82) (k := 55) kf_X12_145.r rfl rfl (hPl.lt (by decide)) dX12_best_82 ?_
              refine g_icmp_ge (pc := 85) (tgt := 102) dX12_best_85 rfl (fun c_45 => ?_) (fun c_45 => ?_)
              · replace hF := am_yes c_45 hF
                cases hF
                cases hE_42 _ rfl
                exact g_weak hX_40 ⟨Or.inr rfl, Or.inr rfl, Or.inr rfl, Or.inl rfl, trivial⟩
              · replace hF := am_no c_45 hF
                refine g_iload_n (pc := 88) dX12_best_88 rfl rfl ?_
                refine g_aload_n (pc := 89) dX12_best_89 rfl rfl ?_
                refine g_iload_n (pc := 90) dX12_best_90 rfl rfl ?_
                obtain ⟨r_47, h_46, hF⟩ := am_b1_el hF
                refine g_cVi (pc := 91) (k := 55) (As := [.int l3_38]) (st := [.int l2_37]) ky_X12_dueOf kl_X12_337 (s_X12_dueOf_55 (d := 1) (hPl) (Nat.le_refl _) h_46) rfl rfl rfl (hPl.lt (by decide)) (Nat.le_trans (by decide) hd) (Nat.le_of_ble_eq_true rfl) (Nat.le_refl _) (Nat.le_refl _) dX12_best_91 ?_
                refine g_isub (pc := 94) dX12_best_94 ?_
                obtain ⟨l2_48, e_l2_48, hF⟩ := am_let_el hF
                refine n_istore_n (pc := 95) (ls2 := [.ref 55, .int a1, .int l2_48, .int l3_38]) e_l2_48 rfl dX12_best_95 rfl (Nat.le_of_ble_eq_true rfl) ?_
                obtain ⟨l3_49, e_l3_49, hF⟩ := am_let_el hF
                refine n_iinc (pc := 96) (ls2 := [.ref 55, .int a1, .int l2_48, .int l3_49]) e_l3_49 rfl rfl rfl dX12_best_96 (Nat.le_of_ble_eq_true rfl) ?_
                refine g_goto (pc := 99) (tgt := 80) dX12_best_99 rfl ?_
                cases hF
                exact ih_41 (l2_48, l3_49) rfl
              ) _ _ hL_43
            exact hC
          · replace hF := am_no c_35 hF
            refine g_aload_n (pc := 64) dX12_best_64 rfl rfl ?_
            refine g_iload_n (pc := 65) dX12_best_65 rfl rfl ?_
            refine g_bipush (pc := 66) (v := (10 : Int32)) dX12_best_66 rfl ?_
            refine g_isub (pc := 68) dX12_best_68 ?_
            obtain ⟨r_51, h_50, hF⟩ := am_b1_el hF
            refine g_cVi (pc := 69) (k := 55) (As := [.int (a1 - (10 : Int32))]) (st := []) ky_X12_dueOf kl_X12_337 (s_X12_dueOf_55 (d := 1) (hPl) (Nat.le_refl _) h_50) rfl rfl rfl (hPl.lt (by decide)) (Nat.le_trans (by decide) hd) (Nat.le_of_ble_eq_true rfl) (Nat.le_refl _) (Nat.le_refl _) dX12_best_69 ?_
            cases hF
            exact g_iret (pc := 72) rfl (Nat.le_refl _) (Nat.le_refl _) dX12_best_72 ⟨rfl, rfl, rfl, rfl⟩
        · replace hF := am_yes c_34 hF
          refine g_aload_n (pc := 54) dX12_best_54 rfl rfl ?_
          refine g_getI (pc := 55) (k := 55) kf_X12_327.r rfl rfl (hPl.lt (by decide)) dX12_best_55 ?_
          cases hF
          exact g_iret (pc := 58) rfl (Nat.le_refl _) (Nat.le_refl _) dX12_best_58 ⟨rfl, rfl, rfl, rfl⟩
      · replace hF := am_yes c_33 hF
        refine g_aload_n (pc := 44) dX12_best_44 rfl rfl ?_
        refine g_getI (pc := 45) (k := 55) kf_X12_324.r rfl rfl (hPl.lt (by decide)) dX12_best_45 ?_
        cases hF
        exact g_iret (pc := 48) rfl (Nat.le_refl _) (Nat.le_refl _) dX12_best_48 ⟨rfl, rfl, rfl, rfl⟩
    · replace hF := am_yes c_30 hF
      refine g_ldcw (pc := 32) dX12_best_32 kc_X12_285 ?_
      cases hF
      exact g_iret (pc := 35) rfl (Nat.le_refl _) (Nat.le_refl _) dX12_best_35 ⟨rfl, rfl, rfl, rfl⟩
def F_X12_colour_55 (I : am_IT) (a1 : Int32) (a2 : Int32) : Option (Int32 × am_IT) := am_let (up2 I 55 0 (0 : Int32)) (fun (I_1 : am_IT) => am_b1 (F_X12_isWall_55 I_1 a1) (fun (r_3 : Int32) => if r_3 = 0 then (some ((-1 : Int32), I_1)) else (am_b1 (F_X12_isIn_55 I_1 a2 (0 : Int32) (2 : Int32)) (fun (r_7 : Int32) => if r_7 = 0 then (some ((-1 : Int32), I_1)) else (if a2 = 0 then (if am_ix ((0 : Int32) + a1) 35 = true then (some (I_1 72 ((0 : Int32) + a1).toNatClampNeg, I_1)) else none) else (if a2 = (1 : Int32) then (am_b1 (F_X12_judges_55 I_1 (7 : Int32)) (fun (I_16 : am_IT) => if am_ix ((7 : Int32) + a1) 35 = true then (some (I_16 72 ((7 : Int32) + a1).toNatClampNeg, I_16)) else none)) else (am_b1 (F_X12_findsBest_55 I_1) (fun (I_13 : am_IT) => if am_ix ((14 : Int32) + a1) 35 = true then (some (I_13 72 ((14 : Int32) + a1).toNatClampNeg, I_13)) else none))))))))
set_option maxRecDepth 100000 in
set_option maxHeartbeats 4000000 in
theorem s_X12_colour_55 {l : Launch} {d N : Nat} {P : am_PT} (hPl : am_Pl 94 N P) (hd : 6 ≤ d) {I : am_IT} {a1 : Int32} {a2 : Int32} {r : Int32} {I2 : am_IT} (hF : F_X12_colour_55 I a1 a2 = some (r, I2)) : am_C l d 0 0 mX12_colour [.ref 55, .int a1, .int a2] N P I (am_qi r N P I2) := by
  refine am_body (sc := am_sc0) (n := 0) (by decide +kernel) (by decide) rfl ?_
  change G am_sc0 l d 0 0 mX12_colour (am_qi r N P I2) 0 [.ref 55, .int a1, .int a2] [] N P I 0 0
  unfold F_X12_colour_55 at hF
  refine g_aload_n (pc := 0) dX12_colour_0 rfl rfl ?_
  refine g_iconst (pc := 1) (v := (0 : Int32)) dX12_colour_1 rfl ?_
  obtain ⟨I_1, e_I_1, hF⟩ := am_let_el hF
  refine n_putI (pc := 2) (k := 55) e_I_1 kf_X12_134 rfl rfl (hPl.lt (by decide)) dX12_colour_2 ?_
  refine g_aload_n (pc := 5) dX12_colour_5 rfl rfl ?_
  refine g_iload_n (pc := 6) dX12_colour_6 rfl rfl ?_
  obtain ⟨r_3, h_2, hF⟩ := am_b1_el hF
  refine g_cVz (pc := 7) (k := 55) (As := [.int a1]) (st := []) ky_X12_isWall kl_X12_178 (s_X12_isWall_55 (d := 1) (hPl) (Nat.le_refl _) h_2) rfl rfl rfl (hPl.lt (by decide)) (Nat.le_trans (by decide) hd) (Nat.le_of_ble_eq_true rfl) (Nat.le_refl _) (Nat.le_refl _) dX12_colour_7 ?_
  intro z_4
  refine g_if_eq (pc := 10) (tgt := 23) dX12_colour_10 rfl (fun c_5 => ?_) (fun c_5 => ?_)
  · replace hF := am_yes c_5 hF
    refine g_iconst (pc := 23) (v := (-1 : Int32)) dX12_colour_23 (by decide) ?_
    cases hF
    exact g_iret (pc := 24) rfl (Nat.le_refl _) (Nat.le_refl _) dX12_colour_24 ⟨rfl, rfl, rfl, rfl⟩
  · replace hF := am_no c_5 hF
    refine g_aload_n (pc := 13) dX12_colour_13 rfl rfl ?_
    refine g_iload_n (pc := 14) dX12_colour_14 rfl rfl ?_
    refine g_iconst (pc := 15) (v := (0 : Int32)) dX12_colour_15 rfl ?_
    refine g_iconst (pc := 16) (v := (2 : Int32)) dX12_colour_16 rfl ?_
    obtain ⟨r_7, h_6, hF⟩ := am_b1_el hF
    refine g_cVz (pc := 17) (k := 55) (As := [.int a2, .int (0 : Int32), .int (2 : Int32)]) (st := []) ky_X12_isIn kl_X12_148 (s_X12_isIn_55 (d := 1) (hPl) (Nat.le_refl _) h_6) rfl rfl rfl (hPl.lt (by decide)) (Nat.le_trans (by decide) hd) (Nat.le_of_ble_eq_true rfl) (Nat.le_refl _) (Nat.le_refl _) dX12_colour_17 ?_
    intro z_8
    refine g_if_ne (pc := 20) (tgt := 25) dX12_colour_20 rfl (fun c_9 => ?_) (fun c_9 => ?_)
    · replace hF := am_no c_9 hF
      refine g_iload_n (pc := 25) dX12_colour_25 rfl rfl ?_
      refine g_if_ne (pc := 26) (tgt := 38) dX12_colour_26 rfl (fun c_10 => ?_) (fun c_10 => ?_)
      · replace hF := am_no c_10 hF
        refine g_iload_n (pc := 38) dX12_colour_38 rfl rfl ?_
        refine g_iconst (pc := 39) (v := (1 : Int32)) dX12_colour_39 rfl ?_
        refine g_icmp_ne (pc := 40) (tgt := 59) dX12_colour_40 rfl (fun c_11 => ?_) (fun c_11 => ?_)
        · replace hF := am_no c_11 hF
          refine g_aload_n (pc := 59) dX12_colour_59 rfl rfl ?_
          obtain ⟨I_13, h_12, hF⟩ := am_b1_el hF
          refine g_cVv (pc := 60) (k := 55) (As := []) (st := []) ky_X12_findsBest kl_X12_334 (s_X12_findsBest_55 (d := 3) (hPl) (Nat.le_refl _) h_12) rfl rfl rfl (hPl.lt (by decide)) (Nat.le_trans (by decide) hd) (Nat.le_of_ble_eq_true rfl) (Nat.le_refl _) (Nat.le_refl _) dX12_colour_60 ?_
          refine g_aload_n (pc := 63) dX12_colour_63 rfl rfl ?_
          refine g_getR (pc := 64) (k := 55) (r := 72) kf_X12_62.r rfl rfl (hPl.get (by decide) rfl) (hPl.lt (by decide)) dX12_colour_64 ?_
          refine g_bipush (pc := 67) (v := (14 : Int32)) dX12_colour_67 rfl ?_
          refine g_iload_n (pc := 69) dX12_colour_69 rfl rfl ?_
          refine g_iadd (pc := 70) dX12_colour_70 ?_
          obtain ⟨c_14, hF⟩ := am_gd hF
          refine g_iald (pc := 71) (k := 72) rfl (hPl.lt (by decide)) (am_ix_use c_14) dX12_colour_71 ?_
          cases hF
          exact g_iret (pc := 72) rfl (Nat.le_refl _) (Nat.le_refl _) dX12_colour_72 ⟨rfl, rfl, rfl, rfl⟩
        · replace hF := am_yes c_11 hF
          refine g_aload_n (pc := 43) dX12_colour_43 rfl rfl ?_
          refine g_bipush (pc := 44) (v := (7 : Int32)) dX12_colour_44 rfl ?_
          obtain ⟨I_16, h_15, hF⟩ := am_b1_el hF
          refine g_cVv (pc := 46) (k := 55) (As := [.int (7 : Int32)]) (st := []) ky_X12_judges kl_X12_318 (s_X12_judges_55 (d := 5) (hPl) (Nat.le_refl _) h_15) rfl rfl rfl (hPl.lt (by decide)) (Nat.le_trans (by decide) hd) (Nat.le_of_ble_eq_true rfl) (Nat.le_refl _) (Nat.le_refl _) dX12_colour_46 ?_
          refine g_aload_n (pc := 49) dX12_colour_49 rfl rfl ?_
          refine g_getR (pc := 50) (k := 55) (r := 72) kf_X12_62.r rfl rfl (hPl.get (by decide) rfl) (hPl.lt (by decide)) dX12_colour_50 ?_
          refine g_bipush (pc := 53) (v := (7 : Int32)) dX12_colour_53 rfl ?_
          refine g_iload_n (pc := 55) dX12_colour_55 rfl rfl ?_
          refine g_iadd (pc := 56) dX12_colour_56 ?_
          obtain ⟨c_17, hF⟩ := am_gd hF
          refine g_iald (pc := 57) (k := 72) rfl (hPl.lt (by decide)) (am_ix_use c_17) dX12_colour_57 ?_
          cases hF
          exact g_iret (pc := 58) rfl (Nat.le_refl _) (Nat.le_refl _) dX12_colour_58 ⟨rfl, rfl, rfl, rfl⟩
      · replace hF := am_yes c_10 hF
        refine g_aload_n (pc := 29) dX12_colour_29 rfl rfl ?_
        refine g_getR (pc := 30) (k := 55) (r := 72) kf_X12_62.r rfl rfl (hPl.get (by decide) rfl) (hPl.lt (by decide)) dX12_colour_30 ?_
        refine g_iconst (pc := 33) (v := (0 : Int32)) dX12_colour_33 rfl ?_
        refine g_iload_n (pc := 34) dX12_colour_34 rfl rfl ?_
        refine g_iadd (pc := 35) dX12_colour_35 ?_
        obtain ⟨c_18, hF⟩ := am_gd hF
        refine g_iald (pc := 36) (k := 72) rfl (hPl.lt (by decide)) (am_ix_use c_18) dX12_colour_36 ?_
        cases hF
        exact g_iret (pc := 37) rfl (Nat.le_refl _) (Nat.le_refl _) dX12_colour_37 ⟨rfl, rfl, rfl, rfl⟩
    · replace hF := am_yes c_9 hF
      refine g_iconst (pc := 23) (v := (-1 : Int32)) dX12_colour_23 (by decide) ?_
      cases hF
      exact g_iret (pc := 24) rfl (Nat.le_refl _) (Nat.le_refl _) dX12_colour_24 ⟨rfl, rfl, rfl, rfl⟩
def F_X12_becomes_55 (I : am_IT) (a1 : Int32) : Option (Int32 × am_IT) := am_b2 (am_it am_fu (am_u3 (fun (l2_1 : Int32) (l3_2 : Int32) (I_3 : am_IT) => if (I_3 55 4) ≤ l3_2 then (some (.inr (l2_1, I_3))) else (if am_ix ((0 : Int32) + l3_2) 35 = true then (if am_ix (a1 + l3_2) 35 = true then (am_b1 (if (I_3 72 ((0 : Int32) + l3_2).toNatClampNeg) = (I_3 72 (a1 + l3_2).toNatClampNeg) then (some (l2_1)) else (am_let (l2_1 + (1 : Int32)) (fun (l2_18 : Int32) => some (l2_18)))) (fun (l2_15 : Int32) => if am_ix (a1 + l3_2) 35 = true then (if am_ix ((0 : Int32) + l3_2) 35 = true then (am_let (up2 I_3 72 ((0 : Int32) + l3_2).toNatClampNeg (I_3 72 (a1 + l3_2).toNatClampNeg)) (fun (I_21 : am_IT) => am_let (l3_2 + (1 : Int32)) (fun (l3_22 : Int32) => some (.inl (l2_15, l3_22, I_21))))) else none) else none)) else none) else none))) ((0 : Int32), (0 : Int32), I)) (fun (l2_4 : Int32) (I_5 : am_IT) => some (l2_4, I_5))
set_option maxRecDepth 100000 in
set_option maxHeartbeats 4000000 in
theorem s_X12_becomes_55 {l : Launch} {d N : Nat} {P : am_PT} (hPl : am_Pl 94 N P) (hd : 1 ≤ d) {I : am_IT} {a1 : Int32} {r : Int32} {I2 : am_IT} (hF : F_X12_becomes_55 I a1 = some (r, I2)) : am_C l d 0 0 mX12_becomes [.ref 55, .int a1] N P I (am_qi r N P I2) := by
  refine am_body (sc := am_sc0) (n := 2) (by decide +kernel) (by decide) rfl ?_
  change G am_sc0 l d 0 0 mX12_becomes (am_qi r N P I2) 0 [.ref 55, .int a1, .null, .null] [] N P I 0 0
  unfold F_X12_becomes_55 at hF
  refine g_iconst (pc := 0) (v := (0 : Int32)) dX12_becomes_0 rfl ?_
  refine n_istore_n (pc := 1) (ls2 := [.ref 55, .int a1, .int (0 : Int32), .null]) rfl rfl dX12_becomes_1 rfl (Nat.le_of_ble_eq_true rfl) ?_
  refine g_iconst (pc := 2) (v := (0 : Int32)) dX12_becomes_2 rfl ?_
  refine n_istore_n (pc := 3) (ls2 := [.ref 55, .int a1, .int (0 : Int32), .int (0 : Int32)]) rfl rfl dX12_becomes_3 rfl (Nat.le_of_ble_eq_true rfl) ?_
  obtain ⟨l2_4, I_5, hL_9, hF⟩ := am_b2_el hF
  have hX_6 : G am_sc0 l d 0 0 mX12_becomes (am_qi r N P I2) 57 [.ref 55, .int a1, .int l2_4, .null] [] N P I_5 0 0 := by
    refine g_iload_n (pc := 57) dX12_becomes_57 rfl rfl ?_
    cases hF
    exact g_iret (pc := 58) rfl (Nat.le_refl _) (Nat.le_refl _) dX12_becomes_58 ⟨rfl, rfl, rfl, rfl⟩
  clear hF
  have hC := am_loop (C := fun x => G am_sc0 l d 0 0 mX12_becomes (am_qi r N P I2) 4 [.ref 55, .int a1, .int x.1, .int x.2.1] [] N P x.2.2 0 0) (by
    rintro ⟨l2_1, l3_2, I_3⟩ rr hF ih_7 hE_8
    replace hF := am_u3_ap hF
    change G am_sc0 l d 0 0 mX12_becomes (am_qi r N P I2) 4 [.ref 55, .int a1, .int l2_1, .int l3_2] [] N P I_3 0 0
    refine g_iload_n (pc := 4) dX12_becomes_4 rfl rfl ?_
    refine g_aload_n (pc := 5) dX12_becomes_5 rfl rfl ?_
    refine g_getI (pc := 6) (k := 55) kf_X12_142.r rfl rfl (hPl.lt (by decide)) dX12_becomes_6 ?_
    refine g_icmp_ge (pc := 9) (tgt := 57) dX12_becomes_9 rfl (fun c_11 => ?_) (fun c_11 => ?_)
    · replace hF := am_yes c_11 hF
      cases hF
      cases hE_8 _ rfl
      exact g_weak hX_6 ⟨Or.inr rfl, Or.inr rfl, Or.inr rfl, Or.inl rfl, trivial⟩
    · replace hF := am_no c_11 hF
      refine g_aload_n (pc := 12) dX12_becomes_12 rfl rfl ?_
      refine g_getR (pc := 13) (k := 55) (r := 72) kf_X12_62.r rfl rfl (hPl.get (by decide) rfl) (hPl.lt (by decide)) dX12_becomes_13 ?_
      refine g_iconst (pc := 16) (v := (0 : Int32)) dX12_becomes_16 rfl ?_
      refine g_iload_n (pc := 17) dX12_becomes_17 rfl rfl ?_
      refine g_iadd (pc := 18) dX12_becomes_18 ?_
      obtain ⟨c_12, hF⟩ := am_gd hF
      refine g_iald (pc := 19) (k := 72) rfl (hPl.lt (by decide)) (am_ix_use c_12) dX12_becomes_19 ?_
      refine g_aload_n (pc := 20) dX12_becomes_20 rfl rfl ?_
      refine g_getR (pc := 21) (k := 55) (r := 72) kf_X12_62.r rfl rfl (hPl.get (by decide) rfl) (hPl.lt (by decide)) dX12_becomes_21 ?_
      refine g_iload_n (pc := 24) dX12_becomes_24 rfl rfl ?_
      refine g_iload_n (pc := 25) dX12_becomes_25 rfl rfl ?_
      refine g_iadd (pc := 26) dX12_becomes_26 ?_
      obtain ⟨c_13, hF⟩ := am_gd hF
      refine g_iald (pc := 27) (k := 72) rfl (hPl.lt (by decide)) (am_ix_use c_13) dX12_becomes_27 ?_
      obtain ⟨l2_15, hR_16, hF⟩ := am_b1_el hF
      have hJ_17 : G am_sc0 l d 0 0 mX12_becomes (am_qi r N P I2) 35 [.ref 55, .int a1, .int l2_15, .int l3_2] [] N P I_3 0 0 := by
        refine g_aload_n (pc := 35) dX12_becomes_35 rfl rfl ?_
        refine g_getR (pc := 36) (k := 55) (r := 72) kf_X12_62.r rfl rfl (hPl.get (by decide) rfl) (hPl.lt (by decide)) dX12_becomes_36 ?_
        refine g_iconst (pc := 39) (v := (0 : Int32)) dX12_becomes_39 rfl ?_
        refine g_iload_n (pc := 40) dX12_becomes_40 rfl rfl ?_
        refine g_iadd (pc := 41) dX12_becomes_41 ?_
        refine g_aload_n (pc := 42) dX12_becomes_42 rfl rfl ?_
        refine g_getR (pc := 43) (k := 55) (r := 72) kf_X12_62.r rfl rfl (hPl.get (by decide) rfl) (hPl.lt (by decide)) dX12_becomes_43 ?_
        refine g_iload_n (pc := 46) dX12_becomes_46 rfl rfl ?_
        refine g_iload_n (pc := 47) dX12_becomes_47 rfl rfl ?_
        refine g_iadd (pc := 48) dX12_becomes_48 ?_
        obtain ⟨c_19, hF⟩ := am_gd hF
        refine g_iald (pc := 49) (k := 72) rfl (hPl.lt (by decide)) (am_ix_use c_19) dX12_becomes_49 ?_
        obtain ⟨c_20, hF⟩ := am_gd hF
        obtain ⟨I_21, e_I_21, hF⟩ := am_let_el hF
        refine n_iast (pc := 50) (k := 72) e_I_21 rfl (hPl.lt (by decide)) (am_ix_use c_20) dX12_becomes_50 ?_
        obtain ⟨l3_22, e_l3_22, hF⟩ := am_let_el hF
        refine n_iinc (pc := 51) (ls2 := [.ref 55, .int a1, .int l2_15, .int l3_22]) e_l3_22 rfl rfl rfl dX12_becomes_51 (Nat.le_of_ble_eq_true rfl) ?_
        refine g_goto (pc := 54) (tgt := 4) dX12_becomes_54 rfl ?_
        cases hF
        exact ih_7 (l2_15, l3_22, I_21) rfl
      clear hF
      have hF := hR_16
      clear hR_16
      refine g_icmp_eq (pc := 28) (tgt := 35) dX12_becomes_28 rfl (fun c_14 => ?_) (fun c_14 => ?_)
      · replace hF := am_yes c_14 hF
        cases hF
        exact hJ_17
      · replace hF := am_no c_14 hF
        refine g_iload_n (pc := 31) dX12_becomes_31 rfl rfl ?_
        refine g_iconst (pc := 32) (v := (1 : Int32)) dX12_becomes_32 rfl ?_
        refine g_iadd (pc := 33) dX12_becomes_33 ?_
        obtain ⟨l2_18, e_l2_18, hF⟩ := am_let_el hF
        refine n_istore_n (pc := 34) (ls2 := [.ref 55, .int a1, .int l2_18, .int l3_2]) e_l2_18 rfl dX12_becomes_34 rfl (Nat.le_of_ble_eq_true rfl) ?_
        cases hF
        exact hJ_17
    ) _ _ hL_9
  exact hC
def F_X12_become_55 (I : am_IT) (a1 : Int32) : Option (Int32 × am_IT) := am_let (up2 I 55 0 (0 : Int32)) (fun (I_1 : am_IT) => am_b1 (F_X12_isIn_55 I_1 a1 (1 : Int32) (2 : Int32)) (fun (r_3 : Int32) => if r_3 = 0 then (some ((-1 : Int32), I_1)) else (am_b1 (if a1 = (1 : Int32) then (am_b1 (F_X12_judges_55 I_1 (7 : Int32)) (fun (I_13 : am_IT) => some (I_13))) else (am_b1 (F_X12_findsBest_55 I_1) (fun (I_11 : am_IT) => some (I_11)))) (fun (I_7 : am_IT) => am_b1 (if a1 = (1 : Int32) then (some ((7 : Int32))) else (some ((14 : Int32)))) (fun (v_15 : Int32) => am_b2 (F_X12_becomes_55 I_7 v_15) (fun (r_19 : Int32) (I_20 : am_IT) => some (r_19, I_20)))))))
set_option maxRecDepth 100000 in
set_option maxHeartbeats 4000000 in
theorem s_X12_become_55 {l : Launch} {d N : Nat} {P : am_PT} (hPl : am_Pl 94 N P) (hd : 6 ≤ d) {I : am_IT} {a1 : Int32} {r : Int32} {I2 : am_IT} (hF : F_X12_become_55 I a1 = some (r, I2)) : am_C l d 0 0 mX12_become [.ref 55, .int a1] N P I (am_qi r N P I2) := by
  refine am_body (sc := am_sc0) (n := 0) (by decide +kernel) (by decide) rfl ?_
  change G am_sc0 l d 0 0 mX12_become (am_qi r N P I2) 0 [.ref 55, .int a1] [] N P I 0 0
  unfold F_X12_become_55 at hF
  refine g_aload_n (pc := 0) dX12_become_0 rfl rfl ?_
  refine g_iconst (pc := 1) (v := (0 : Int32)) dX12_become_1 rfl ?_
  obtain ⟨I_1, e_I_1, hF⟩ := am_let_el hF
  refine n_putI (pc := 2) (k := 55) e_I_1 kf_X12_134 rfl rfl (hPl.lt (by decide)) dX12_become_2 ?_
  refine g_aload_n (pc := 5) dX12_become_5 rfl rfl ?_
  refine g_iload_n (pc := 6) dX12_become_6 rfl rfl ?_
  refine g_iconst (pc := 7) (v := (1 : Int32)) dX12_become_7 rfl ?_
  refine g_iconst (pc := 8) (v := (2 : Int32)) dX12_become_8 rfl ?_
  obtain ⟨r_3, h_2, hF⟩ := am_b1_el hF
  refine g_cVz (pc := 9) (k := 55) (As := [.int a1, .int (1 : Int32), .int (2 : Int32)]) (st := []) ky_X12_isIn kl_X12_148 (s_X12_isIn_55 (d := 1) (hPl) (Nat.le_refl _) h_2) rfl rfl rfl (hPl.lt (by decide)) (Nat.le_trans (by decide) hd) (Nat.le_of_ble_eq_true rfl) (Nat.le_refl _) (Nat.le_refl _) dX12_become_9 ?_
  intro z_4
  refine g_if_ne (pc := 12) (tgt := 17) dX12_become_12 rfl (fun c_5 => ?_) (fun c_5 => ?_)
  · replace hF := am_no c_5 hF
    refine g_iload_n (pc := 17) dX12_become_17 rfl rfl ?_
    refine g_iconst (pc := 18) (v := (1 : Int32)) dX12_become_18 rfl ?_
    obtain ⟨I_7, hR_8, hF⟩ := am_b1_el hF
    have hJ_9 : G am_sc0 l d 0 0 mX12_become (am_qi r N P I2) 35 [.ref 55, .int a1] [] N P I_7 0 0 := by
      refine g_aload_n (pc := 35) dX12_become_35 rfl rfl ?_
      refine g_iload_n (pc := 36) dX12_become_36 rfl rfl ?_
      refine g_iconst (pc := 37) (v := (1 : Int32)) dX12_become_37 rfl ?_
      obtain ⟨v_15, hR_16, hF⟩ := am_b1_el hF
      have hJ_17 : G am_sc0 l d 0 0 mX12_become (am_qi r N P I2) 48 [.ref 55, .int a1] [.int v_15, .ref 55] N P I_7 0 0 := by
        obtain ⟨r_19, I_20, h_18, hF⟩ := am_b2_el hF
        refine g_cVi (pc := 48) (k := 55) (As := [.int v_15]) (st := []) ky_X12_becomes kl_X12_340 (s_X12_becomes_55 (d := 1) (hPl) (Nat.le_refl _) h_18) rfl rfl rfl (hPl.lt (by decide)) (Nat.le_trans (by decide) hd) (Nat.le_of_ble_eq_true rfl) (Nat.le_refl _) (Nat.le_refl _) dX12_become_48 ?_
        cases hF
        exact g_iret (pc := 51) rfl (Nat.le_refl _) (Nat.le_refl _) dX12_become_51 ⟨rfl, rfl, rfl, rfl⟩
      clear hF
      have hF := hR_16
      clear hR_16
      refine g_icmp_ne (pc := 38) (tgt := 46) dX12_become_38 rfl (fun c_14 => ?_) (fun c_14 => ?_)
      · replace hF := am_no c_14 hF
        refine g_bipush (pc := 46) (v := (14 : Int32)) dX12_become_46 rfl ?_
        cases hF
        exact hJ_17
      · replace hF := am_yes c_14 hF
        refine g_bipush (pc := 41) (v := (7 : Int32)) dX12_become_41 rfl ?_
        refine g_goto (pc := 43) (tgt := 48) dX12_become_43 rfl ?_
        cases hF
        exact hJ_17
    clear hF
    have hF := hR_8
    clear hR_8
    refine g_icmp_ne (pc := 19) (tgt := 31) dX12_become_19 rfl (fun c_6 => ?_) (fun c_6 => ?_)
    · replace hF := am_no c_6 hF
      refine g_aload_n (pc := 31) dX12_become_31 rfl rfl ?_
      obtain ⟨I_11, h_10, hF⟩ := am_b1_el hF
      refine g_cVv (pc := 32) (k := 55) (As := []) (st := []) ky_X12_findsBest kl_X12_334 (s_X12_findsBest_55 (d := 3) (hPl) (Nat.le_refl _) h_10) rfl rfl rfl (hPl.lt (by decide)) (Nat.le_trans (by decide) hd) (Nat.le_of_ble_eq_true rfl) (Nat.le_refl _) (Nat.le_refl _) dX12_become_32 ?_
      cases hF
      exact hJ_9
    · replace hF := am_yes c_6 hF
      refine g_aload_n (pc := 22) dX12_become_22 rfl rfl ?_
      refine g_bipush (pc := 23) (v := (7 : Int32)) dX12_become_23 rfl ?_
      obtain ⟨I_13, h_12, hF⟩ := am_b1_el hF
      refine g_cVv (pc := 25) (k := 55) (As := [.int (7 : Int32)]) (st := []) ky_X12_judges kl_X12_318 (s_X12_judges_55 (d := 5) (hPl) (Nat.le_refl _) h_12) rfl rfl rfl (hPl.lt (by decide)) (Nat.le_trans (by decide) hd) (Nat.le_of_ble_eq_true rfl) (Nat.le_refl _) (Nat.le_refl _) dX12_become_25 ?_
      refine g_goto (pc := 28) (tgt := 35) dX12_become_28 rfl ?_
      cases hF
      exact hJ_9
  · replace hF := am_yes c_5 hF
    refine g_iconst (pc := 15) (v := (-1 : Int32)) dX12_become_15 (by decide) ?_
    cases hF
    exact g_iret (pc := 16) rfl (Nat.le_refl _) (Nat.le_refl _) dX12_become_16 ⟨rfl, rfl, rfl, rfl⟩
def F_X12_tradesOf_55 (I : am_IT) (a1 : Int32) (a2 : Int32) : Option (Int32 × am_IT) := am_b1 (F_X12_worthOf_55 I a1 (0 : Int32)) (fun (r_2 : Int32) => am_b1 (F_X12_worthOf_55 I a2 (0 : Int32)) (fun (r_4 : Int32) => am_lr (am_it am_fu (am_u2 (fun (l5_5 : Int32) (I_6 : am_IT) => if (I_6 55 4) ≤ l5_5 then (some (.inr (.inl (I_6)))) else (am_let (l5_5 + (1 : Int32)) (fun (l6_14 : Int32) => am_lr (am_it am_fu (am_u2 (fun (l6_15 : Int32) (I_16 : am_IT) => if (I_16 55 4) ≤ l6_15 then (some (.inr (.inl (I_16)))) else (if am_ix ((0 : Int32) + l5_5) 35 = true then (am_let (I_16 72 ((0 : Int32) + l5_5).toNatClampNeg) (fun (l7_25 : Int32) => if am_ix ((0 : Int32) + l6_15) 35 = true then (am_let (I_16 72 ((0 : Int32) + l6_15).toNatClampNeg) (fun (l8_27 : Int32) => am_lr (am_it am_fu (am_u2 (fun (l9_28 : Int32) (I_29 : am_IT) => if ((I_29 55 2) * (I_29 55 2)) ≤ l9_28 then (some (.inr (.inl (I_29)))) else (if ¬ (I_29 55 2) = (0 : Int32) then (if am_ix ((0 : Int32) + l5_5) 35 = true then (am_let (up2 I_29 72 ((0 : Int32) + l5_5).toNatClampNeg (l9_28 / (I_29 55 2))) (fun (I_39 : am_IT) => if ¬ (I_39 55 2) = (0 : Int32) then (if am_ix ((0 : Int32) + l6_15) 35 = true then (am_let (up2 I_39 72 ((0 : Int32) + l6_15).toNatClampNeg (l9_28 - l9_28 / (I_39 55 2) * (I_39 55 2))) (fun (I_42 : am_IT) => am_b1 (F_X12_worthOf_55 I_42 a1 (0 : Int32)) (fun (r_44 : Int32) => if r_44 ≤ r_2 then (am_let (l9_28 + (1 : Int32)) (fun (l9_46 : Int32) => some (.inl (l9_46, I_42)))) else (am_b1 (F_X12_worthOf_55 I_42 a2 (0 : Int32)) (fun (r_48 : Int32) => if r_48 ≤ r_4 then (am_let (l9_28 + (1 : Int32)) (fun (l9_50 : Int32) => some (.inl (l9_50, I_42)))) else (some (.inr (.inr (.inr (.inr (.inr (.inr ((1 : Int32), I_42))))))))))))) else none) else none)) else none) else none))) ((0 : Int32), I_16)) (fun (I_30 : am_IT) => if am_ix ((0 : Int32) + l5_5) 35 = true then (am_let (up2 I_30 72 ((0 : Int32) + l5_5).toNatClampNeg l7_25) (fun (I_55 : am_IT) => if am_ix ((0 : Int32) + l6_15) 35 = true then (am_let (up2 I_55 72 ((0 : Int32) + l6_15).toNatClampNeg l8_27) (fun (I_57 : am_IT) => am_let (l6_15 + (1 : Int32)) (fun (l6_58 : Int32) => some (.inl (l6_58, I_57))))) else none)) else none))) else none)) else none))) (l6_14, I_6)) (fun (I_17 : am_IT) => am_let (l5_5 + (1 : Int32)) (fun (l5_60 : Int32) => some (.inl (l5_60, I_17)))))))) ((0 : Int32), I)) (fun (I_7 : am_IT) => some ((0 : Int32), I_7))))
set_option maxRecDepth 100000 in
set_option maxHeartbeats 4000000 in
theorem s_X12_tradesOf_55 {l : Launch} {d N : Nat} {P : am_PT} (hPl : am_Pl 94 N P) (hd : 3 ≤ d) {I : am_IT} {a1 : Int32} {a2 : Int32} {r : Int32} {I2 : am_IT} (hF : F_X12_tradesOf_55 I a1 a2 = some (r, I2)) : am_C l d 0 0 mX12_tradesOf [.ref 55, .int a1, .int a2] N P I (am_qz r N P I2) := by
  refine am_body (sc := am_sc0) (n := 7) (by decide +kernel) (by decide) rfl ?_
  change G am_sc0 l d 0 0 mX12_tradesOf (am_qz r N P I2) 0 [.ref 55, .int a1, .int a2, .null, .null, .null, .null, .null, .null, .null] [] N P I 0 0
  unfold F_X12_tradesOf_55 at hF
  refine g_aload_n (pc := 0) dX12_tradesOf_0 rfl rfl ?_
  refine g_iload_n (pc := 1) dX12_tradesOf_1 rfl rfl ?_
  refine g_iconst (pc := 2) (v := (0 : Int32)) dX12_tradesOf_2 rfl ?_
  obtain ⟨r_2, h_1, hF⟩ := am_b1_el hF
  refine g_cVi (pc := 3) (k := 55) (As := [.int a1, .int (0 : Int32)]) (st := []) ky_X12_worthOf kl_X12_289 (s_X12_worthOf_55 (d := 2) (hPl) (Nat.le_refl _) h_1) rfl rfl rfl (hPl.lt (by decide)) (Nat.le_trans (by decide) hd) (Nat.le_of_ble_eq_true rfl) (Nat.le_refl _) (Nat.le_refl _) dX12_tradesOf_3 ?_
  refine n_istore_n (pc := 6) (ls2 := [.ref 55, .int a1, .int a2, .int r_2, .null, .null, .null, .null, .null, .null]) rfl rfl dX12_tradesOf_6 rfl (Nat.le_of_ble_eq_true rfl) ?_
  refine g_aload_n (pc := 7) dX12_tradesOf_7 rfl rfl ?_
  refine g_iload_n (pc := 8) dX12_tradesOf_8 rfl rfl ?_
  refine g_iconst (pc := 9) (v := (0 : Int32)) dX12_tradesOf_9 rfl ?_
  obtain ⟨r_4, h_3, hF⟩ := am_b1_el hF
  refine g_cVi (pc := 10) (k := 55) (As := [.int a2, .int (0 : Int32)]) (st := []) ky_X12_worthOf kl_X12_289 (s_X12_worthOf_55 (d := 2) (hPl) (Nat.le_refl _) h_3) rfl rfl rfl (hPl.lt (by decide)) (Nat.le_trans (by decide) hd) (Nat.le_of_ble_eq_true rfl) (Nat.le_refl _) (Nat.le_refl _) dX12_tradesOf_10 ?_
  refine n_istore (pc := 13) (ls2 := [.ref 55, .int a1, .int a2, .int r_2, .int r_4, .null, .null, .null, .null, .null]) rfl rfl dX12_tradesOf_13 (Nat.le_of_ble_eq_true rfl) ?_
  refine g_iconst (pc := 15) (v := (0 : Int32)) dX12_tradesOf_15 rfl ?_
  refine n_istore (pc := 16) (ls2 := [.ref 55, .int a1, .int a2, .int r_2, .int r_4, .int (0 : Int32), .null, .null, .null, .null]) rfl rfl dX12_tradesOf_16 (Nat.le_of_ble_eq_true rfl) ?_
  obtain ⟨x_62, hL_11, hF⟩ := am_lr_el hF
  have hX_8 : ∀ (I_7 : am_IT), x_62 = .inl I_7 → G am_sc0 l d 0 0 mX12_tradesOf (am_qz r N P I2) 176 [.ref 55, .int a1, .int a2, .int r_2, .int r_4, .null, .null, .null, .null, .null] [] N P I_7 0 0 := by
    intro I_7 q
    subst q
    refine g_iconst (pc := 176) (v := (0 : Int32)) dX12_tradesOf_176 rfl ?_
    cases hF
    exact g_zret (pc := 177) rfl (Or.inl rfl) (Nat.le_refl _) (Nat.le_refl _) dX12_tradesOf_177 ⟨(Or.inl rfl), rfl, rfl, rfl, rfl⟩
  have hZ_12 : ∀ y, x_62 = .inr y → y = _ := fun y q => by subst q; exact hF
  clear hF
  have hC := am_loop (C := fun x => G am_sc0 l d 0 0 mX12_tradesOf (am_qz r N P I2) 18 [.ref 55, .int a1, .int a2, .int r_2, .int r_4, .int x.1, .null, .null, .null, .null] [] N P x.2 0 0) (by
    rintro ⟨l5_5, I_6⟩ rr hF ih_9 hE_10
    replace hF := am_u2_ap hF
    change G am_sc0 l d 0 0 mX12_tradesOf (am_qz r N P I2) 18 [.ref 55, .int a1, .int a2, .int r_2, .int r_4, .int l5_5, .null, .null, .null, .null] [] N P I_6 0 0
    refine g_iload (pc := 18) dX12_tradesOf_18 rfl ?_
    refine g_aload_n (pc := 20) dX12_tradesOf_20 rfl rfl ?_
    refine g_getI (pc := 21) (k := 55) kf_X12_142.r rfl rfl (hPl.lt (by decide)) dX12_tradesOf_21 ?_
    refine g_icmp_ge (pc := 24) (tgt := 176) dX12_tradesOf_24 rfl (fun c_13 => ?_) (fun c_13 => ?_)
    · replace hF := am_yes c_13 hF
      cases hF
      exact g_weak (hX_8 _ (hE_10 _ rfl).symm) ⟨Or.inr rfl, Or.inr rfl, Or.inr rfl, Or.inr rfl, Or.inr rfl, Or.inl rfl, Or.inl rfl, Or.inl rfl, Or.inl rfl, Or.inl rfl, trivial⟩
    · replace hF := am_no c_13 hF
      refine g_iload (pc := 27) dX12_tradesOf_27 rfl ?_
      refine g_iconst (pc := 29) (v := (1 : Int32)) dX12_tradesOf_29 rfl ?_
      refine g_iadd (pc := 30) dX12_tradesOf_30 ?_
      obtain ⟨l6_14, e_l6_14, hF⟩ := am_let_el hF
      refine n_istore (pc := 31) (ls2 := [.ref 55, .int a1, .int a2, .int r_2, .int r_4, .int l5_5, .int l6_14, .null, .null, .null]) e_l6_14 rfl dX12_tradesOf_31 (Nat.le_of_ble_eq_true rfl) ?_
      obtain ⟨x_61, hL_21, hF⟩ := am_lr_el hF
      have hX_18 : ∀ (I_17 : am_IT), x_61 = .inl I_17 → G am_sc0 l d 0 0 mX12_tradesOf (am_qz r N P I2) 170 [.ref 55, .int a1, .int a2, .int r_2, .int r_4, .int l5_5, .null, .null, .null, .null] [] N P I_17 0 0 := by
        intro I_17 q
        subst q
        obtain ⟨l5_60, e_l5_60, hF⟩ := am_let_el hF
        refine n_iinc (pc := 170) (ls2 := [.ref 55, .int a1, .int a2, .int r_2, .int r_4, .int l5_60, .null, .null, .null, .null]) e_l5_60 rfl rfl rfl dX12_tradesOf_170 (Nat.le_of_ble_eq_true rfl) ?_
        refine g_goto (pc := 173) (tgt := 18) dX12_tradesOf_173 rfl ?_
        cases hF
        exact ih_9 (l5_60, I_17) rfl
      have hZ_22 : ∀ y, x_61 = .inr y → y = _ := fun y q => by subst q; exact hF
      clear hF
      have hC := am_loop (C := fun x => G am_sc0 l d 0 0 mX12_tradesOf (am_qz r N P I2) 33 [.ref 55, .int a1, .int a2, .int r_2, .int r_4, .int l5_5, .int x.1, .null, .null, .null] [] N P x.2 0 0) (by
        rintro ⟨l6_15, I_16⟩ rr hF ih_19 hE_20
        replace hF := am_u2_ap hF
        change G am_sc0 l d 0 0 mX12_tradesOf (am_qz r N P I2) 33 [.ref 55, .int a1, .int a2, .int r_2, .int r_4, .int l5_5, .int l6_15, .null, .null, .null] [] N P I_16 0 0
        refine g_iload (pc := 33) dX12_tradesOf_33 rfl ?_
        refine g_aload_n (pc := 35) dX12_tradesOf_35 rfl rfl ?_
        refine g_getI (pc := 36) (k := 55) kf_X12_142.r rfl rfl (hPl.lt (by decide)) dX12_tradesOf_36 ?_
        refine g_icmp_ge (pc := 39) (tgt := 170) dX12_tradesOf_39 rfl (fun c_23 => ?_) (fun c_23 => ?_)
        · replace hF := am_yes c_23 hF
          cases hF
          exact g_weak (hX_18 _ (hE_20 _ rfl).symm) ⟨Or.inr rfl, Or.inr rfl, Or.inr rfl, Or.inr rfl, Or.inr rfl, Or.inr rfl, Or.inl rfl, Or.inl rfl, Or.inl rfl, Or.inl rfl, trivial⟩
        · replace hF := am_no c_23 hF
          refine g_aload_n (pc := 42) dX12_tradesOf_42 rfl rfl ?_
          refine g_getR (pc := 43) (k := 55) (r := 72) kf_X12_62.r rfl rfl (hPl.get (by decide) rfl) (hPl.lt (by decide)) dX12_tradesOf_43 ?_
          refine g_iconst (pc := 46) (v := (0 : Int32)) dX12_tradesOf_46 rfl ?_
          refine g_iload (pc := 47) dX12_tradesOf_47 rfl ?_
          refine g_iadd (pc := 49) dX12_tradesOf_49 ?_
          obtain ⟨c_24, hF⟩ := am_gd hF
          refine g_iald (pc := 50) (k := 72) rfl (hPl.lt (by decide)) (am_ix_use c_24) dX12_tradesOf_50 ?_
          obtain ⟨l7_25, e_l7_25, hF⟩ := am_let_el hF
          refine n_istore (pc := 51) (ls2 := [.ref 55, .int a1, .int a2, .int r_2, .int r_4, .int l5_5, .int l6_15, .int l7_25, .null, .null]) e_l7_25 rfl dX12_tradesOf_51 (Nat.le_of_ble_eq_true rfl) ?_
          refine g_aload_n (pc := 53) dX12_tradesOf_53 rfl rfl ?_
          refine g_getR (pc := 54) (k := 55) (r := 72) kf_X12_62.r rfl rfl (hPl.get (by decide) rfl) (hPl.lt (by decide)) dX12_tradesOf_54 ?_
          refine g_iconst (pc := 57) (v := (0 : Int32)) dX12_tradesOf_57 rfl ?_
          refine g_iload (pc := 58) dX12_tradesOf_58 rfl ?_
          refine g_iadd (pc := 60) dX12_tradesOf_60 ?_
          obtain ⟨c_26, hF⟩ := am_gd hF
          refine g_iald (pc := 61) (k := 72) rfl (hPl.lt (by decide)) (am_ix_use c_26) dX12_tradesOf_61 ?_
          obtain ⟨l8_27, e_l8_27, hF⟩ := am_let_el hF
          refine n_istore (pc := 62) (ls2 := [.ref 55, .int a1, .int a2, .int r_2, .int r_4, .int l5_5, .int l6_15, .int l7_25, .int l8_27, .null]) e_l8_27 rfl dX12_tradesOf_62 (Nat.le_of_ble_eq_true rfl) ?_
          refine g_iconst (pc := 64) (v := (0 : Int32)) dX12_tradesOf_64 rfl ?_
          refine n_istore (pc := 65) (ls2 := [.ref 55, .int a1, .int a2, .int r_2, .int r_4, .int l5_5, .int l6_15, .int l7_25, .int l8_27, .int (0 : Int32)]) rfl rfl dX12_tradesOf_65 (Nat.le_of_ble_eq_true rfl) ?_
          obtain ⟨x_59, hL_34, hF⟩ := am_lr_el hF
          have hX_31 : ∀ (I_30 : am_IT), x_59 = .inl I_30 → G am_sc0 l d 0 0 mX12_tradesOf (am_qz r N P I2) 142 [.ref 55, .int a1, .int a2, .int r_2, .int r_4, .int l5_5, .int l6_15, .int l7_25, .int l8_27, .null] [] N P I_30 0 0 := by
            intro I_30 q
            subst q
            refine g_aload_n (pc := 142) dX12_tradesOf_142 rfl rfl ?_
            refine g_getR (pc := 143) (k := 55) (r := 72) kf_X12_62.r rfl rfl (hPl.get (by decide) rfl) (hPl.lt (by decide)) dX12_tradesOf_143 ?_
            refine g_iconst (pc := 146) (v := (0 : Int32)) dX12_tradesOf_146 rfl ?_
            refine g_iload (pc := 147) dX12_tradesOf_147 rfl ?_
            refine g_iadd (pc := 149) dX12_tradesOf_149 ?_
            refine g_iload (pc := 150) dX12_tradesOf_150 rfl ?_
            obtain ⟨c_54, hF⟩ := am_gd hF
            obtain ⟨I_55, e_I_55, hF⟩ := am_let_el hF
            refine n_iast (pc := 152) (k := 72) e_I_55 rfl (hPl.lt (by decide)) (am_ix_use c_54) dX12_tradesOf_152 ?_
            refine g_aload_n (pc := 153) dX12_tradesOf_153 rfl rfl ?_
            refine g_getR (pc := 154) (k := 55) (r := 72) kf_X12_62.r rfl rfl (hPl.get (by decide) rfl) (hPl.lt (by decide)) dX12_tradesOf_154 ?_
            refine g_iconst (pc := 157) (v := (0 : Int32)) dX12_tradesOf_157 rfl ?_
            refine g_iload (pc := 158) dX12_tradesOf_158 rfl ?_
            refine g_iadd (pc := 160) dX12_tradesOf_160 ?_
            refine g_iload (pc := 161) dX12_tradesOf_161 rfl ?_
            obtain ⟨c_56, hF⟩ := am_gd hF
            obtain ⟨I_57, e_I_57, hF⟩ := am_let_el hF
            refine n_iast (pc := 163) (k := 72) e_I_57 rfl (hPl.lt (by decide)) (am_ix_use c_56) dX12_tradesOf_163 ?_
            obtain ⟨l6_58, e_l6_58, hF⟩ := am_let_el hF
            refine n_iinc (pc := 164) (ls2 := [.ref 55, .int a1, .int a2, .int r_2, .int r_4, .int l5_5, .int l6_58, .int l7_25, .int l8_27, .null]) e_l6_58 rfl rfl rfl dX12_tradesOf_164 (Nat.le_of_ble_eq_true rfl) ?_
            refine g_goto (pc := 167) (tgt := 33) dX12_tradesOf_167 rfl ?_
            cases hF
            exact g_weak (ih_19 (l6_58, I_57) rfl) ⟨Or.inr rfl, Or.inr rfl, Or.inr rfl, Or.inr rfl, Or.inr rfl, Or.inr rfl, Or.inr rfl, Or.inl rfl, Or.inl rfl, Or.inl rfl, trivial⟩
          have hZ_35 : ∀ y, x_59 = .inr y → y = _ := fun y q => by subst q; exact hF
          clear hF
          have hC := am_loop (C := fun x => G am_sc0 l d 0 0 mX12_tradesOf (am_qz r N P I2) 67 [.ref 55, .int a1, .int a2, .int r_2, .int r_4, .int l5_5, .int l6_15, .int l7_25, .int l8_27, .int x.1] [] N P x.2 0 0) (by
            rintro ⟨l9_28, I_29⟩ rr hF ih_32 hE_33
            replace hF := am_u2_ap hF
            change G am_sc0 l d 0 0 mX12_tradesOf (am_qz r N P I2) 67 [.ref 55, .int a1, .int a2, .int r_2, .int r_4, .int l5_5, .int l6_15, .int l7_25, .int l8_27, .int l9_28] [] N P I_29 0 0
            refine g_iload (pc := 67) dX12_tradesOf_67 rfl ?_
            refine g_aload_n (pc := 69) dX12_tradesOf_69 rfl rfl ?_
            refine g_getI (pc := 70) (k := 55) kf_X12_7.r rfl rfl (hPl.lt (by decide)) dX12_tradesOf_70 ?_
            refine g_aload_n (pc := 73) dX12_tradesOf_73 rfl rfl ?_
            refine g_getI (pc := 74) (k := 55) kf_X12_7.r rfl rfl (hPl.lt (by decide)) dX12_tradesOf_74 ?_
            refine g_imul (pc := 77) dX12_tradesOf_77 ?_
            refine g_icmp_ge (pc := 78) (tgt := 142) dX12_tradesOf_78 rfl (fun c_36 => ?_) (fun c_36 => ?_)
            · replace hF := am_yes c_36 hF
              cases hF
              exact g_weak (hX_31 _ (hE_33 _ rfl).symm) ⟨Or.inr rfl, Or.inr rfl, Or.inr rfl, Or.inr rfl, Or.inr rfl, Or.inr rfl, Or.inr rfl, Or.inr rfl, Or.inr rfl, Or.inl rfl, trivial⟩
            · replace hF := am_no c_36 hF
              refine g_aload_n (pc := 81) dX12_tradesOf_81 rfl rfl ?_
              refine g_getR (pc := 82) (k := 55) (r := 72) kf_X12_62.r rfl rfl (hPl.get (by decide) rfl) (hPl.lt (by decide)) dX12_tradesOf_82 ?_
              refine g_iconst (pc := 85) (v := (0 : Int32)) dX12_tradesOf_85 rfl ?_
              refine g_iload (pc := 86) dX12_tradesOf_86 rfl ?_
              refine g_iadd (pc := 88) dX12_tradesOf_88 ?_
              refine g_iload (pc := 89) dX12_tradesOf_89 rfl ?_
              refine g_aload_n (pc := 91) dX12_tradesOf_91 rfl rfl ?_
              refine g_getI (pc := 92) (k := 55) kf_X12_7.r rfl rfl (hPl.lt (by decide)) dX12_tradesOf_92 ?_
              obtain ⟨c_37, hF⟩ := am_gd hF
              refine g_idiv (pc := 95) dX12_tradesOf_95 c_37 ?_
              obtain ⟨c_38, hF⟩ := am_gd hF
              obtain ⟨I_39, e_I_39, hF⟩ := am_let_el hF
              refine n_iast (pc := 96) (k := 72) e_I_39 rfl (hPl.lt (by decide)) (am_ix_use c_38) dX12_tradesOf_96 ?_
              refine g_aload_n (pc := 97) dX12_tradesOf_97 rfl rfl ?_
              refine g_getR (pc := 98) (k := 55) (r := 72) kf_X12_62.r rfl rfl (hPl.get (by decide) rfl) (hPl.lt (by decide)) dX12_tradesOf_98 ?_
              refine g_iconst (pc := 101) (v := (0 : Int32)) dX12_tradesOf_101 rfl ?_
              refine g_iload (pc := 102) dX12_tradesOf_102 rfl ?_
              refine g_iadd (pc := 104) dX12_tradesOf_104 ?_
              refine g_iload (pc := 105) dX12_tradesOf_105 rfl ?_
              refine g_aload_n (pc := 107) dX12_tradesOf_107 rfl rfl ?_
              refine g_getI (pc := 108) (k := 55) kf_X12_7.r rfl rfl (hPl.lt (by decide)) dX12_tradesOf_108 ?_
              obtain ⟨c_40, hF⟩ := am_gd hF
              refine g_irem (pc := 111) dX12_tradesOf_111 c_40 ?_
              obtain ⟨c_41, hF⟩ := am_gd hF
              obtain ⟨I_42, e_I_42, hF⟩ := am_let_el hF
              refine n_iast (pc := 112) (k := 72) e_I_42 rfl (hPl.lt (by decide)) (am_ix_use c_41) dX12_tradesOf_112 ?_
              refine g_aload_n (pc := 113) dX12_tradesOf_113 rfl rfl ?_
              refine g_iload_n (pc := 114) dX12_tradesOf_114 rfl rfl ?_
              refine g_iconst (pc := 115) (v := (0 : Int32)) dX12_tradesOf_115 rfl ?_
              obtain ⟨r_44, h_43, hF⟩ := am_b1_el hF
              refine g_cVi (pc := 116) (k := 55) (As := [.int a1, .int (0 : Int32)]) (st := []) ky_X12_worthOf kl_X12_289 (s_X12_worthOf_55 (d := 2) (hPl) (Nat.le_refl _) h_43) rfl rfl rfl (hPl.lt (by decide)) (Nat.le_trans (by decide) hd) (Nat.le_of_ble_eq_true rfl) (Nat.le_refl _) (Nat.le_refl _) dX12_tradesOf_116 ?_
              refine g_iload_n (pc := 119) dX12_tradesOf_119 rfl rfl ?_
              refine g_icmp_le (pc := 120) (tgt := 136) dX12_tradesOf_120 rfl (fun c_45 => ?_) (fun c_45 => ?_)
              · replace hF := am_yes c_45 hF
                obtain ⟨l9_46, e_l9_46, hF⟩ := am_let_el hF
                refine n_iinc (pc := 136) (ls2 := [.ref 55, .int a1, .int a2, .int r_2, .int r_4, .int l5_5, .int l6_15, .int l7_25, .int l8_27, .int l9_46]) e_l9_46 rfl rfl rfl dX12_tradesOf_136 (Nat.le_of_ble_eq_true rfl) ?_
                refine g_goto (pc := 139) (tgt := 67) dX12_tradesOf_139 rfl ?_
                cases hF
                exact ih_32 (l9_46, I_42) rfl
              · replace hF := am_no c_45 hF
                refine g_aload_n (pc := 123) dX12_tradesOf_123 rfl rfl ?_
                refine g_iload_n (pc := 124) dX12_tradesOf_124 rfl rfl ?_
                refine g_iconst (pc := 125) (v := (0 : Int32)) dX12_tradesOf_125 rfl ?_
                obtain ⟨r_48, h_47, hF⟩ := am_b1_el hF
                refine g_cVi (pc := 126) (k := 55) (As := [.int a2, .int (0 : Int32)]) (st := []) ky_X12_worthOf kl_X12_289 (s_X12_worthOf_55 (d := 2) (hPl) (Nat.le_refl _) h_47) rfl rfl rfl (hPl.lt (by decide)) (Nat.le_trans (by decide) hd) (Nat.le_of_ble_eq_true rfl) (Nat.le_refl _) (Nat.le_refl _) dX12_tradesOf_126 ?_
                refine g_iload (pc := 129) dX12_tradesOf_129 rfl ?_
                refine g_icmp_le (pc := 131) (tgt := 136) dX12_tradesOf_131 rfl (fun c_49 => ?_) (fun c_49 => ?_)
                · replace hF := am_yes c_49 hF
                  obtain ⟨l9_50, e_l9_50, hF⟩ := am_let_el hF
                  refine n_iinc (pc := 136) (ls2 := [.ref 55, .int a1, .int a2, .int r_2, .int r_4, .int l5_5, .int l6_15, .int l7_25, .int l8_27, .int l9_50]) e_l9_50 rfl rfl rfl dX12_tradesOf_136 (Nat.le_of_ble_eq_true rfl) ?_
                  refine g_goto (pc := 139) (tgt := 67) dX12_tradesOf_139 rfl ?_
                  cases hF
                  exact ih_32 (l9_50, I_42) rfl
                · replace hF := am_no c_49 hF
                  refine g_iconst (pc := 134) (v := (1 : Int32)) dX12_tradesOf_134 rfl ?_
                  cases hF
                  have q_51 := hZ_35 _ (hE_33 _ rfl).symm
                  cases q_51
                  have q_52 := hZ_22 _ (hE_20 _ rfl).symm
                  cases q_52
                  have q_53 := hZ_12 _ (hE_10 _ rfl).symm
                  cases q_53
                  exact g_zret (pc := 135) rfl (Or.inr rfl) (Nat.le_refl _) (Nat.le_refl _) dX12_tradesOf_135 ⟨(Or.inr rfl), rfl, rfl, rfl, rfl⟩
            ) _ _ hL_34
          exact hC
        ) _ _ hL_21
      exact hC
    ) _ _ hL_11
  exact hC
