def F_X10_hasTraded_36_37 (I : am_IT) (a1 : Int32) (a2 : Int32) : Option (Int32 × am_IT) := am_b1 (F_X10_weighParts_36_37_38 I a1) (fun (I_2 : am_IT) => am_b1 (F_X10_weighParts_36_37_39 I_2 a2) (fun (I_4 : am_IT) => am_lr (am_it am_fu (am_u2 (fun (l4_5 : Int32) (I_6 : am_IT) => if (I_6 1 3) ≤ l4_5 then (some (.inr (.inl (I_6)))) else (am_let (l4_5 + (1 : Int32)) (fun (l5_14 : Int32) => am_lr (am_it am_fu (am_u2 (fun (l5_15 : Int32) (I_16 : am_IT) => if (I_16 1 3) ≤ l5_15 then (some (.inr (.inl (I_16)))) else (am_b2 (F_X10_hasRepainted_36_37 I_16 a1 a2 l4_5 l5_15) (fun (r_25 : Int32) (I_26 : am_IT) => if r_25 = 0 then (am_let (l5_15 + (1 : Int32)) (fun (l5_29 : Int32) => some (.inl (l5_29, I_26)))) else (some (.inr (.inr (.inr (.inr ((1 : Int32), I_26)))))))))) (l5_14, I_6)) (fun (I_17 : am_IT) => am_let (l4_5 + (1 : Int32)) (fun (l4_32 : Int32) => some (.inl (l4_32, I_17)))))))) ((0 : Int32), I_4)) (fun (I_7 : am_IT) => some ((0 : Int32), I_7))))
set_option maxRecDepth 100000 in
set_option maxHeartbeats 4000000 in
theorem s_X10_hasTraded_36_37 {l : Launch} {d N : Nat} {P : am_PT} (hPl : am_Pl 94 N P) (hd : 4 ≤ d) {I : am_IT} {a1 : Int32} {a2 : Int32} {r : Int32} {I2 : am_IT} (hF : F_X10_hasTraded_36_37 I a1 a2 = some (r, I2)) : am_C l d 0 0 mX10_hasTraded [.ref 36, .int a1, .int a2, .ref 37] N P I (am_qz r N P I2) := by
  refine am_body (sc := am_sc0) (n := 2) (by decide +kernel) (by decide) rfl ?_
  change G am_sc0 l d 0 0 mX10_hasTraded (am_qz r N P I2) 0 [.ref 36, .int a1, .int a2, .ref 37, .null, .null] [] N P I 0 0
  unfold F_X10_hasTraded_36_37 at hF
  refine g_aload_n (pc := 0) dX10_hasTraded_0 rfl rfl ?_
  refine g_iload_n (pc := 1) dX10_hasTraded_1 rfl rfl ?_
  refine g_aload_n (pc := 2) dX10_hasTraded_2 rfl rfl ?_
  refine g_aload_n (pc := 3) dX10_hasTraded_3 rfl rfl ?_
  refine g_getR (pc := 4) (k := 36) (r := 38) kf_X10_15.r rfl rfl (hPl.get (by decide) rfl) (hPl.lt (by decide)) dX10_hasTraded_4 ?_
  obtain ⟨I_2, h_1, hF⟩ := am_b1_el hF
  refine g_cVv (pc := 7) (k := 36) (As := [.int a1, .ref 37, .ref 38]) (st := []) ky_X10_weighParts kl_X10_57 (s_X10_weighParts_36_37_38 (d := 3) (hPl) (Nat.le_refl _) h_1) rfl rfl rfl (hPl.lt (by decide)) (Nat.le_trans (by decide) hd) (Nat.le_of_ble_eq_true rfl) (Nat.le_refl _) (Nat.le_refl _) dX10_hasTraded_7 ?_
  refine g_aload_n (pc := 10) dX10_hasTraded_10 rfl rfl ?_
  refine g_iload_n (pc := 11) dX10_hasTraded_11 rfl rfl ?_
  refine g_aload_n (pc := 12) dX10_hasTraded_12 rfl rfl ?_
  refine g_aload_n (pc := 13) dX10_hasTraded_13 rfl rfl ?_
  refine g_getR (pc := 14) (k := 36) (r := 39) kf_X10_18.r rfl rfl (hPl.get (by decide) rfl) (hPl.lt (by decide)) dX10_hasTraded_14 ?_
  obtain ⟨I_4, h_3, hF⟩ := am_b1_el hF
  refine g_cVv (pc := 17) (k := 36) (As := [.int a2, .ref 37, .ref 39]) (st := []) ky_X10_weighParts kl_X10_57 (s_X10_weighParts_36_37_39 (d := 3) (hPl) (Nat.le_refl _) h_3) rfl rfl rfl (hPl.lt (by decide)) (Nat.le_trans (by decide) hd) (Nat.le_of_ble_eq_true rfl) (Nat.le_refl _) (Nat.le_refl _) dX10_hasTraded_17 ?_
  refine g_iconst (pc := 20) (v := (0 : Int32)) dX10_hasTraded_20 rfl ?_
  refine n_istore (pc := 21) (ls2 := [.ref 36, .int a1, .int a2, .ref 37, .int (0 : Int32), .null]) rfl rfl dX10_hasTraded_21 (Nat.le_of_ble_eq_true rfl) ?_
  obtain ⟨x_34, hL_11, hF⟩ := am_lr_el hF
  have hX_8 : ∀ (I_7 : am_IT), x_34 = .inl I_7 → G am_sc0 l d 0 0 mX10_hasTraded (am_qz r N P I2) 81 [.ref 36, .int a1, .int a2, .ref 37, .null, .null] [] N P I_7 0 0 := by
    intro I_7 q
    subst q
    refine g_iconst (pc := 81) (v := (0 : Int32)) dX10_hasTraded_81 rfl ?_
    cases hF
    exact g_zret (pc := 82) rfl (Or.inl rfl) (Nat.le_refl _) (Nat.le_refl _) dX10_hasTraded_82 ⟨(Or.inl rfl), rfl, rfl, rfl, rfl⟩
  have hZ_12 : ∀ y, x_34 = .inr y → y = _ := fun y q => by subst q; exact hF
  clear hF
  have hC := am_loop (C := fun x => G am_sc0 l d 0 0 mX10_hasTraded (am_qz r N P I2) 23 [.ref 36, .int a1, .int a2, .ref 37, .int x.1, .null] [] N P x.2 0 0) (by
    rintro ⟨l4_5, I_6⟩ rr hF ih_9 hE_10
    replace hF := am_u2_ap hF
    change G am_sc0 l d 0 0 mX10_hasTraded (am_qz r N P I2) 23 [.ref 36, .int a1, .int a2, .ref 37, .int l4_5, .null] [] N P I_6 0 0
    refine g_iload (pc := 23) dX10_hasTraded_23 rfl ?_
    refine g_aload_n (pc := 25) dX10_hasTraded_25 rfl rfl ?_
    refine g_getR (pc := 26) (k := 36) (r := 1) kf_X10_21.r rfl rfl (hPl.get (by decide) rfl) (hPl.lt (by decide)) dX10_hasTraded_26 ?_
    refine g_getI (pc := 29) (k := 1) kf_X10_61.r rfl rfl (hPl.lt (by decide)) dX10_hasTraded_29 ?_
    refine g_icmp_ge (pc := 32) (tgt := 81) dX10_hasTraded_32 rfl (fun c_13 => ?_) (fun c_13 => ?_)
    · replace hF := am_yes c_13 hF
      cases hF
      exact g_weak (hX_8 _ (hE_10 _ rfl).symm) ⟨Or.inr rfl, Or.inr rfl, Or.inr rfl, Or.inr rfl, Or.inl rfl, Or.inl rfl, trivial⟩
    · replace hF := am_no c_13 hF
      refine g_iload (pc := 35) dX10_hasTraded_35 rfl ?_
      refine g_iconst (pc := 37) (v := (1 : Int32)) dX10_hasTraded_37 rfl ?_
      refine g_iadd (pc := 38) dX10_hasTraded_38 ?_
      obtain ⟨l5_14, e_l5_14, hF⟩ := am_let_el hF
      refine n_istore (pc := 39) (ls2 := [.ref 36, .int a1, .int a2, .ref 37, .int l4_5, .int l5_14]) e_l5_14 rfl dX10_hasTraded_39 (Nat.le_of_ble_eq_true rfl) ?_
      obtain ⟨x_33, hL_21, hF⟩ := am_lr_el hF
      have hX_18 : ∀ (I_17 : am_IT), x_33 = .inl I_17 → G am_sc0 l d 0 0 mX10_hasTraded (am_qz r N P I2) 75 [.ref 36, .int a1, .int a2, .ref 37, .int l4_5, .null] [] N P I_17 0 0 := by
        intro I_17 q
        subst q
        obtain ⟨l4_32, e_l4_32, hF⟩ := am_let_el hF
        refine n_iinc (pc := 75) (ls2 := [.ref 36, .int a1, .int a2, .ref 37, .int l4_32, .null]) e_l4_32 rfl rfl rfl dX10_hasTraded_75 (Nat.le_of_ble_eq_true rfl) ?_
        refine g_goto (pc := 78) (tgt := 23) dX10_hasTraded_78 rfl ?_
        cases hF
        exact ih_9 (l4_32, I_17) rfl
      have hZ_22 : ∀ y, x_33 = .inr y → y = _ := fun y q => by subst q; exact hF
      clear hF
      have hC := am_loop (C := fun x => G am_sc0 l d 0 0 mX10_hasTraded (am_qz r N P I2) 41 [.ref 36, .int a1, .int a2, .ref 37, .int l4_5, .int x.1] [] N P x.2 0 0) (by
        rintro ⟨l5_15, I_16⟩ rr hF ih_19 hE_20
        replace hF := am_u2_ap hF
        change G am_sc0 l d 0 0 mX10_hasTraded (am_qz r N P I2) 41 [.ref 36, .int a1, .int a2, .ref 37, .int l4_5, .int l5_15] [] N P I_16 0 0
        refine g_iload (pc := 41) dX10_hasTraded_41 rfl ?_
        refine g_aload_n (pc := 43) dX10_hasTraded_43 rfl rfl ?_
        refine g_getR (pc := 44) (k := 36) (r := 1) kf_X10_21.r rfl rfl (hPl.get (by decide) rfl) (hPl.lt (by decide)) dX10_hasTraded_44 ?_
        refine g_getI (pc := 47) (k := 1) kf_X10_61.r rfl rfl (hPl.lt (by decide)) dX10_hasTraded_47 ?_
        refine g_icmp_ge (pc := 50) (tgt := 75) dX10_hasTraded_50 rfl (fun c_23 => ?_) (fun c_23 => ?_)
        · replace hF := am_yes c_23 hF
          cases hF
          exact g_weak (hX_18 _ (hE_20 _ rfl).symm) ⟨Or.inr rfl, Or.inr rfl, Or.inr rfl, Or.inr rfl, Or.inr rfl, Or.inl rfl, trivial⟩
        · replace hF := am_no c_23 hF
          refine g_aload_n (pc := 53) dX10_hasTraded_53 rfl rfl ?_
          refine g_iload_n (pc := 54) dX10_hasTraded_54 rfl rfl ?_
          refine g_iload_n (pc := 55) dX10_hasTraded_55 rfl rfl ?_
          refine g_iload (pc := 56) dX10_hasTraded_56 rfl ?_
          refine g_iload (pc := 58) dX10_hasTraded_58 rfl ?_
          refine g_aload_n (pc := 60) dX10_hasTraded_60 rfl rfl ?_
          obtain ⟨r_25, I_26, h_24, hF⟩ := am_b2_el hF
          refine g_cVz (pc := 61) (k := 36) (As := [.int a1, .int a2, .int l4_5, .int l5_15, .ref 37]) (st := []) ky_X10_hasRepainted kl_X10_64 (s_X10_hasRepainted_36_37 (d := 3) (hPl) (Nat.le_refl _) h_24) rfl rfl rfl (hPl.lt (by decide)) (Nat.le_trans (by decide) hd) (Nat.le_of_ble_eq_true rfl) (Nat.le_refl _) (Nat.le_refl _) dX10_hasTraded_61 ?_
          intro z_27
          refine g_if_eq (pc := 64) (tgt := 69) dX10_hasTraded_64 rfl (fun c_28 => ?_) (fun c_28 => ?_)
          · replace hF := am_yes c_28 hF
            obtain ⟨l5_29, e_l5_29, hF⟩ := am_let_el hF
            refine n_iinc (pc := 69) (ls2 := [.ref 36, .int a1, .int a2, .ref 37, .int l4_5, .int l5_29]) e_l5_29 rfl rfl rfl dX10_hasTraded_69 (Nat.le_of_ble_eq_true rfl) ?_
            refine g_goto (pc := 72) (tgt := 41) dX10_hasTraded_72 rfl ?_
            cases hF
            exact ih_19 (l5_29, I_26) rfl
          · replace hF := am_no c_28 hF
            refine g_iconst (pc := 67) (v := (1 : Int32)) dX10_hasTraded_67 rfl ?_
            cases hF
            have q_30 := hZ_22 _ (hE_20 _ rfl).symm
            cases q_30
            have q_31 := hZ_12 _ (hE_10 _ rfl).symm
            cases q_31
            exact g_zret (pc := 68) rfl (Or.inr rfl) (Nat.le_refl _) (Nat.le_refl _) dX10_hasTraded_68 ⟨(Or.inr rfl), rfl, rfl, rfl, rfl⟩
        ) _ _ hL_21
      exact hC
    ) _ _ hL_11
  exact hC
def F_X10_round_36_37 (I : am_IT) : Option (Int32 × am_IT) := am_b2 (am_it am_fu (am_u3 (fun (l2_1 : Int32) (l3_2 : Int32) (I_3 : am_IT) => if (I_3 1 4) ≤ l3_2 then (some (.inr (l2_1, I_3))) else (am_let (l3_2 + (1 : Int32)) (fun (l4_12 : Int32) => am_b2 (am_it am_fu (am_u3 (fun (l2_13 : Int32) (l4_14 : Int32) (I_15 : am_IT) => if (I_15 1 4) ≤ l4_14 then (some (.inr (l2_13, I_15))) else (am_b2 (F_X10_hasTraded_36_37 I_15 l3_2 l4_14) (fun (r_25 : Int32) (I_26 : am_IT) => if r_25 = 0 then (am_let (l4_14 + (1 : Int32)) (fun (l4_29 : Int32) => some (.inl (l2_13, l4_29, I_26)))) else (am_let (l2_13 + (1 : Int32)) (fun (l2_30 : Int32) => am_let (l4_14 + (1 : Int32)) (fun (l4_31 : Int32) => some (.inl (l2_30, l4_31, I_26))))))))) (l2_1, l4_12, I_3)) (fun (l2_16 : Int32) (I_17 : am_IT) => am_let (l3_2 + (1 : Int32)) (fun (l3_32 : Int32) => some (.inl (l2_16, l3_32, I_17)))))))) ((0 : Int32), (0 : Int32), I)) (fun (l2_4 : Int32) (I_5 : am_IT) => some (l2_4, I_5))
set_option maxRecDepth 100000 in
set_option maxHeartbeats 4000000 in
theorem s_X10_round_36_37 {l : Launch} {d N : Nat} {P : am_PT} (hPl : am_Pl 94 N P) (hd : 5 ≤ d) {I : am_IT} {r : Int32} {I2 : am_IT} (hF : F_X10_round_36_37 I = some (r, I2)) : am_C l d 0 0 mX10_round [.ref 36, .ref 37] N P I (am_qi r N P I2) := by
  refine am_body (sc := am_sc0) (n := 3) (by decide +kernel) (by decide) rfl ?_
  change G am_sc0 l d 0 0 mX10_round (am_qi r N P I2) 0 [.ref 36, .ref 37, .null, .null, .null] [] N P I 0 0
  unfold F_X10_round_36_37 at hF
  refine g_iconst (pc := 0) (v := (0 : Int32)) dX10_round_0 rfl ?_
  refine n_istore_n (pc := 1) (ls2 := [.ref 36, .ref 37, .int (0 : Int32), .null, .null]) rfl rfl dX10_round_1 rfl (Nat.le_of_ble_eq_true rfl) ?_
  refine g_iconst (pc := 2) (v := (0 : Int32)) dX10_round_2 rfl ?_
  refine n_istore_n (pc := 3) (ls2 := [.ref 36, .ref 37, .int (0 : Int32), .int (0 : Int32), .null]) rfl rfl dX10_round_3 rfl (Nat.le_of_ble_eq_true rfl) ?_
  obtain ⟨l2_4, I_5, hL_9, hF⟩ := am_b2_el hF
  have hX_6 : G am_sc0 l d 0 0 mX10_round (am_qi r N P I2) 58 [.ref 36, .ref 37, .int l2_4, .null, .null] [] N P I_5 0 0 := by
    refine g_iload_n (pc := 58) dX10_round_58 rfl rfl ?_
    cases hF
    exact g_iret (pc := 59) rfl (Nat.le_refl _) (Nat.le_refl _) dX10_round_59 ⟨rfl, rfl, rfl, rfl⟩
  clear hF
  have hC := am_loop (C := fun x => G am_sc0 l d 0 0 mX10_round (am_qi r N P I2) 4 [.ref 36, .ref 37, .int x.1, .int x.2.1, .null] [] N P x.2.2 0 0) (by
    rintro ⟨l2_1, l3_2, I_3⟩ rr hF ih_7 hE_8
    replace hF := am_u3_ap hF
    change G am_sc0 l d 0 0 mX10_round (am_qi r N P I2) 4 [.ref 36, .ref 37, .int l2_1, .int l3_2, .null] [] N P I_3 0 0
    refine g_iload_n (pc := 4) dX10_round_4 rfl rfl ?_
    refine g_aload_n (pc := 5) dX10_round_5 rfl rfl ?_
    refine g_getR (pc := 6) (k := 36) (r := 1) kf_X10_21.r rfl rfl (hPl.get (by decide) rfl) (hPl.lt (by decide)) dX10_round_6 ?_
    refine g_getI (pc := 9) (k := 1) kf_X10_49.r rfl rfl (hPl.lt (by decide)) dX10_round_9 ?_
    refine g_icmp_ge (pc := 12) (tgt := 58) dX10_round_12 rfl (fun c_11 => ?_) (fun c_11 => ?_)
    · replace hF := am_yes c_11 hF
      cases hF
      cases hE_8 _ rfl
      exact g_weak hX_6 ⟨Or.inr rfl, Or.inr rfl, Or.inr rfl, Or.inl rfl, Or.inl rfl, trivial⟩
    · replace hF := am_no c_11 hF
      refine g_iload_n (pc := 15) dX10_round_15 rfl rfl ?_
      refine g_iconst (pc := 16) (v := (1 : Int32)) dX10_round_16 rfl ?_
      refine g_iadd (pc := 17) dX10_round_17 ?_
      obtain ⟨l4_12, e_l4_12, hF⟩ := am_let_el hF
      refine n_istore (pc := 18) (ls2 := [.ref 36, .ref 37, .int l2_1, .int l3_2, .int l4_12]) e_l4_12 rfl dX10_round_18 (Nat.le_of_ble_eq_true rfl) ?_
      obtain ⟨l2_16, I_17, hL_21, hF⟩ := am_b2_el hF
      have hX_18 : G am_sc0 l d 0 0 mX10_round (am_qi r N P I2) 52 [.ref 36, .ref 37, .int l2_16, .int l3_2, .null] [] N P I_17 0 0 := by
        obtain ⟨l3_32, e_l3_32, hF⟩ := am_let_el hF
        refine n_iinc (pc := 52) (ls2 := [.ref 36, .ref 37, .int l2_16, .int l3_32, .null]) e_l3_32 rfl rfl rfl dX10_round_52 (Nat.le_of_ble_eq_true rfl) ?_
        refine g_goto (pc := 55) (tgt := 4) dX10_round_55 rfl ?_
        cases hF
        exact ih_7 (l2_16, l3_32, I_17) rfl
      clear hF
      have hC := am_loop (C := fun x => G am_sc0 l d 0 0 mX10_round (am_qi r N P I2) 20 [.ref 36, .ref 37, .int x.1, .int l3_2, .int x.2.1] [] N P x.2.2 0 0) (by
        rintro ⟨l2_13, l4_14, I_15⟩ rr hF ih_19 hE_20
        replace hF := am_u3_ap hF
        change G am_sc0 l d 0 0 mX10_round (am_qi r N P I2) 20 [.ref 36, .ref 37, .int l2_13, .int l3_2, .int l4_14] [] N P I_15 0 0
        refine g_iload (pc := 20) dX10_round_20 rfl ?_
        refine g_aload_n (pc := 22) dX10_round_22 rfl rfl ?_
        refine g_getR (pc := 23) (k := 36) (r := 1) kf_X10_21.r rfl rfl (hPl.get (by decide) rfl) (hPl.lt (by decide)) dX10_round_23 ?_
        refine g_getI (pc := 26) (k := 1) kf_X10_49.r rfl rfl (hPl.lt (by decide)) dX10_round_26 ?_
        refine g_icmp_ge (pc := 29) (tgt := 52) dX10_round_29 rfl (fun c_23 => ?_) (fun c_23 => ?_)
        · replace hF := am_yes c_23 hF
          cases hF
          cases hE_20 _ rfl
          exact g_weak hX_18 ⟨Or.inr rfl, Or.inr rfl, Or.inr rfl, Or.inr rfl, Or.inl rfl, trivial⟩
        · replace hF := am_no c_23 hF
          refine g_aload_n (pc := 32) dX10_round_32 rfl rfl ?_
          refine g_iload_n (pc := 33) dX10_round_33 rfl rfl ?_
          refine g_iload (pc := 34) dX10_round_34 rfl ?_
          refine g_aload_n (pc := 36) dX10_round_36 rfl rfl ?_
          obtain ⟨r_25, I_26, h_24, hF⟩ := am_b2_el hF
          refine g_cVz (pc := 37) (k := 36) (As := [.int l3_2, .int l4_14, .ref 37]) (st := []) ky_X10_hasTraded kl_X10_53 (s_X10_hasTraded_36_37 (d := 4) (hPl) (Nat.le_refl _) h_24) rfl rfl rfl (hPl.lt (by decide)) (Nat.le_trans (by decide) hd) (Nat.le_of_ble_eq_true rfl) (Nat.le_refl _) (Nat.le_refl _) dX10_round_37 ?_
          intro z_27
          refine g_if_eq (pc := 40) (tgt := 46) dX10_round_40 rfl (fun c_28 => ?_) (fun c_28 => ?_)
          · replace hF := am_yes c_28 hF
            obtain ⟨l4_29, e_l4_29, hF⟩ := am_let_el hF
            refine n_iinc (pc := 46) (ls2 := [.ref 36, .ref 37, .int l2_13, .int l3_2, .int l4_29]) e_l4_29 rfl rfl rfl dX10_round_46 (Nat.le_of_ble_eq_true rfl) ?_
            refine g_goto (pc := 49) (tgt := 20) dX10_round_49 rfl ?_
            cases hF
            exact ih_19 (l2_13, l4_29, I_26) rfl
          · replace hF := am_no c_28 hF
            obtain ⟨l2_30, e_l2_30, hF⟩ := am_let_el hF
            refine n_iinc (pc := 43) (ls2 := [.ref 36, .ref 37, .int l2_30, .int l3_2, .int l4_14]) e_l2_30 rfl rfl rfl dX10_round_43 (Nat.le_of_ble_eq_true rfl) ?_
            obtain ⟨l4_31, e_l4_31, hF⟩ := am_let_el hF
            refine n_iinc (pc := 46) (ls2 := [.ref 36, .ref 37, .int l2_30, .int l3_2, .int l4_31]) e_l4_31 rfl rfl rfl dX10_round_46 (Nat.le_of_ble_eq_true rfl) ?_
            refine g_goto (pc := 49) (tgt := 20) dX10_round_49 rfl ?_
            cases hF
            exact ih_19 (l2_30, l4_31, I_26) rfl
        ) _ _ hL_21
      exact hC
    ) _ _ hL_9
  exact hC
def F_X10_tradesTillRest_36 (I : am_IT) : Option (Int32 × am_IT) := am_b1 (F_X8_measure_23 I) (fun (I_2 : am_IT) => if am_cpok (0 : Int32) (0 : Int32) (7 : Int32) 7 7 = true then (am_let (cpy2 I_2 3 37 (0 : Int32).toNatClampNeg (0 : Int32).toNatClampNeg (7 : Int32).toNatClampNeg) (fun (I_4 : am_IT) => am_lr (am_it am_fu (am_u3 (fun (l1_5 : Int32) (l2_6 : Int32) (I_7 : am_IT) => if (30 : Int32) ≤ l2_6 then (some (.inr (.inl (I_7)))) else (am_b2 (F_X10_round_36_37 I_7) (fun (r_16 : Int32) (I_17 : am_IT) => if r_16 = 0 then (some (.inr (.inr (l1_5, I_17)))) else (am_let (l1_5 + r_16) (fun (l1_19 : Int32) => am_let (l2_6 + (1 : Int32)) (fun (l2_20 : Int32) => some (.inl (l1_19, l2_20, I_17))))))))) ((0 : Int32), (0 : Int32), I_4)) (fun (I_8 : am_IT) => some ((-1 : Int32), I_8)))) else none)
set_option maxRecDepth 100000 in
set_option maxHeartbeats 4000000 in
theorem s_X10_tradesTillRest_36 {l : Launch} {d N : Nat} {P : am_PT} (hPl : am_Pl 94 N P) (hd : 6 ≤ d) {I : am_IT} {r : Int32} {I2 : am_IT} (hF : F_X10_tradesTillRest_36 I = some (r, I2)) : am_C l d 0 0 mX10_tradesTillRest [.ref 36] N P I (am_qi r N P I2) := by
  refine am_body (sc := am_sc0) (n := 3) (by decide +kernel) (by decide) rfl ?_
  change G am_sc0 l d 0 0 mX10_tradesTillRest (am_qi r N P I2) 0 [.ref 36, .null, .null, .null] [] N P I 0 0
  unfold F_X10_tradesTillRest_36 at hF
  refine g_aload_n (pc := 0) dX10_tradesTillRest_0 rfl rfl ?_
  refine g_getR (pc := 1) (k := 36) (r := 23) kf_X10_25.r rfl rfl (hPl.get (by decide) rfl) (hPl.lt (by decide)) dX10_tradesTillRest_1 ?_
  obtain ⟨I_2, h_1, hF⟩ := am_b1_el hF
  refine g_cVv (pc := 4) (k := 23) (As := []) (st := []) ky_X8_measure kl_X10_29 (s_X8_measure_23 (d := 2) (hPl) (Nat.le_refl _) h_1) rfl rfl rfl (hPl.lt (by decide)) (Nat.le_trans (by decide) hd) (Nat.le_of_ble_eq_true rfl) (Nat.le_refl _) (Nat.le_refl _) dX10_tradesTillRest_4 ?_
  refine g_aload_n (pc := 7) dX10_tradesTillRest_7 rfl rfl ?_
  refine g_getR (pc := 8) (k := 36) (r := 1) kf_X10_21.r rfl rfl (hPl.get (by decide) rfl) (hPl.lt (by decide)) dX10_tradesTillRest_8 ?_
  refine g_getR (pc := 11) (k := 1) (r := 3) kf_X10_34 rfl rfl (hPl.get (by decide) rfl) (hPl.lt (by decide)) dX10_tradesTillRest_11 ?_
  refine g_iconst (pc := 14) (v := (0 : Int32)) dX10_tradesTillRest_14 rfl ?_
  refine g_aload_n (pc := 15) dX10_tradesTillRest_15 rfl rfl ?_
  refine g_getR (pc := 16) (k := 36) (r := 37) kf_X10_9.r rfl rfl (hPl.get (by decide) rfl) (hPl.lt (by decide)) dX10_tradesTillRest_16 ?_
  refine g_iconst (pc := 19) (v := (0 : Int32)) dX10_tradesTillRest_19 rfl ?_
  refine g_aload_n (pc := 20) dX10_tradesTillRest_20 rfl rfl ?_
  refine g_getR (pc := 21) (k := 36) (r := 37) kf_X10_9.r rfl rfl (hPl.get (by decide) rfl) (hPl.lt (by decide)) dX10_tradesTillRest_21 ?_
  refine g_alen (pc := 24) (k := 37) (v := 7) rfl (hPl.lt (by decide)) rfl dX10_tradesTillRest_24 ?_
  obtain ⟨c_3, hF⟩ := am_gd hF
  obtain ⟨I_4, e_I_4, hF⟩ := am_let_el hF
  refine n_acopy (pc := 25) (a := 3) (b := 37) e_I_4 c_3 kl_X10_39 rfl rfl (hPl.lt (by decide)) (hPl.lt (by decide)) (Nat.le_trans (by decide) hd) (Nat.le_of_ble_eq_true rfl) dX10_tradesTillRest_25 ?_
  refine g_iconst (pc := 28) (v := (0 : Int32)) dX10_tradesTillRest_28 rfl ?_
  refine n_istore_n (pc := 29) (ls2 := [.ref 36, .int (0 : Int32), .null, .null]) rfl rfl dX10_tradesTillRest_29 rfl (Nat.le_of_ble_eq_true rfl) ?_
  refine g_iconst (pc := 30) (v := (0 : Int32)) dX10_tradesTillRest_30 rfl ?_
  refine n_istore_n (pc := 31) (ls2 := [.ref 36, .int (0 : Int32), .int (0 : Int32), .null]) rfl rfl dX10_tradesTillRest_31 rfl (Nat.le_of_ble_eq_true rfl) ?_
  obtain ⟨x_22, hL_12, hF⟩ := am_lr_el hF
  have hX_9 : ∀ (I_8 : am_IT), x_22 = .inl I_8 → G am_sc0 l d 0 0 mX10_tradesTillRest (am_qi r N P I2) 63 [.ref 36, .null, .null, .null] [] N P I_8 0 0 := by
    intro I_8 q
    subst q
    refine g_iconst (pc := 63) (v := (-1 : Int32)) dX10_tradesTillRest_63 (by decide) ?_
    cases hF
    exact g_iret (pc := 64) rfl (Nat.le_refl _) (Nat.le_refl _) dX10_tradesTillRest_64 ⟨rfl, rfl, rfl, rfl⟩
  have hZ_13 : ∀ y, x_22 = .inr y → y = _ := fun y q => by subst q; exact hF
  clear hF
  have hC := am_loop (C := fun x => G am_sc0 l d 0 0 mX10_tradesTillRest (am_qi r N P I2) 32 [.ref 36, .int x.1, .int x.2.1, .null] [] N P x.2.2 0 0) (by
    rintro ⟨l1_5, l2_6, I_7⟩ rr hF ih_10 hE_11
    replace hF := am_u3_ap hF
    change G am_sc0 l d 0 0 mX10_tradesTillRest (am_qi r N P I2) 32 [.ref 36, .int l1_5, .int l2_6, .null] [] N P I_7 0 0
    refine g_iload_n (pc := 32) dX10_tradesTillRest_32 rfl rfl ?_
    refine g_bipush (pc := 33) (v := (30 : Int32)) dX10_tradesTillRest_33 rfl ?_
    refine g_icmp_ge (pc := 35) (tgt := 63) dX10_tradesTillRest_35 rfl (fun c_14 => ?_) (fun c_14 => ?_)
    · replace hF := am_yes c_14 hF
      cases hF
      exact g_weak (hX_9 _ (hE_11 _ rfl).symm) ⟨Or.inr rfl, Or.inl rfl, Or.inl rfl, Or.inl rfl, trivial⟩
    · replace hF := am_no c_14 hF
      refine g_aload_n (pc := 38) dX10_tradesTillRest_38 rfl rfl ?_
      refine g_aload_n (pc := 39) dX10_tradesTillRest_39 rfl rfl ?_
      refine g_getR (pc := 40) (k := 36) (r := 37) kf_X10_9.r rfl rfl (hPl.get (by decide) rfl) (hPl.lt (by decide)) dX10_tradesTillRest_40 ?_
      obtain ⟨r_16, I_17, h_15, hF⟩ := am_b2_el hF
      refine g_cVi (pc := 43) (k := 36) (As := [.ref 37]) (st := []) ky_X10_round kl_X10_45 (s_X10_round_36_37 (d := 5) (hPl) (Nat.le_refl _) h_15) rfl rfl rfl (hPl.lt (by decide)) (Nat.le_trans (by decide) hd) (Nat.le_of_ble_eq_true rfl) (Nat.le_refl _) (Nat.le_refl _) dX10_tradesTillRest_43 ?_
      refine n_istore_n (pc := 46) (ls2 := [.ref 36, .int l1_5, .int l2_6, .int r_16]) rfl rfl dX10_tradesTillRest_46 rfl (Nat.le_of_ble_eq_true rfl) ?_
      refine g_iload_n (pc := 47) dX10_tradesTillRest_47 rfl rfl ?_
      refine g_if_ne (pc := 48) (tgt := 53) dX10_tradesTillRest_48 rfl (fun c_18 => ?_) (fun c_18 => ?_)
      · replace hF := am_no c_18 hF
        refine g_iload_n (pc := 53) dX10_tradesTillRest_53 rfl rfl ?_
        refine g_iload_n (pc := 54) dX10_tradesTillRest_54 rfl rfl ?_
        refine g_iadd (pc := 55) dX10_tradesTillRest_55 ?_
        obtain ⟨l1_19, e_l1_19, hF⟩ := am_let_el hF
        refine n_istore_n (pc := 56) (ls2 := [.ref 36, .int l1_19, .int l2_6, .int r_16]) e_l1_19 rfl dX10_tradesTillRest_56 rfl (Nat.le_of_ble_eq_true rfl) ?_
        obtain ⟨l2_20, e_l2_20, hF⟩ := am_let_el hF
        refine n_iinc (pc := 57) (ls2 := [.ref 36, .int l1_19, .int l2_20, .int r_16]) e_l2_20 rfl rfl rfl dX10_tradesTillRest_57 (Nat.le_of_ble_eq_true rfl) ?_
        refine g_goto (pc := 60) (tgt := 32) dX10_tradesTillRest_60 rfl ?_
        cases hF
        exact g_weak (ih_10 (l1_19, l2_20, I_17) rfl) ⟨Or.inr rfl, Or.inr rfl, Or.inr rfl, Or.inl rfl, trivial⟩
      · replace hF := am_yes c_18 hF
        refine g_iload_n (pc := 51) dX10_tradesTillRest_51 rfl rfl ?_
        cases hF
        have q_21 := hZ_13 _ (hE_11 _ rfl).symm
        cases q_21
        exact g_iret (pc := 52) rfl (Nat.le_refl _) (Nat.le_refl _) dX10_tradesTillRest_52 ⟨rfl, rfl, rfl, rfl⟩
    ) _ _ hL_12
  exact hC
def F_X11_stand_0 (I : am_IT) : Option (Int32 × am_IT) := am_b2 (F_X10_tradesTillRest_36 I) (fun (r_2 : Int32) (I_3 : am_IT) => some (r_2, I_3))
set_option maxRecDepth 100000 in
set_option maxHeartbeats 4000000 in
theorem s_X11_stand_0 {l : Launch} {d N : Nat} {P : am_PT} (hPl : am_Pl 94 N P) (hd : 7 ≤ d) {I : am_IT} {r : Int32} {I2 : am_IT} (hF : F_X11_stand_0 I = some (r, I2)) : am_C l d 0 0 mX11_stand [.ref 0] N P I (am_qi r N P I2) := by
  refine am_body (sc := am_sc0) (n := 0) (by decide +kernel) (by decide) rfl ?_
  change G am_sc0 l d 0 0 mX11_stand (am_qi r N P I2) 0 [.ref 0] [] N P I 0 0
  unfold F_X11_stand_0 at hF
  refine g_aload_n (pc := 0) dX11_stand_0 rfl rfl ?_
  refine g_getR (pc := 1) (k := 0) (r := 36) kf_X11_44.r rfl rfl (hPl.get (by decide) rfl) (hPl.lt (by decide)) dX11_stand_1 ?_
  obtain ⟨r_2, I_3, h_1, hF⟩ := am_b2_el hF
  refine g_cVi (pc := 4) (k := 36) (As := []) (st := []) ky_X10_tradesTillRest kl_X11_223 (s_X10_tradesTillRest_36 (d := 6) (hPl) (Nat.le_refl _) h_1) rfl rfl rfl (hPl.lt (by decide)) (Nat.le_trans (by decide) hd) (Nat.le_of_ble_eq_true rfl) (Nat.le_refl _) (Nat.le_refl _) dX11_stand_4 ?_
  cases hF
  exact g_iret (pc := 7) rfl (Nat.le_refl _) (Nat.le_refl _) dX11_stand_7 ⟨rfl, rfl, rfl, rfl⟩
def F_X8_worthIn_23_41 (I : am_IT) (a1 : Int32) (a2 : Int32) : Option (Int32) := am_b1 (am_it am_fu (am_u2 (fun (l4_1 : Int32) (l5_2 : Int32) => if (I 1 3) ≤ l5_2 then (some (.inr (l4_1))) else (am_b1 (F_X8_yardsFrom_23 I a2 l5_2) (fun (r_11 : Int32) => if am_ix l5_2 7 = true then (if am_ix ((a1 * (4 : Int32)) + (I 41 l5_2.toNatClampNeg)) 28 = true then (am_let (l4_1 + (r_11 * (I 7 ((a1 * (4 : Int32)) + (I 41 l5_2.toNatClampNeg)).toNatClampNeg))) (fun (l4_14 : Int32) => am_b1 (am_it am_fu (am_u2 (fun (l4_15 : Int32) (l6_16 : Int32) => if l5_2 ≤ l6_16 then (some (.inr (l4_15))) else (if am_ix l5_2 7 = true then (if am_ix l6_16 7 = true then (if (I 41 l5_2.toNatClampNeg) = (I 41 l6_16.toNatClampNeg) then (am_b1 (F_X8_worthOfTwo_23 I a1 a2 l5_2 l6_16) (fun (r_29 : Int32) => am_let (l4_15 + r_29) (fun (l4_30 : Int32) => am_let (l6_16 + (1 : Int32)) (fun (l6_31 : Int32) => some (.inl (l4_30, l6_31)))))) else (am_let (l6_16 + (1 : Int32)) (fun (l6_27 : Int32) => some (.inl (l4_15, l6_27))))) else none) else none))) (l4_14, (0 : Int32))) (fun (l4_17 : Int32) => am_let (l5_2 + (1 : Int32)) (fun (l5_32 : Int32) => some (.inl (l4_17, l5_32)))))) else none) else none)))) ((0 : Int32), (0 : Int32))) (fun (l4_3 : Int32) => some l4_3)
set_option maxRecDepth 100000 in
set_option maxHeartbeats 4000000 in
theorem s_X8_worthIn_23_41 {l : Launch} {d N : Nat} {P : am_PT} (hPl : am_Pl 94 N P) (hd : 3 ≤ d) {I : am_IT} {a1 : Int32} {a2 : Int32} {r : Int32} (hF : F_X8_worthIn_23_41 I a1 a2 = some (r)) : am_C l d 0 0 mX8_worthIn [.ref 23, .int a1, .int a2, .ref 41] N P I (am_qi r N P I) := by
  refine am_body (sc := am_sc0) (n := 3) (by decide +kernel) (by decide) rfl ?_
  change G am_sc0 l d 0 0 mX8_worthIn (am_qi r N P I) 0 [.ref 23, .int a1, .int a2, .ref 41, .null, .null, .null] [] N P I 0 0
  unfold F_X8_worthIn_23_41 at hF
  refine g_iconst (pc := 0) (v := (0 : Int32)) dX8_worthIn_0 rfl ?_
  refine n_istore (pc := 1) (ls2 := [.ref 23, .int a1, .int a2, .ref 41, .int (0 : Int32), .null, .null]) rfl rfl dX8_worthIn_1 (Nat.le_of_ble_eq_true rfl) ?_
  refine g_iconst (pc := 3) (v := (0 : Int32)) dX8_worthIn_3 rfl ?_
  refine n_istore (pc := 4) (ls2 := [.ref 23, .int a1, .int a2, .ref 41, .int (0 : Int32), .int (0 : Int32), .null]) rfl rfl dX8_worthIn_4 (Nat.le_of_ble_eq_true rfl) ?_
  obtain ⟨l4_3, hL_7, hF⟩ := am_b1_el hF
  have hX_4 : G am_sc0 l d 0 0 mX8_worthIn (am_qi r N P I) 95 [.ref 23, .int a1, .int a2, .ref 41, .int l4_3, .null, .null] [] N P I 0 0 := by
    refine g_iload (pc := 95) dX8_worthIn_95 rfl ?_
    cases hF
    exact g_iret (pc := 97) rfl (Nat.le_refl _) (Nat.le_refl _) dX8_worthIn_97 ⟨rfl, rfl, rfl, rfl⟩
  clear hF
  have hC := am_loop (C := fun x => G am_sc0 l d 0 0 mX8_worthIn (am_qi r N P I) 6 [.ref 23, .int a1, .int a2, .ref 41, .int x.1, .int x.2, .null] [] N P I 0 0) (by
    rintro ⟨l4_1, l5_2⟩ rr hF ih_5 hE_6
    replace hF := am_u2_ap hF
    change G am_sc0 l d 0 0 mX8_worthIn (am_qi r N P I) 6 [.ref 23, .int a1, .int a2, .ref 41, .int l4_1, .int l5_2, .null] [] N P I 0 0
    refine g_iload (pc := 6) dX8_worthIn_6 rfl ?_
    refine g_aload_n (pc := 8) dX8_worthIn_8 rfl rfl ?_
    refine g_getR (pc := 9) (k := 23) (r := 1) kf_X8_15.r rfl rfl (hPl.get (by decide) rfl) (hPl.lt (by decide)) dX8_worthIn_9 ?_
    refine g_getI (pc := 12) (k := 1) kf_X8_61.r rfl rfl (hPl.lt (by decide)) dX8_worthIn_12 ?_
    refine g_icmp_ge (pc := 15) (tgt := 95) dX8_worthIn_15 rfl (fun c_9 => ?_) (fun c_9 => ?_)
    · replace hF := am_yes c_9 hF
      cases hF
      cases hE_6 _ rfl
      exact g_weak hX_4 ⟨Or.inr rfl, Or.inr rfl, Or.inr rfl, Or.inr rfl, Or.inr rfl, Or.inl rfl, Or.inl rfl, trivial⟩
    · replace hF := am_no c_9 hF
      refine g_iload (pc := 18) dX8_worthIn_18 rfl ?_
      refine g_aload_n (pc := 20) dX8_worthIn_20 rfl rfl ?_
      refine g_iload_n (pc := 21) dX8_worthIn_21 rfl rfl ?_
      refine g_iload (pc := 22) dX8_worthIn_22 rfl ?_
      obtain ⟨r_11, h_10, hF⟩ := am_b1_el hF
      refine g_cVi (pc := 24) (k := 23) (As := [.int a2, .int l5_2]) (st := [.int l4_1]) ky_X8_yardsFrom kl_X8_55 (s_X8_yardsFrom_23 (d := 1) (hPl) (Nat.le_refl _) h_10) rfl rfl rfl (hPl.lt (by decide)) (Nat.le_trans (by decide) hd) (Nat.le_of_ble_eq_true rfl) (Nat.le_refl _) (Nat.le_refl _) dX8_worthIn_24 ?_
      refine g_aload_n (pc := 27) dX8_worthIn_27 rfl rfl ?_
      refine g_getR (pc := 28) (k := 23) (r := 1) kf_X8_15.r rfl rfl (hPl.get (by decide) rfl) (hPl.lt (by decide)) dX8_worthIn_28 ?_
      refine g_getR (pc := 31) (k := 1) (r := 7) kf_X8_64 rfl rfl (hPl.get (by decide) rfl) (hPl.lt (by decide)) dX8_worthIn_31 ?_
      refine g_iload_n (pc := 34) dX8_worthIn_34 rfl rfl ?_
      refine g_iconst (pc := 35) (v := (4 : Int32)) dX8_worthIn_35 rfl ?_
      refine g_imul (pc := 36) dX8_worthIn_36 ?_
      refine g_aload_n (pc := 37) dX8_worthIn_37 rfl rfl ?_
      refine g_iload (pc := 38) dX8_worthIn_38 rfl ?_
      obtain ⟨c_12, hF⟩ := am_gd hF
      refine g_iald (pc := 40) (k := 41) rfl (hPl.lt (by decide)) (am_ix_use c_12) dX8_worthIn_40 ?_
      refine g_iadd (pc := 41) dX8_worthIn_41 ?_
      obtain ⟨c_13, hF⟩ := am_gd hF
      refine g_iald (pc := 42) (k := 7) rfl (hPl.lt (by decide)) (am_ix_use c_13) dX8_worthIn_42 ?_
      refine g_imul (pc := 43) dX8_worthIn_43 ?_
      refine g_iadd (pc := 44) dX8_worthIn_44 ?_
      obtain ⟨l4_14, e_l4_14, hF⟩ := am_let_el hF
      refine n_istore (pc := 45) (ls2 := [.ref 23, .int a1, .int a2, .ref 41, .int l4_14, .int l5_2, .null]) e_l4_14 rfl dX8_worthIn_45 (Nat.le_of_ble_eq_true rfl) ?_
      refine g_iconst (pc := 47) (v := (0 : Int32)) dX8_worthIn_47 rfl ?_
      refine n_istore (pc := 48) (ls2 := [.ref 23, .int a1, .int a2, .ref 41, .int l4_14, .int l5_2, .int (0 : Int32)]) rfl rfl dX8_worthIn_48 (Nat.le_of_ble_eq_true rfl) ?_
      obtain ⟨l4_17, hL_21, hF⟩ := am_b1_el hF
      have hX_18 : G am_sc0 l d 0 0 mX8_worthIn (am_qi r N P I) 89 [.ref 23, .int a1, .int a2, .ref 41, .int l4_17, .int l5_2, .null] [] N P I 0 0 := by
        obtain ⟨l5_32, e_l5_32, hF⟩ := am_let_el hF
        refine n_iinc (pc := 89) (ls2 := [.ref 23, .int a1, .int a2, .ref 41, .int l4_17, .int l5_32, .null]) e_l5_32 rfl rfl rfl dX8_worthIn_89 (Nat.le_of_ble_eq_true rfl) ?_
        refine g_goto (pc := 92) (tgt := 6) dX8_worthIn_92 rfl ?_
        cases hF
        exact ih_5 (l4_17, l5_32) rfl
      clear hF
      have hC := am_loop (C := fun x => G am_sc0 l d 0 0 mX8_worthIn (am_qi r N P I) 50 [.ref 23, .int a1, .int a2, .ref 41, .int x.1, .int l5_2, .int x.2] [] N P I 0 0) (by
        rintro ⟨l4_15, l6_16⟩ rr hF ih_19 hE_20
        replace hF := am_u2_ap hF
        change G am_sc0 l d 0 0 mX8_worthIn (am_qi r N P I) 50 [.ref 23, .int a1, .int a2, .ref 41, .int l4_15, .int l5_2, .int l6_16] [] N P I 0 0
        refine g_iload (pc := 50) dX8_worthIn_50 rfl ?_
        refine g_iload (pc := 52) dX8_worthIn_52 rfl ?_
        refine g_icmp_ge (pc := 54) (tgt := 89) dX8_worthIn_54 rfl (fun c_23 => ?_) (fun c_23 => ?_)
        · replace hF := am_yes c_23 hF
          cases hF
          cases hE_20 _ rfl
          exact g_weak hX_18 ⟨Or.inr rfl, Or.inr rfl, Or.inr rfl, Or.inr rfl, Or.inr rfl, Or.inr rfl, Or.inl rfl, trivial⟩
        · replace hF := am_no c_23 hF
          refine g_aload_n (pc := 57) dX8_worthIn_57 rfl rfl ?_
          refine g_iload (pc := 58) dX8_worthIn_58 rfl ?_
          obtain ⟨c_24, hF⟩ := am_gd hF
          refine g_iald (pc := 60) (k := 41) rfl (hPl.lt (by decide)) (am_ix_use c_24) dX8_worthIn_60 ?_
          refine g_aload_n (pc := 61) dX8_worthIn_61 rfl rfl ?_
          refine g_iload (pc := 62) dX8_worthIn_62 rfl ?_
          obtain ⟨c_25, hF⟩ := am_gd hF
          refine g_iald (pc := 64) (k := 41) rfl (hPl.lt (by decide)) (am_ix_use c_25) dX8_worthIn_64 ?_
          refine g_icmp_ne (pc := 65) (tgt := 83) dX8_worthIn_65 rfl (fun c_26 => ?_) (fun c_26 => ?_)
          · replace hF := am_no c_26 hF
            obtain ⟨l6_27, e_l6_27, hF⟩ := am_let_el hF
            refine n_iinc (pc := 83) (ls2 := [.ref 23, .int a1, .int a2, .ref 41, .int l4_15, .int l5_2, .int l6_27]) e_l6_27 rfl rfl rfl dX8_worthIn_83 (Nat.le_of_ble_eq_true rfl) ?_
            refine g_goto (pc := 86) (tgt := 50) dX8_worthIn_86 rfl ?_
            cases hF
            exact ih_19 (l4_15, l6_27) rfl
          · replace hF := am_yes c_26 hF
            refine g_iload (pc := 68) dX8_worthIn_68 rfl ?_
            refine g_aload_n (pc := 70) dX8_worthIn_70 rfl rfl ?_
            refine g_iload_n (pc := 71) dX8_worthIn_71 rfl rfl ?_
            refine g_iload_n (pc := 72) dX8_worthIn_72 rfl rfl ?_
            refine g_iload (pc := 73) dX8_worthIn_73 rfl ?_
            refine g_iload (pc := 75) dX8_worthIn_75 rfl ?_
            obtain ⟨r_29, h_28, hF⟩ := am_b1_el hF
            refine g_cVi (pc := 77) (k := 23) (As := [.int a1, .int a2, .int l5_2, .int l6_16]) (st := [.int l4_15]) ky_X8_worthOfTwo kl_X8_67 (s_X8_worthOfTwo_23 (d := 2) (hPl) (Nat.le_refl _) h_28) rfl rfl rfl (hPl.lt (by decide)) (Nat.le_trans (by decide) hd) (Nat.le_of_ble_eq_true rfl) (Nat.le_refl _) (Nat.le_refl _) dX8_worthIn_77 ?_
            refine g_iadd (pc := 80) dX8_worthIn_80 ?_
            obtain ⟨l4_30, e_l4_30, hF⟩ := am_let_el hF
            refine n_istore (pc := 81) (ls2 := [.ref 23, .int a1, .int a2, .ref 41, .int l4_30, .int l5_2, .int l6_16]) e_l4_30 rfl dX8_worthIn_81 (Nat.le_of_ble_eq_true rfl) ?_
            obtain ⟨l6_31, e_l6_31, hF⟩ := am_let_el hF
            refine n_iinc (pc := 83) (ls2 := [.ref 23, .int a1, .int a2, .ref 41, .int l4_30, .int l5_2, .int l6_31]) e_l6_31 rfl rfl rfl dX8_worthIn_83 (Nat.le_of_ble_eq_true rfl) ?_
            refine g_goto (pc := 86) (tgt := 50) dX8_worthIn_86 rfl ?_
            cases hF
            exact ih_19 (l4_30, l6_31) rfl
        ) _ _ hL_21
      exact hC
    ) _ _ hL_7
  exact hC
def F_X8_worthTo_23_41 (I : am_IT) (a1 : Int32) : Option (Int32) := if am_ix a1 7 = true then (am_b1 (F_X8_worthIn_23_41 I a1 (I 4 a1.toNatClampNeg)) (fun (r_3 : Int32) => some r_3)) else none
set_option maxRecDepth 100000 in
set_option maxHeartbeats 4000000 in
theorem s_X8_worthTo_23_41 {l : Launch} {d N : Nat} {P : am_PT} (hPl : am_Pl 94 N P) (hd : 4 ≤ d) {I : am_IT} {a1 : Int32} {r : Int32} (hF : F_X8_worthTo_23_41 I a1 = some (r)) : am_C l d 0 0 mX8_worthTo [.ref 23, .int a1, .ref 41] N P I (am_qi r N P I) := by
  refine am_body (sc := am_sc0) (n := 0) (by decide +kernel) (by decide) rfl ?_
  change G am_sc0 l d 0 0 mX8_worthTo (am_qi r N P I) 0 [.ref 23, .int a1, .ref 41] [] N P I 0 0
  unfold F_X8_worthTo_23_41 at hF
  refine g_aload_n (pc := 0) dX8_worthTo_0 rfl rfl ?_
  refine g_iload_n (pc := 1) dX8_worthTo_1 rfl rfl ?_
  refine g_aload_n (pc := 2) dX8_worthTo_2 rfl rfl ?_
  refine g_getR (pc := 3) (k := 23) (r := 1) kf_X8_15.r rfl rfl (hPl.get (by decide) rfl) (hPl.lt (by decide)) dX8_worthTo_3 ?_
  refine g_getR (pc := 6) (k := 1) (r := 4) kf_X8_46 rfl rfl (hPl.get (by decide) rfl) (hPl.lt (by decide)) dX8_worthTo_6 ?_
  refine g_iload_n (pc := 9) dX8_worthTo_9 rfl rfl ?_
  obtain ⟨c_1, hF⟩ := am_gd hF
  refine g_iald (pc := 10) (k := 4) rfl (hPl.lt (by decide)) (am_ix_use c_1) dX8_worthTo_10 ?_
  refine g_aload_n (pc := 11) dX8_worthTo_11 rfl rfl ?_
  obtain ⟨r_3, h_2, hF⟩ := am_b1_el hF
  refine g_cVi (pc := 12) (k := 23) (As := [.int a1, .int (I 4 a1.toNatClampNeg), .ref 41]) (st := []) ky_X8_worthIn kl_X8_71 (s_X8_worthIn_23_41 (d := 3) (hPl) (Nat.le_refl _) h_2) rfl rfl rfl (hPl.lt (by decide)) (Nat.le_trans (by decide) hd) (Nat.le_of_ble_eq_true rfl) (Nat.le_refl _) (Nat.le_refl _) dX8_worthTo_12 ?_
  cases hF
  exact g_iret (pc := 15) rfl (Nat.le_refl _) (Nat.le_refl _) dX8_worthTo_15 ⟨rfl, rfl, rfl, rfl⟩
def F_X4_weighGains_40 (I : am_IT) (a1 : Int32) (a2 : Int32) : Option (am_IT) := am_b1 (F_X8_measure_23 I) (fun (I_2 : am_IT) => if am_cpok (0 : Int32) (0 : Int32) (7 : Int32) 7 7 = true then (am_let (cpy2 I_2 3 41 (0 : Int32).toNatClampNeg (0 : Int32).toNatClampNeg (7 : Int32).toNatClampNeg) (fun (I_4 : am_IT) => am_b1 (F_X9_hasWall_1 I_4 a1) (fun (r_6 : Int32) => am_b1 (if r_6 = 0 then (some (I_4)) else (if am_ix a1 7 = true then (am_let (up2 I_4 41 a1.toNatClampNeg a2) (fun (I_13 : am_IT) => some (I_13))) else none)) (fun (I_9 : am_IT) => am_b1 (am_it am_fu (am_u2 (fun (l3_14 : Int32) (I_15 : am_IT) => if (I_15 1 4) ≤ l3_14 then (some (.inr (I_15))) else (am_b1 (F_X8_worthTo_23_41 I_15 l3_14) (fun (r_24 : Int32) => am_b1 (F_X8_worthTo_23_3 I_15 l3_14) (fun (r_26 : Int32) => if am_ix l3_14 7 = true then (am_let (up2 I_15 42 l3_14.toNatClampNeg (r_24 - r_26)) (fun (I_28 : am_IT) => am_let (l3_14 + (1 : Int32)) (fun (l3_29 : Int32) => some (.inl (l3_29, I_28))))) else none))))) ((0 : Int32), I_9)) (fun (I_16 : am_IT) => some I_16))))) else none)
set_option maxRecDepth 100000 in
set_option maxHeartbeats 4000000 in
theorem s_X4_weighGains_40 {l : Launch} {d N : Nat} {P : am_PT} (hPl : am_Pl 94 N P) (hd : 5 ≤ d) {I : am_IT} {a1 : Int32} {a2 : Int32} {I2 : am_IT} (hF : F_X4_weighGains_40 I a1 a2 = some (I2)) : am_C l d 0 0 mX4_weighGains [.ref 40, .int a1, .int a2] N P I (am_qv N P I2) := by
  refine am_body (sc := am_sc0) (n := 1) (by decide +kernel) (by decide) rfl ?_
  change G am_sc0 l d 0 0 mX4_weighGains (am_qv N P I2) 0 [.ref 40, .int a1, .int a2, .null] [] N P I 0 0
  unfold F_X4_weighGains_40 at hF
  refine g_aload_n (pc := 0) dX4_weighGains_0 rfl rfl ?_
  refine g_getR (pc := 1) (k := 40) (r := 23) kf_X4_29.r rfl rfl (hPl.get (by decide) rfl) (hPl.lt (by decide)) dX4_weighGains_1 ?_
  obtain ⟨I_2, h_1, hF⟩ := am_b1_el hF
  refine g_cVv (pc := 4) (k := 23) (As := []) (st := []) ky_X8_measure kl_X4_46 (s_X8_measure_23 (d := 2) (hPl) (Nat.le_refl _) h_1) rfl rfl rfl (hPl.lt (by decide)) (Nat.le_trans (by decide) hd) (Nat.le_of_ble_eq_true rfl) (Nat.le_refl _) (Nat.le_refl _) dX4_weighGains_4 ?_
  refine g_aload_n (pc := 7) dX4_weighGains_7 rfl rfl ?_
  refine g_getR (pc := 8) (k := 40) (r := 1) kf_X4_25.r rfl rfl (hPl.get (by decide) rfl) (hPl.lt (by decide)) dX4_weighGains_8 ?_
  refine g_getR (pc := 11) (k := 1) (r := 3) kf_X4_51 rfl rfl (hPl.get (by decide) rfl) (hPl.lt (by decide)) dX4_weighGains_11 ?_
  refine g_iconst (pc := 14) (v := (0 : Int32)) dX4_weighGains_14 rfl ?_
  refine g_aload_n (pc := 15) dX4_weighGains_15 rfl rfl ?_
  refine g_getR (pc := 16) (k := 40) (r := 41) kf_X4_18.r rfl rfl (hPl.get (by decide) rfl) (hPl.lt (by decide)) dX4_weighGains_16 ?_
  refine g_iconst (pc := 19) (v := (0 : Int32)) dX4_weighGains_19 rfl ?_
  refine g_aload_n (pc := 20) dX4_weighGains_20 rfl rfl ?_
  refine g_getR (pc := 21) (k := 40) (r := 41) kf_X4_18.r rfl rfl (hPl.get (by decide) rfl) (hPl.lt (by decide)) dX4_weighGains_21 ?_
  refine g_alen (pc := 24) (k := 41) (v := 7) rfl (hPl.lt (by decide)) rfl dX4_weighGains_24 ?_
  obtain ⟨c_3, hF⟩ := am_gd hF
  obtain ⟨I_4, e_I_4, hF⟩ := am_let_el hF
  refine n_acopy (pc := 25) (a := 3) (b := 41) e_I_4 c_3 kl_X4_54 rfl rfl (hPl.lt (by decide)) (hPl.lt (by decide)) (Nat.le_trans (by decide) hd) (Nat.le_of_ble_eq_true rfl) dX4_weighGains_25 ?_
  refine g_aload_n (pc := 28) dX4_weighGains_28 rfl rfl ?_
  refine g_getR (pc := 29) (k := 40) (r := 1) kf_X4_25.r rfl rfl (hPl.get (by decide) rfl) (hPl.lt (by decide)) dX4_weighGains_29 ?_
  refine g_iload_n (pc := 32) dX4_weighGains_32 rfl rfl ?_
  obtain ⟨r_6, h_5, hF⟩ := am_b1_el hF
  refine g_cVz (pc := 33) (k := 1) (As := [.int a1]) (st := []) ky_X9_hasWall kl_X4_60 (s_X9_hasWall_1 (d := 1) (hPl) (Nat.le_refl _) h_5) rfl rfl rfl (hPl.lt (by decide)) (Nat.le_trans (by decide) hd) (Nat.le_of_ble_eq_true rfl) (Nat.le_refl _) (Nat.le_refl _) dX4_weighGains_33 ?_
  intro z_7
  obtain ⟨I_9, hR_10, hF⟩ := am_b1_el hF
  have hJ_11 : G am_sc0 l d 0 0 mX4_weighGains (am_qv N P I2) 46 [.ref 40, .int a1, .int a2, .null] [] N P I_9 0 0 := by
    refine g_iconst (pc := 46) (v := (0 : Int32)) dX4_weighGains_46 rfl ?_
    refine n_istore_n (pc := 47) (ls2 := [.ref 40, .int a1, .int a2, .int (0 : Int32)]) rfl rfl dX4_weighGains_47 rfl (Nat.le_of_ble_eq_true rfl) ?_
    obtain ⟨I_16, hL_20, hF⟩ := am_b1_el hF
    have hX_17 : G am_sc0 l d 0 0 mX4_weighGains (am_qv N P I2) 99 [.ref 40, .int a1, .int a2, .null] [] N P I_16 0 0 := by
      cases hF
      exact g_vret (pc := 99) rfl (Nat.le_refl _) (Nat.le_refl _) dX4_weighGains_99 ⟨rfl, rfl, rfl, rfl⟩
    clear hF
    have hC := am_loop (C := fun x => G am_sc0 l d 0 0 mX4_weighGains (am_qv N P I2) 48 [.ref 40, .int a1, .int a2, .int x.1] [] N P x.2 0 0) (by
      rintro ⟨l3_14, I_15⟩ rr hF ih_18 hE_19
      replace hF := am_u2_ap hF
      change G am_sc0 l d 0 0 mX4_weighGains (am_qv N P I2) 48 [.ref 40, .int a1, .int a2, .int l3_14] [] N P I_15 0 0
      refine g_iload_n (pc := 48) dX4_weighGains_48 rfl rfl ?_
      refine g_aload_n (pc := 49) dX4_weighGains_49 rfl rfl ?_
      refine g_getR (pc := 50) (k := 40) (r := 1) kf_X4_25.r rfl rfl (hPl.get (by decide) rfl) (hPl.lt (by decide)) dX4_weighGains_50 ?_
      refine g_getI (pc := 53) (k := 1) kf_X4_37.r rfl rfl (hPl.lt (by decide)) dX4_weighGains_53 ?_
      refine g_icmp_ge (pc := 56) (tgt := 99) dX4_weighGains_56 rfl (fun c_22 => ?_) (fun c_22 => ?_)
      · replace hF := am_yes c_22 hF
        cases hF
        cases hE_19 _ rfl
        exact g_weak hX_17 ⟨Or.inr rfl, Or.inr rfl, Or.inr rfl, Or.inl rfl, trivial⟩
      · replace hF := am_no c_22 hF
        refine g_aload_n (pc := 59) dX4_weighGains_59 rfl rfl ?_
        refine g_getR (pc := 60) (k := 40) (r := 42) kf_X4_22.r rfl rfl (hPl.get (by decide) rfl) (hPl.lt (by decide)) dX4_weighGains_60 ?_
        refine g_iload_n (pc := 63) dX4_weighGains_63 rfl rfl ?_
        refine g_aload_n (pc := 64) dX4_weighGains_64 rfl rfl ?_
        refine g_getR (pc := 65) (k := 40) (r := 23) kf_X4_29.r rfl rfl (hPl.get (by decide) rfl) (hPl.lt (by decide)) dX4_weighGains_65 ?_
        refine g_iload_n (pc := 68) dX4_weighGains_68 rfl rfl ?_
        refine g_aload_n (pc := 69) dX4_weighGains_69 rfl rfl ?_
        refine g_getR (pc := 70) (k := 40) (r := 41) kf_X4_18.r rfl rfl (hPl.get (by decide) rfl) (hPl.lt (by decide)) dX4_weighGains_70 ?_
        obtain ⟨r_24, h_23, hF⟩ := am_b1_el hF
        refine g_cVi (pc := 73) (k := 23) (As := [.int l3_14, .ref 41]) (st := [.int l3_14, .ref 42]) ky_X8_worthTo kl_X4_64 (s_X8_worthTo_23_41 (d := 4) (hPl) (Nat.le_refl _) h_23) rfl rfl rfl (hPl.lt (by decide)) (Nat.le_trans (by decide) hd) (Nat.le_of_ble_eq_true rfl) (Nat.le_refl _) (Nat.le_refl _) dX4_weighGains_73 ?_
        refine g_aload_n (pc := 76) dX4_weighGains_76 rfl rfl ?_
        refine g_getR (pc := 77) (k := 40) (r := 23) kf_X4_29.r rfl rfl (hPl.get (by decide) rfl) (hPl.lt (by decide)) dX4_weighGains_77 ?_
        refine g_iload_n (pc := 80) dX4_weighGains_80 rfl rfl ?_
        refine g_aload_n (pc := 81) dX4_weighGains_81 rfl rfl ?_
        refine g_getR (pc := 82) (k := 40) (r := 1) kf_X4_25.r rfl rfl (hPl.get (by decide) rfl) (hPl.lt (by decide)) dX4_weighGains_82 ?_
        refine g_getR (pc := 85) (k := 1) (r := 3) kf_X4_51 rfl rfl (hPl.get (by decide) rfl) (hPl.lt (by decide)) dX4_weighGains_85 ?_
        obtain ⟨r_26, h_25, hF⟩ := am_b1_el hF
        refine g_cVi (pc := 88) (k := 23) (As := [.int l3_14, .ref 3]) (st := [.int r_24, .int l3_14, .ref 42]) ky_X8_worthTo kl_X4_64 (s_X8_worthTo_23_3 (d := 4) (hPl) (Nat.le_refl _) h_25) rfl rfl rfl (hPl.lt (by decide)) (Nat.le_trans (by decide) hd) (Nat.le_of_ble_eq_true rfl) (Nat.le_refl _) (Nat.le_refl _) dX4_weighGains_88 ?_
        refine g_isub (pc := 91) dX4_weighGains_91 ?_
        obtain ⟨c_27, hF⟩ := am_gd hF
        obtain ⟨I_28, e_I_28, hF⟩ := am_let_el hF
        refine n_iast (pc := 92) (k := 42) e_I_28 rfl (hPl.lt (by decide)) (am_ix_use c_27) dX4_weighGains_92 ?_
        obtain ⟨l3_29, e_l3_29, hF⟩ := am_let_el hF
        refine n_iinc (pc := 93) (ls2 := [.ref 40, .int a1, .int a2, .int l3_29]) e_l3_29 rfl rfl rfl dX4_weighGains_93 (Nat.le_of_ble_eq_true rfl) ?_
        refine g_goto (pc := 96) (tgt := 48) dX4_weighGains_96 rfl ?_
        cases hF
        exact ih_18 (l3_29, I_28) rfl
      ) _ _ hL_20
    exact hC
  clear hF
  have hF := hR_10
  clear hR_10
  refine g_if_eq (pc := 36) (tgt := 46) dX4_weighGains_36 rfl (fun c_8 => ?_) (fun c_8 => ?_)
  · replace hF := am_yes c_8 hF
    cases hF
    exact hJ_11
  · replace hF := am_no c_8 hF
    refine g_aload_n (pc := 39) dX4_weighGains_39 rfl rfl ?_
    refine g_getR (pc := 40) (k := 40) (r := 41) kf_X4_18.r rfl rfl (hPl.get (by decide) rfl) (hPl.lt (by decide)) dX4_weighGains_40 ?_
    refine g_iload_n (pc := 43) dX4_weighGains_43 rfl rfl ?_
    refine g_iload_n (pc := 44) dX4_weighGains_44 rfl rfl ?_
    obtain ⟨c_12, hF⟩ := am_gd hF
    obtain ⟨I_13, e_I_13, hF⟩ := am_let_el hF
    refine n_iast (pc := 45) (k := 41) e_I_13 rfl (hPl.lt (by decide)) (am_ix_use c_12) dX4_weighGains_45 ?_
    cases hF
    exact hJ_11
def F_J6_bitCount_0f7a4 (I : am_IT) (a1 : Int32) : Option (Int32) := am_let (a1 - (((a1.toUInt32 >>> ((1 : Int32).toUInt32 &&& Int32.toUInt32 31)).toInt32) &&& (1431655765 : Int32))) (fun (l0_1 : Int32) => am_let ((l0_1 &&& (858993459 : Int32)) + (((l0_1.toUInt32 >>> ((2 : Int32).toUInt32 &&& Int32.toUInt32 31)).toInt32) &&& (858993459 : Int32))) (fun (l0_2 : Int32) => am_let ((l0_2 + ((l0_2.toUInt32 >>> ((4 : Int32).toUInt32 &&& Int32.toUInt32 31)).toInt32)) &&& (252645135 : Int32)) (fun (l0_3 : Int32) => am_let (l0_3 + ((l0_3.toUInt32 >>> ((8 : Int32).toUInt32 &&& Int32.toUInt32 31)).toInt32)) (fun (l0_4 : Int32) => am_let (l0_4 + ((l0_4.toUInt32 >>> ((16 : Int32).toUInt32 &&& Int32.toUInt32 31)).toInt32)) (fun (l0_5 : Int32) => some (l0_5 &&& (63 : Int32)))))))
set_option maxRecDepth 100000 in
set_option maxHeartbeats 4000000 in
theorem s_J6_bitCount_0f7a4 {l : Launch} {d N : Nat} {P : am_PT} (hPl : am_Pl 94 N P) (hd : 1 ≤ d) {I : am_IT} {a1 : Int32} {r : Int32} (hF : F_J6_bitCount_0f7a4 I a1 = some (r)) : am_C l d 0 0 mJ6_bitCount_0f7a4 [.int a1] N P I (am_qi r N P I) := by
  refine am_body (sc := am_sc0) (n := 0) (by decide +kernel) (by decide) rfl ?_
  change G am_sc0 l d 0 0 mJ6_bitCount_0f7a4 (am_qi r N P I) 0 [.int a1] [] N P I 0 0
  unfold F_J6_bitCount_0f7a4 at hF
  refine g_iload_n (pc := 0) dJ6_bitCount_0f7a4_0 rfl rfl ?_
  refine g_iload_n (pc := 1) dJ6_bitCount_0f7a4_1 rfl rfl ?_
  refine g_iconst (pc := 2) (v := (1 : Int32)) dJ6_bitCount_0f7a4_2 rfl ?_
  refine g_iushr (pc := 3) dJ6_bitCount_0f7a4_3 ?_
  refine g_ldcw (pc := 4) dJ6_bitCount_0f7a4_4 kc_J6_265 ?_
  refine g_iand (pc := 7) dJ6_bitCount_0f7a4_7 ?_
  refine g_isub (pc := 8) dJ6_bitCount_0f7a4_8 ?_
  obtain ⟨l0_1, e_l0_1, hF⟩ := am_let_el hF
  refine n_istore_n (pc := 9) (ls2 := [.int l0_1]) e_l0_1 rfl dJ6_bitCount_0f7a4_9 rfl (Nat.le_of_ble_eq_true rfl) ?_
  refine g_iload_n (pc := 10) dJ6_bitCount_0f7a4_10 rfl rfl ?_
  refine g_ldcw (pc := 11) dJ6_bitCount_0f7a4_11 kc_J6_266 ?_
  refine g_iand (pc := 14) dJ6_bitCount_0f7a4_14 ?_
  refine g_iload_n (pc := 15) dJ6_bitCount_0f7a4_15 rfl rfl ?_
  refine g_iconst (pc := 16) (v := (2 : Int32)) dJ6_bitCount_0f7a4_16 rfl ?_
  refine g_iushr (pc := 17) dJ6_bitCount_0f7a4_17 ?_
  refine g_ldcw (pc := 18) dJ6_bitCount_0f7a4_18 kc_J6_266 ?_
  refine g_iand (pc := 21) dJ6_bitCount_0f7a4_21 ?_
  refine g_iadd (pc := 22) dJ6_bitCount_0f7a4_22 ?_
  obtain ⟨l0_2, e_l0_2, hF⟩ := am_let_el hF
  refine n_istore_n (pc := 23) (ls2 := [.int l0_2]) e_l0_2 rfl dJ6_bitCount_0f7a4_23 rfl (Nat.le_of_ble_eq_true rfl) ?_
  refine g_iload_n (pc := 24) dJ6_bitCount_0f7a4_24 rfl rfl ?_
  refine g_iload_n (pc := 25) dJ6_bitCount_0f7a4_25 rfl rfl ?_
  refine g_iconst (pc := 26) (v := (4 : Int32)) dJ6_bitCount_0f7a4_26 rfl ?_
  refine g_iushr (pc := 27) dJ6_bitCount_0f7a4_27 ?_
  refine g_iadd (pc := 28) dJ6_bitCount_0f7a4_28 ?_
  refine g_ldcw (pc := 29) dJ6_bitCount_0f7a4_29 kc_J6_267 ?_
  refine g_iand (pc := 32) dJ6_bitCount_0f7a4_32 ?_
  obtain ⟨l0_3, e_l0_3, hF⟩ := am_let_el hF
  refine n_istore_n (pc := 33) (ls2 := [.int l0_3]) e_l0_3 rfl dJ6_bitCount_0f7a4_33 rfl (Nat.le_of_ble_eq_true rfl) ?_
  refine g_iload_n (pc := 34) dJ6_bitCount_0f7a4_34 rfl rfl ?_
  refine g_iload_n (pc := 35) dJ6_bitCount_0f7a4_35 rfl rfl ?_
  refine g_bipush (pc := 36) (v := (8 : Int32)) dJ6_bitCount_0f7a4_36 rfl ?_
  refine g_iushr (pc := 38) dJ6_bitCount_0f7a4_38 ?_
  refine g_iadd (pc := 39) dJ6_bitCount_0f7a4_39 ?_
  obtain ⟨l0_4, e_l0_4, hF⟩ := am_let_el hF
  refine n_istore_n (pc := 40) (ls2 := [.int l0_4]) e_l0_4 rfl dJ6_bitCount_0f7a4_40 rfl (Nat.le_of_ble_eq_true rfl) ?_
  refine g_iload_n (pc := 41) dJ6_bitCount_0f7a4_41 rfl rfl ?_
  refine g_iload_n (pc := 42) dJ6_bitCount_0f7a4_42 rfl rfl ?_
  refine g_bipush (pc := 43) (v := (16 : Int32)) dJ6_bitCount_0f7a4_43 rfl ?_
  refine g_iushr (pc := 45) dJ6_bitCount_0f7a4_45 ?_
  refine g_iadd (pc := 46) dJ6_bitCount_0f7a4_46 ?_
  obtain ⟨l0_5, e_l0_5, hF⟩ := am_let_el hF
  refine n_istore_n (pc := 47) (ls2 := [.int l0_5]) e_l0_5 rfl dJ6_bitCount_0f7a4_47 rfl (Nat.le_of_ble_eq_true rfl) ?_
  refine g_iload_n (pc := 48) dJ6_bitCount_0f7a4_48 rfl rfl ?_
  refine g_bipush (pc := 49) (v := (63 : Int32)) dJ6_bitCount_0f7a4_49 rfl ?_
  refine g_iand (pc := 51) dJ6_bitCount_0f7a4_51 ?_
  cases hF
  exact g_iret (pc := 52) rfl (Nat.le_refl _) (Nat.le_refl _) dJ6_bitCount_0f7a4_52 ⟨rfl, rfl, rfl, rfl⟩
def F_X4_isKept_40 (I : am_IT) (a1 : Int32) (a2 : Int32) (a3 : Int32) : Option (Int32) := am_b1 (F_J6_bitCount_0f7a4 I a1) (fun (r_2 : Int32) => am_lr (am_it am_fu (fun (l5_3 : Int32) => if (I 1 4) ≤ l5_3 then (some (.inr (.inl ((0 : Int32))))) else (am_b1 (if ((a1 >>> (l5_3 &&& 31)) &&& (1 : Int32)) = (1 : Int32) then (some ((1 : Int32))) else (some ((0 : Int32)))) (fun (v_12 : Int32) => am_b1 (if v_12 = 0 then (some (r_2)) else (some (r_2 - (1 : Int32)))) (fun (v_16 : Int32) => am_b1 (if (v_16 + (1 : Int32)) < a2 then (some ((0 : Int32))) else (if am_ix l5_3 7 = true then (some (I 42 l5_3.toNatClampNeg)) else none)) (fun (v_20 : Int32) => am_let (v_20 - a3) (fun (l8_24 : Int32) => am_b1 (if v_16 < a2 then (some ((0 : Int32))) else (if am_ix l5_3 7 = true then (some (I 42 l5_3.toNatClampNeg)) else none)) (fun (v_26 : Int32) => if v_12 = 0 then (if l8_24 ≤ v_26 then (am_let (l5_3 + (1 : Int32)) (fun (l5_32 : Int32) => some (.inl (l5_32)))) else (some (.inr (.inr (0 : Int32))))) else (if v_26 ≤ l8_24 then (am_let (l5_3 + (1 : Int32)) (fun (l5_35 : Int32) => some (.inl (l5_35)))) else (some (.inr (.inr (0 : Int32)))))))))))) (0 : Int32)) (fun (u_4 : Int32) => some (1 : Int32)))
set_option maxRecDepth 100000 in
set_option maxHeartbeats 4000000 in
theorem s_X4_isKept_40 {l : Launch} {d N : Nat} {P : am_PT} (hPl : am_Pl 94 N P) (hd : 2 ≤ d) {I : am_IT} {a1 : Int32} {a2 : Int32} {a3 : Int32} {r : Int32} (hF : F_X4_isKept_40 I a1 a2 a3 = some (r)) : am_C l d 0 0 mX4_isKept [.ref 40, .int a1, .int a2, .int a3] N P I (am_qz r N P I) := by
  refine am_body (sc := am_sc0) (n := 6) (by decide +kernel) (by decide) rfl ?_
  change G am_sc0 l d 0 0 mX4_isKept (am_qz r N P I) 0 [.ref 40, .int a1, .int a2, .int a3, .null, .null, .null, .null, .null, .null] [] N P I 0 0
  unfold F_X4_isKept_40 at hF
  refine g_iload_n (pc := 0) dX4_isKept_0 rfl rfl ?_
  obtain ⟨r_2, h_1, hF⟩ := am_b1_el hF
  refine g_cSi (pc := 1) (As := [.int a1]) (st := []) ky_J6_bitCount_0f7a4 kl_X4_68 (s_J6_bitCount_0f7a4 (d := 1) (hPl) (Nat.le_refl _) h_1) rfl rfl (Nat.le_trans (by decide) hd) (Nat.le_of_ble_eq_true rfl) (Nat.le_refl _) (Nat.le_refl _) dX4_isKept_1 ?_
  refine n_istore (pc := 4) (ls2 := [.ref 40, .int a1, .int a2, .int a3, .int r_2, .null, .null, .null, .null, .null]) rfl rfl dX4_isKept_4 (Nat.le_of_ble_eq_true rfl) ?_
  refine g_iconst (pc := 6) (v := (0 : Int32)) dX4_isKept_6 rfl ?_
  refine n_istore (pc := 7) (ls2 := [.ref 40, .int a1, .int a2, .int a3, .int r_2, .int (0 : Int32), .null, .null, .null, .null]) rfl rfl dX4_isKept_7 (Nat.le_of_ble_eq_true rfl) ?_
  obtain ⟨x_37, hL_8, hF⟩ := am_lr_el hF
  have hX_5 : ∀ (u_4 : Int32), x_37 = .inl u_4 → G am_sc0 l d 0 0 mX4_isKept (am_qz r N P I) 126 [.ref 40, .int a1, .int a2, .int a3, .int r_2, .null, .null, .null, .null, .null] [] N P I 0 0 := by
    intro u_4 q
    subst q
    refine g_iconst (pc := 126) (v := (1 : Int32)) dX4_isKept_126 rfl ?_
    cases hF
    exact g_zret (pc := 127) rfl (Or.inr rfl) (Nat.le_refl _) (Nat.le_refl _) dX4_isKept_127 ⟨(Or.inr rfl), rfl, rfl, rfl, rfl⟩
  have hZ_9 : ∀ y, x_37 = .inr y → y = _ := fun y q => by subst q; exact hF
  clear hF
  have hC := am_loop (C := fun x => G am_sc0 l d 0 0 mX4_isKept (am_qz r N P I) 9 [.ref 40, .int a1, .int a2, .int a3, .int r_2, .int x, .null, .null, .null, .null] [] N P I 0 0) (by
    intro l5_3 rr hF ih_6 hE_7
    refine g_iload (pc := 9) dX4_isKept_9 rfl ?_
    refine g_aload_n (pc := 11) dX4_isKept_11 rfl rfl ?_
    refine g_getR (pc := 12) (k := 40) (r := 1) kf_X4_25.r rfl rfl (hPl.get (by decide) rfl) (hPl.lt (by decide)) dX4_isKept_12 ?_
    refine g_getI (pc := 15) (k := 1) kf_X4_37.r rfl rfl (hPl.lt (by decide)) dX4_isKept_15 ?_
    refine g_icmp_ge (pc := 18) (tgt := 126) dX4_isKept_18 rfl (fun c_10 => ?_) (fun c_10 => ?_)
    · replace hF := am_yes c_10 hF
      cases hF
      exact g_weak (hX_5 _ (hE_7 _ rfl).symm) ⟨Or.inr rfl, Or.inr rfl, Or.inr rfl, Or.inr rfl, Or.inr rfl, Or.inl rfl, Or.inl rfl, Or.inl rfl, Or.inl rfl, Or.inl rfl, trivial⟩
    · replace hF := am_no c_10 hF
      refine g_iload_n (pc := 21) dX4_isKept_21 rfl rfl ?_
      refine g_iload (pc := 22) dX4_isKept_22 rfl ?_
      refine g_ishr (pc := 24) dX4_isKept_24 ?_
      refine g_iconst (pc := 25) (v := (1 : Int32)) dX4_isKept_25 rfl ?_
      refine g_iand (pc := 26) dX4_isKept_26 ?_
      refine g_iconst (pc := 27) (v := (1 : Int32)) dX4_isKept_27 rfl ?_
      obtain ⟨v_12, hR_13, hF⟩ := am_b1_el hF
      have hJ_14 : G am_sc0 l d 0 0 mX4_isKept (am_qz r N P I) 36 [.ref 40, .int a1, .int a2, .int a3, .int r_2, .int l5_3, .null, .null, .null, .null] [.int v_12] N P I 0 0 := by
        refine n_istore (pc := 36) (ls2 := [.ref 40, .int a1, .int a2, .int a3, .int r_2, .int l5_3, .int v_12, .null, .null, .null]) rfl rfl dX4_isKept_36 (Nat.le_of_ble_eq_true rfl) ?_
        refine g_iload (pc := 38) dX4_isKept_38 rfl ?_
        obtain ⟨v_16, hR_17, hF⟩ := am_b1_el hF
        have hJ_18 : G am_sc0 l d 0 0 mX4_isKept (am_qz r N P I) 52 [.ref 40, .int a1, .int a2, .int a3, .int r_2, .int l5_3, .int v_12, .null, .null, .null] [.int v_16] N P I 0 0 := by
          refine n_istore (pc := 52) (ls2 := [.ref 40, .int a1, .int a2, .int a3, .int r_2, .int l5_3, .int v_12, .int v_16, .null, .null]) rfl rfl dX4_isKept_52 (Nat.le_of_ble_eq_true rfl) ?_
          refine g_iload (pc := 54) dX4_isKept_54 rfl ?_
          refine g_iconst (pc := 56) (v := (1 : Int32)) dX4_isKept_56 rfl ?_
          refine g_iadd (pc := 57) dX4_isKept_57 ?_
          refine g_iload_n (pc := 58) dX4_isKept_58 rfl rfl ?_
          obtain ⟨v_20, hR_21, hF⟩ := am_b1_el hF
          have hJ_22 : G am_sc0 l d 0 0 mX4_isKept (am_qz r N P I) 73 [.ref 40, .int a1, .int a2, .int a3, .int r_2, .int l5_3, .int v_12, .int v_16, .null, .null] [.int v_20] N P I 0 0 := by
            refine g_iload_n (pc := 73) dX4_isKept_73 rfl rfl ?_
            refine g_isub (pc := 74) dX4_isKept_74 ?_
            obtain ⟨l8_24, e_l8_24, hF⟩ := am_let_el hF
            refine n_istore (pc := 75) (ls2 := [.ref 40, .int a1, .int a2, .int a3, .int r_2, .int l5_3, .int v_12, .int v_16, .int l8_24, .null]) e_l8_24 rfl dX4_isKept_75 (Nat.le_of_ble_eq_true rfl) ?_
            refine g_iload (pc := 77) dX4_isKept_77 rfl ?_
            refine g_iload_n (pc := 79) dX4_isKept_79 rfl rfl ?_
            obtain ⟨v_26, hR_27, hF⟩ := am_b1_el hF
            have hJ_28 : G am_sc0 l d 0 0 mX4_isKept (am_qz r N P I) 94 [.ref 40, .int a1, .int a2, .int a3, .int r_2, .int l5_3, .int v_12, .int v_16, .int l8_24, .null] [.int v_26] N P I 0 0 := by
              refine n_istore (pc := 94) (ls2 := [.ref 40, .int a1, .int a2, .int a3, .int r_2, .int l5_3, .int v_12, .int v_16, .int l8_24, .int v_26]) rfl rfl dX4_isKept_94 (Nat.le_of_ble_eq_true rfl) ?_
              refine g_iload (pc := 96) dX4_isKept_96 rfl ?_
              refine g_if_eq (pc := 98) (tgt := 111) dX4_isKept_98 rfl (fun c_30 => ?_) (fun c_30 => ?_)
              · replace hF := am_yes c_30 hF
                refine g_iload (pc := 111) dX4_isKept_111 rfl ?_
                refine g_iload (pc := 113) dX4_isKept_113 rfl ?_
                refine g_icmp_le (pc := 115) (tgt := 120) dX4_isKept_115 rfl (fun c_31 => ?_) (fun c_31 => ?_)
                · replace hF := am_yes c_31 hF
                  obtain ⟨l5_32, e_l5_32, hF⟩ := am_let_el hF
                  refine n_iinc (pc := 120) (ls2 := [.ref 40, .int a1, .int a2, .int a3, .int r_2, .int l5_32, .int v_12, .int v_16, .int l8_24, .int v_26]) e_l5_32 rfl rfl rfl dX4_isKept_120 (Nat.le_of_ble_eq_true rfl) ?_
                  refine g_goto (pc := 123) (tgt := 9) dX4_isKept_123 rfl ?_
                  cases hF
                  exact g_weak (ih_6 (l5_32) rfl) ⟨Or.inr rfl, Or.inr rfl, Or.inr rfl, Or.inr rfl, Or.inr rfl, Or.inr rfl, Or.inl rfl, Or.inl rfl, Or.inl rfl, Or.inl rfl, trivial⟩
                · replace hF := am_no c_31 hF
                  refine g_iconst (pc := 118) (v := (0 : Int32)) dX4_isKept_118 rfl ?_
                  cases hF
                  have q_33 := hZ_9 _ (hE_7 _ rfl).symm
                  cases q_33
                  exact g_zret (pc := 119) rfl (Or.inl rfl) (Nat.le_refl _) (Nat.le_refl _) dX4_isKept_119 ⟨(Or.inl rfl), rfl, rfl, rfl, rfl⟩
              · replace hF := am_no c_30 hF
                refine g_iload (pc := 101) dX4_isKept_101 rfl ?_
                refine g_iload (pc := 103) dX4_isKept_103 rfl ?_
                refine g_icmp_le (pc := 105) (tgt := 120) dX4_isKept_105 rfl (fun c_34 => ?_) (fun c_34 => ?_)
                · replace hF := am_yes c_34 hF
                  obtain ⟨l5_35, e_l5_35, hF⟩ := am_let_el hF
                  refine n_iinc (pc := 120) (ls2 := [.ref 40, .int a1, .int a2, .int a3, .int r_2, .int l5_35, .int v_12, .int v_16, .int l8_24, .int v_26]) e_l5_35 rfl rfl rfl dX4_isKept_120 (Nat.le_of_ble_eq_true rfl) ?_
                  refine g_goto (pc := 123) (tgt := 9) dX4_isKept_123 rfl ?_
                  cases hF
                  exact g_weak (ih_6 (l5_35) rfl) ⟨Or.inr rfl, Or.inr rfl, Or.inr rfl, Or.inr rfl, Or.inr rfl, Or.inr rfl, Or.inl rfl, Or.inl rfl, Or.inl rfl, Or.inl rfl, trivial⟩
                · replace hF := am_no c_34 hF
                  refine g_goto (pc := 108) (tgt := 118) dX4_isKept_108 rfl ?_
                  refine g_iconst (pc := 118) (v := (0 : Int32)) dX4_isKept_118 rfl ?_
                  cases hF
                  have q_36 := hZ_9 _ (hE_7 _ rfl).symm
                  cases q_36
                  exact g_zret (pc := 119) rfl (Or.inl rfl) (Nat.le_refl _) (Nat.le_refl _) dX4_isKept_119 ⟨(Or.inl rfl), rfl, rfl, rfl, rfl⟩
            clear hF
            have hF := hR_27
            clear hR_27
            refine g_icmp_lt (pc := 80) (tgt := 93) dX4_isKept_80 rfl (fun c_25 => ?_) (fun c_25 => ?_)
            · replace hF := am_yes c_25 hF
              refine g_iconst (pc := 93) (v := (0 : Int32)) dX4_isKept_93 rfl ?_
              cases hF
              exact hJ_28
            · replace hF := am_no c_25 hF
              refine g_aload_n (pc := 83) dX4_isKept_83 rfl rfl ?_
              refine g_getR (pc := 84) (k := 40) (r := 42) kf_X4_22.r rfl rfl (hPl.get (by decide) rfl) (hPl.lt (by decide)) dX4_isKept_84 ?_
              refine g_iload (pc := 87) dX4_isKept_87 rfl ?_
              obtain ⟨c_29, hF⟩ := am_gd hF
              refine g_iald (pc := 89) (k := 42) rfl (hPl.lt (by decide)) (am_ix_use c_29) dX4_isKept_89 ?_
              refine g_goto (pc := 90) (tgt := 94) dX4_isKept_90 rfl ?_
              cases hF
              exact hJ_28
          clear hF
          have hF := hR_21
          clear hR_21
          refine g_icmp_lt (pc := 59) (tgt := 72) dX4_isKept_59 rfl (fun c_19 => ?_) (fun c_19 => ?_)
          · replace hF := am_yes c_19 hF
            refine g_iconst (pc := 72) (v := (0 : Int32)) dX4_isKept_72 rfl ?_
            cases hF
            exact hJ_22
          · replace hF := am_no c_19 hF
            refine g_aload_n (pc := 62) dX4_isKept_62 rfl rfl ?_
            refine g_getR (pc := 63) (k := 40) (r := 42) kf_X4_22.r rfl rfl (hPl.get (by decide) rfl) (hPl.lt (by decide)) dX4_isKept_63 ?_
            refine g_iload (pc := 66) dX4_isKept_66 rfl ?_
            obtain ⟨c_23, hF⟩ := am_gd hF
            refine g_iald (pc := 68) (k := 42) rfl (hPl.lt (by decide)) (am_ix_use c_23) dX4_isKept_68 ?_
            refine g_goto (pc := 69) (tgt := 73) dX4_isKept_69 rfl ?_
            cases hF
            exact hJ_22
        clear hF
        have hF := hR_17
        clear hR_17
        refine g_if_eq (pc := 40) (tgt := 50) dX4_isKept_40 rfl (fun c_15 => ?_) (fun c_15 => ?_)
        · replace hF := am_yes c_15 hF
          refine g_iload (pc := 50) dX4_isKept_50 rfl ?_
          cases hF
          exact hJ_18
        · replace hF := am_no c_15 hF
          refine g_iload (pc := 43) dX4_isKept_43 rfl ?_
          refine g_iconst (pc := 45) (v := (1 : Int32)) dX4_isKept_45 rfl ?_
          refine g_isub (pc := 46) dX4_isKept_46 ?_
          refine g_goto (pc := 47) (tgt := 52) dX4_isKept_47 rfl ?_
          cases hF
          exact hJ_18
      clear hF
      have hF := hR_13
      clear hR_13
      refine g_icmp_ne (pc := 28) (tgt := 35) dX4_isKept_28 rfl (fun c_11 => ?_) (fun c_11 => ?_)
      · replace hF := am_no c_11 hF
        refine g_iconst (pc := 35) (v := (0 : Int32)) dX4_isKept_35 rfl ?_
        cases hF
        exact hJ_14
      · replace hF := am_yes c_11 hF
        refine g_iconst (pc := 31) (v := (1 : Int32)) dX4_isKept_31 rfl ?_
        refine g_goto (pc := 32) (tgt := 36) dX4_isKept_32 rfl ?_
        cases hF
        exact hJ_14
    ) _ _ hL_8
  exact hC
def F_X4_consider_40 (I : am_IT) (a1 : Int32) (a2 : Int32) (a3 : Int32) (a4 : Int32) : Option (am_IT) := am_b1 (F_X4_weighGains_40 I a1 a2) (fun (I_2 : am_IT) => am_let (up2 I_2 40 0 (0 : Int32)) (fun (I_3 : am_IT) => am_let (up2 I_3 40 1 (-1 : Int32)) (fun (I_4 : am_IT) => am_b1 (am_it am_fu (am_u2 (fun (l5_5 : Int32) (I_6 : am_IT) => if ((1 : Int32) <<< ((I_6 1 4) &&& 31)) ≤ l5_5 then (some (.inr (I_6))) else (am_b1 (F_X4_isKept_40 I_6 l5_5 a3 a4) (fun (r_15 : Int32) => if r_15 = 0 then (am_let (l5_5 + (1 : Int32)) (fun (l5_18 : Int32) => some (.inl (l5_18, I_6)))) else (am_let (up2 I_6 40 0 ((I_6 40 0) + (1 : Int32))) (fun (I_19 : am_IT) => if (I_19 40 1) = (-1 : Int32) then (am_let (up2 I_19 40 1 l5_5) (fun (I_23 : am_IT) => am_let (l5_5 + (1 : Int32)) (fun (l5_24 : Int32) => some (.inl (l5_24, I_23))))) else (am_let (up2 I_19 40 1 (I_19 40 1)) (fun (I_21 : am_IT) => am_let (l5_5 + (1 : Int32)) (fun (l5_22 : Int32) => some (.inl (l5_22, I_21))))))))))) ((0 : Int32), I_4)) (fun (I_7 : am_IT) => some I_7))))
set_option maxRecDepth 100000 in
set_option maxHeartbeats 4000000 in
theorem s_X4_consider_40 {l : Launch} {d N : Nat} {P : am_PT} (hPl : am_Pl 94 N P) (hd : 6 ≤ d) {I : am_IT} {a1 : Int32} {a2 : Int32} {a3 : Int32} {a4 : Int32} {I2 : am_IT} (hF : F_X4_consider_40 I a1 a2 a3 a4 = some (I2)) : am_C l d 0 0 mX4_consider [.ref 40, .int a1, .int a2, .int a3, .int a4] N P I (am_qv N P I2) := by
  refine am_body (sc := am_sc0) (n := 1) (by decide +kernel) (by decide) rfl ?_
  change G am_sc0 l d 0 0 mX4_consider (am_qv N P I2) 0 [.ref 40, .int a1, .int a2, .int a3, .int a4, .null] [] N P I 0 0
  unfold F_X4_consider_40 at hF
  refine g_aload_n (pc := 0) dX4_consider_0 rfl rfl ?_
  refine g_iload_n (pc := 1) dX4_consider_1 rfl rfl ?_
  refine g_iload_n (pc := 2) dX4_consider_2 rfl rfl ?_
  obtain ⟨I_2, h_1, hF⟩ := am_b1_el hF
  refine g_cVv (pc := 3) (k := 40) (As := [.int a1, .int a2]) (st := []) ky_X4_weighGains kl_X4_33 (s_X4_weighGains_40 (d := 5) (hPl) (Nat.le_refl _) h_1) rfl rfl rfl (hPl.lt (by decide)) (Nat.le_trans (by decide) hd) (Nat.le_of_ble_eq_true rfl) (Nat.le_refl _) (Nat.le_refl _) dX4_consider_3 ?_
  refine g_aload_n (pc := 6) dX4_consider_6 rfl rfl ?_
  refine g_iconst (pc := 7) (v := (0 : Int32)) dX4_consider_7 rfl ?_
  obtain ⟨I_3, e_I_3, hF⟩ := am_let_el hF
  refine n_putI (pc := 8) (k := 40) e_I_3 kf_X4_9 rfl rfl (hPl.lt (by decide)) dX4_consider_8 ?_
  refine g_aload_n (pc := 11) dX4_consider_11 rfl rfl ?_
  refine g_iconst (pc := 12) (v := (-1 : Int32)) dX4_consider_12 (by decide) ?_
  obtain ⟨I_4, e_I_4, hF⟩ := am_let_el hF
  refine n_putI (pc := 13) (k := 40) e_I_4 kf_X4_15 rfl rfl (hPl.lt (by decide)) dX4_consider_13 ?_
  refine g_iconst (pc := 16) (v := (0 : Int32)) dX4_consider_16 rfl ?_
  refine n_istore (pc := 17) (ls2 := [.ref 40, .int a1, .int a2, .int a3, .int a4, .int (0 : Int32)]) rfl rfl dX4_consider_17 (Nat.le_of_ble_eq_true rfl) ?_
  obtain ⟨I_7, hL_11, hF⟩ := am_b1_el hF
  have hX_8 : G am_sc0 l d 0 0 mX4_consider (am_qv N P I2) 82 [.ref 40, .int a1, .int a2, .int a3, .int a4, .null] [] N P I_7 0 0 := by
    cases hF
    exact g_vret (pc := 82) rfl (Nat.le_refl _) (Nat.le_refl _) dX4_consider_82 ⟨rfl, rfl, rfl, rfl⟩
  clear hF
  have hC := am_loop (C := fun x => G am_sc0 l d 0 0 mX4_consider (am_qv N P I2) 19 [.ref 40, .int a1, .int a2, .int a3, .int a4, .int x.1] [] N P x.2 0 0) (by
    rintro ⟨l5_5, I_6⟩ rr hF ih_9 hE_10
    replace hF := am_u2_ap hF
    change G am_sc0 l d 0 0 mX4_consider (am_qv N P I2) 19 [.ref 40, .int a1, .int a2, .int a3, .int a4, .int l5_5] [] N P I_6 0 0
    refine g_iload (pc := 19) dX4_consider_19 rfl ?_
    refine g_iconst (pc := 21) (v := (1 : Int32)) dX4_consider_21 rfl ?_
    refine g_aload_n (pc := 22) dX4_consider_22 rfl rfl ?_
    refine g_getR (pc := 23) (k := 40) (r := 1) kf_X4_25.r rfl rfl (hPl.get (by decide) rfl) (hPl.lt (by decide)) dX4_consider_23 ?_
    refine g_getI (pc := 26) (k := 1) kf_X4_37.r rfl rfl (hPl.lt (by decide)) dX4_consider_26 ?_
    refine g_ishl (pc := 29) dX4_consider_29 ?_
    refine g_icmp_ge (pc := 30) (tgt := 82) dX4_consider_30 rfl (fun c_13 => ?_) (fun c_13 => ?_)
    · replace hF := am_yes c_13 hF
      cases hF
      cases hE_10 _ rfl
      exact g_weak hX_8 ⟨Or.inr rfl, Or.inr rfl, Or.inr rfl, Or.inr rfl, Or.inr rfl, Or.inl rfl, trivial⟩
    · replace hF := am_no c_13 hF
      refine g_aload_n (pc := 33) dX4_consider_33 rfl rfl ?_
      refine g_iload (pc := 34) dX4_consider_34 rfl ?_
      refine g_iload_n (pc := 36) dX4_consider_36 rfl rfl ?_
      refine g_iload (pc := 37) dX4_consider_37 rfl ?_
      obtain ⟨r_15, h_14, hF⟩ := am_b1_el hF
      refine g_cVz (pc := 39) (k := 40) (As := [.int l5_5, .int a3, .int a4]) (st := []) ky_X4_isKept kl_X4_42 (s_X4_isKept_40 (d := 2) (hPl) (Nat.le_refl _) h_14) rfl rfl rfl (hPl.lt (by decide)) (Nat.le_trans (by decide) hd) (Nat.le_of_ble_eq_true rfl) (Nat.le_refl _) (Nat.le_refl _) dX4_consider_39 ?_
      intro z_16
      refine g_if_eq (pc := 42) (tgt := 76) dX4_consider_42 rfl (fun c_17 => ?_) (fun c_17 => ?_)
      · replace hF := am_yes c_17 hF
        obtain ⟨l5_18, e_l5_18, hF⟩ := am_let_el hF
        refine n_iinc (pc := 76) (ls2 := [.ref 40, .int a1, .int a2, .int a3, .int a4, .int l5_18]) e_l5_18 rfl rfl rfl dX4_consider_76 (Nat.le_of_ble_eq_true rfl) ?_
        refine g_goto (pc := 79) (tgt := 19) dX4_consider_79 rfl ?_
        cases hF
        exact ih_9 (l5_18, I_6) rfl
      · replace hF := am_no c_17 hF
        refine g_aload_n (pc := 45) dX4_consider_45 rfl rfl ?_
        refine g_dup (pc := 46) dX4_consider_46 ?_
        refine g_getI (pc := 47) (k := 40) kf_X4_9.r rfl rfl (hPl.lt (by decide)) dX4_consider_47 ?_
        refine g_iconst (pc := 50) (v := (1 : Int32)) dX4_consider_50 rfl ?_
        refine g_iadd (pc := 51) dX4_consider_51 ?_
        obtain ⟨I_19, e_I_19, hF⟩ := am_let_el hF
        refine n_putI (pc := 52) (k := 40) e_I_19 kf_X4_9 rfl rfl (hPl.lt (by decide)) dX4_consider_52 ?_
        refine g_aload_n (pc := 55) dX4_consider_55 rfl rfl ?_
        refine g_aload_n (pc := 56) dX4_consider_56 rfl rfl ?_
        refine g_getI (pc := 57) (k := 40) kf_X4_15.r rfl rfl (hPl.lt (by decide)) dX4_consider_57 ?_
        refine g_iconst (pc := 60) (v := (-1 : Int32)) dX4_consider_60 (by decide) ?_
        refine g_icmp_ne (pc := 61) (tgt := 69) dX4_consider_61 rfl (fun c_20 => ?_) (fun c_20 => ?_)
        · replace hF := am_no c_20 hF
          refine g_aload_n (pc := 69) dX4_consider_69 rfl rfl ?_
          refine g_getI (pc := 70) (k := 40) kf_X4_15.r rfl rfl (hPl.lt (by decide)) dX4_consider_70 ?_
          obtain ⟨I_21, e_I_21, hF⟩ := am_let_el hF
          refine n_putI (pc := 73) (k := 40) e_I_21 kf_X4_15 rfl rfl (hPl.lt (by decide)) dX4_consider_73 ?_
          obtain ⟨l5_22, e_l5_22, hF⟩ := am_let_el hF
          refine n_iinc (pc := 76) (ls2 := [.ref 40, .int a1, .int a2, .int a3, .int a4, .int l5_22]) e_l5_22 rfl rfl rfl dX4_consider_76 (Nat.le_of_ble_eq_true rfl) ?_
          refine g_goto (pc := 79) (tgt := 19) dX4_consider_79 rfl ?_
          cases hF
          exact ih_9 (l5_22, I_21) rfl
        · replace hF := am_yes c_20 hF
          refine g_iload (pc := 64) dX4_consider_64 rfl ?_
          refine g_goto (pc := 66) (tgt := 73) dX4_consider_66 rfl ?_
          obtain ⟨I_23, e_I_23, hF⟩ := am_let_el hF
          refine n_putI (pc := 73) (k := 40) e_I_23 kf_X4_15 rfl rfl (hPl.lt (by decide)) dX4_consider_73 ?_
          obtain ⟨l5_24, e_l5_24, hF⟩ := am_let_el hF
          refine n_iinc (pc := 76) (ls2 := [.ref 40, .int a1, .int a2, .int a3, .int a4, .int l5_24]) e_l5_24 rfl rfl rfl dX4_consider_76 (Nat.le_of_ble_eq_true rfl) ?_
          refine g_goto (pc := 79) (tgt := 19) dX4_consider_79 rfl ?_
          cases hF
          exact ih_9 (l5_24, I_23) rfl
    ) _ _ hL_11
  exact hC
def F_X11_hope_0 (I : am_IT) (a1 : Int32) (a2 : Int32) (a3 : Int32) (a4 : Int32) (a5 : Int32) : Option (Int32 × am_IT) := am_b1 (F_X9_hasWall_1 I a1) (fun (r_2 : Int32) => if r_2 = 0 then (some ((-10 : Int32), I)) else (am_b1 (F_X9_hasColour_1 I a2) (fun (r_6 : Int32) => if r_6 = 0 then (some ((-10 : Int32), I)) else (am_b1 (F_X11_isWithin I a3 (1 : Int32) (I 1 4)) (fun (r_10 : Int32) => if r_10 = 0 then (some ((-10 : Int32), I)) else (am_b1 (F_X11_isWithin I a4 (0 : Int32) (9999 : Int32)) (fun (r_14 : Int32) => if r_14 = 0 then (some ((-10 : Int32), I)) else (am_b1 (F_X11_isWithin I a5 (0 : Int32) (1 : Int32)) (fun (r_18 : Int32) => if r_18 = 0 then (some ((-10 : Int32), I)) else (am_b1 (F_X4_consider_40 I a1 a2 a3 a4) (fun (I_22 : am_IT) => if a5 = 0 then (some (I_22 40 0, I_22)) else (some (I_22 40 1, I_22)))))))))))))
set_option maxRecDepth 100000 in
set_option maxHeartbeats 4000000 in
theorem s_X11_hope_0 {l : Launch} {d N : Nat} {P : am_PT} (hPl : am_Pl 94 N P) (hd : 7 ≤ d) {I : am_IT} {a1 : Int32} {a2 : Int32} {a3 : Int32} {a4 : Int32} {a5 : Int32} {r : Int32} {I2 : am_IT} (hF : F_X11_hope_0 I a1 a2 a3 a4 a5 = some (r, I2)) : am_C l d 0 0 mX11_hope [.ref 0, .int a1, .int a2, .int a3, .int a4, .int a5] N P I (am_qi r N P I2) := by
  refine am_body (sc := am_sc0) (n := 0) (by decide +kernel) (by decide) rfl ?_
  change G am_sc0 l d 0 0 mX11_hope (am_qi r N P I2) 0 [.ref 0, .int a1, .int a2, .int a3, .int a4, .int a5] [] N P I 0 0
  unfold F_X11_hope_0 at hF
  refine g_aload_n (pc := 0) dX11_hope_0 rfl rfl ?_
  refine g_getR (pc := 1) (k := 0) (r := 1) kf_X11_12.r rfl rfl (hPl.get (by decide) rfl) (hPl.lt (by decide)) dX11_hope_1 ?_
  refine g_iload_n (pc := 4) dX11_hope_4 rfl rfl ?_
  obtain ⟨r_2, h_1, hF⟩ := am_b1_el hF
  refine g_cVz (pc := 5) (k := 1) (As := [.int a1]) (st := []) ky_X9_hasWall kl_X11_126 (s_X9_hasWall_1 (d := 1) (hPl) (Nat.le_refl _) h_1) rfl rfl rfl (hPl.lt (by decide)) (Nat.le_trans (by decide) hd) (Nat.le_of_ble_eq_true rfl) (Nat.le_refl _) (Nat.le_refl _) dX11_hope_5 ?_
  intro z_3
  refine g_if_eq (pc := 8) (tgt := 22) dX11_hope_8 rfl (fun c_4 => ?_) (fun c_4 => ?_)
  · replace hF := am_yes c_4 hF
    refine g_bipush (pc := 22) (v := (-10 : Int32)) dX11_hope_22 (by decide) ?_
    cases hF
    exact g_iret (pc := 24) rfl (Nat.le_refl _) (Nat.le_refl _) dX11_hope_24 ⟨rfl, rfl, rfl, rfl⟩
  · replace hF := am_no c_4 hF
    refine g_aload_n (pc := 11) dX11_hope_11 rfl rfl ?_
    refine g_getR (pc := 12) (k := 0) (r := 1) kf_X11_12.r rfl rfl (hPl.get (by decide) rfl) (hPl.lt (by decide)) dX11_hope_12 ?_
    refine g_iload_n (pc := 15) dX11_hope_15 rfl rfl ?_
    obtain ⟨r_6, h_5, hF⟩ := am_b1_el hF
    refine g_cVz (pc := 16) (k := 1) (As := [.int a2]) (st := []) ky_X9_hasColour kl_X11_93 (s_X9_hasColour_1 (d := 1) (hPl) (Nat.le_refl _) h_5) rfl rfl rfl (hPl.lt (by decide)) (Nat.le_trans (by decide) hd) (Nat.le_of_ble_eq_true rfl) (Nat.le_refl _) (Nat.le_refl _) dX11_hope_16 ?_
    intro z_7
    refine g_if_ne (pc := 19) (tgt := 25) dX11_hope_19 rfl (fun c_8 => ?_) (fun c_8 => ?_)
    · replace hF := am_no c_8 hF
      refine g_iload_n (pc := 25) dX11_hope_25 rfl rfl ?_
      refine g_iconst (pc := 26) (v := (1 : Int32)) dX11_hope_26 rfl ?_
      refine g_aload_n (pc := 27) dX11_hope_27 rfl rfl ?_
      refine g_getR (pc := 28) (k := 0) (r := 1) kf_X11_12.r rfl rfl (hPl.get (by decide) rfl) (hPl.lt (by decide)) dX11_hope_28 ?_
      refine g_getI (pc := 31) (k := 1) kf_X11_113.r rfl rfl (hPl.lt (by decide)) dX11_hope_31 ?_
      obtain ⟨r_10, h_9, hF⟩ := am_b1_el hF
      refine g_cSz (pc := 34) (As := [.int a3, .int (1 : Int32), .int (I 1 4)]) (st := []) ky_X11_isWithin kl_X11_97 (s_X11_isWithin (d := 1) (hPl) (Nat.le_refl _) h_9) rfl rfl (Nat.le_trans (by decide) hd) (Nat.le_of_ble_eq_true rfl) (Nat.le_refl _) (Nat.le_refl _) dX11_hope_34 ?_
      intro z_11
      refine g_if_eq (pc := 37) (tgt := 62) dX11_hope_37 rfl (fun c_12 => ?_) (fun c_12 => ?_)
      · replace hF := am_yes c_12 hF
        refine g_bipush (pc := 62) (v := (-10 : Int32)) dX11_hope_62 (by decide) ?_
        cases hF
        exact g_iret (pc := 64) rfl (Nat.le_refl _) (Nat.le_refl _) dX11_hope_64 ⟨rfl, rfl, rfl, rfl⟩
      · replace hF := am_no c_12 hF
        refine g_iload (pc := 40) dX11_hope_40 rfl ?_
        refine g_iconst (pc := 42) (v := (0 : Int32)) dX11_hope_42 rfl ?_
        refine g_sipush (pc := 43) (v := (9999 : Int32)) dX11_hope_43 rfl ?_
        obtain ⟨r_14, h_13, hF⟩ := am_b1_el hF
        refine g_cSz (pc := 46) (As := [.int a4, .int (0 : Int32), .int (9999 : Int32)]) (st := []) ky_X11_isWithin kl_X11_97 (s_X11_isWithin (d := 1) (hPl) (Nat.le_refl _) h_13) rfl rfl (Nat.le_trans (by decide) hd) (Nat.le_of_ble_eq_true rfl) (Nat.le_refl _) (Nat.le_refl _) dX11_hope_46 ?_
        intro z_15
        refine g_if_eq (pc := 49) (tgt := 62) dX11_hope_49 rfl (fun c_16 => ?_) (fun c_16 => ?_)
        · replace hF := am_yes c_16 hF
          refine g_bipush (pc := 62) (v := (-10 : Int32)) dX11_hope_62 (by decide) ?_
          cases hF
          exact g_iret (pc := 64) rfl (Nat.le_refl _) (Nat.le_refl _) dX11_hope_64 ⟨rfl, rfl, rfl, rfl⟩
        · replace hF := am_no c_16 hF
          refine g_iload (pc := 52) dX11_hope_52 rfl ?_
          refine g_iconst (pc := 54) (v := (0 : Int32)) dX11_hope_54 rfl ?_
          refine g_iconst (pc := 55) (v := (1 : Int32)) dX11_hope_55 rfl ?_
          obtain ⟨r_18, h_17, hF⟩ := am_b1_el hF
          refine g_cSz (pc := 56) (As := [.int a5, .int (0 : Int32), .int (1 : Int32)]) (st := []) ky_X11_isWithin kl_X11_97 (s_X11_isWithin (d := 1) (hPl) (Nat.le_refl _) h_17) rfl rfl (Nat.le_trans (by decide) hd) (Nat.le_of_ble_eq_true rfl) (Nat.le_refl _) (Nat.le_refl _) dX11_hope_56 ?_
          intro z_19
          refine g_if_ne (pc := 59) (tgt := 65) dX11_hope_59 rfl (fun c_20 => ?_) (fun c_20 => ?_)
          · replace hF := am_no c_20 hF
            refine g_aload_n (pc := 65) dX11_hope_65 rfl rfl ?_
            refine g_getR (pc := 66) (k := 0) (r := 40) kf_X11_51.r rfl rfl (hPl.get (by decide) rfl) (hPl.lt (by decide)) dX11_hope_66 ?_
            refine g_iload_n (pc := 69) dX11_hope_69 rfl rfl ?_
            refine g_iload_n (pc := 70) dX11_hope_70 rfl rfl ?_
            refine g_iload_n (pc := 71) dX11_hope_71 rfl rfl ?_
            refine g_iload (pc := 72) dX11_hope_72 rfl ?_
            obtain ⟨I_22, h_21, hF⟩ := am_b1_el hF
            refine g_cVv (pc := 74) (k := 40) (As := [.int a1, .int a2, .int a3, .int a4]) (st := []) ky_X4_consider kl_X11_226 (s_X4_consider_40 (d := 6) (hPl) (Nat.le_refl _) h_21) rfl rfl rfl (hPl.lt (by decide)) (Nat.le_trans (by decide) hd) (Nat.le_of_ble_eq_true rfl) (Nat.le_refl _) (Nat.le_refl _) dX11_hope_74 ?_
            refine g_iload (pc := 77) dX11_hope_77 rfl ?_
            refine g_if_ne (pc := 79) (tgt := 92) dX11_hope_79 rfl (fun c_23 => ?_) (fun c_23 => ?_)
            · replace hF := am_no c_23 hF
              refine g_aload_n (pc := 92) dX11_hope_92 rfl rfl ?_
              refine g_getR (pc := 93) (k := 0) (r := 40) kf_X11_51.r rfl rfl (hPl.get (by decide) rfl) (hPl.lt (by decide)) dX11_hope_93 ?_
              refine g_getI (pc := 96) (k := 40) kf_X11_233.r rfl rfl (hPl.lt (by decide)) dX11_hope_96 ?_
              cases hF
              exact g_iret (pc := 99) rfl (Nat.le_refl _) (Nat.le_refl _) dX11_hope_99 ⟨rfl, rfl, rfl, rfl⟩
            · replace hF := am_yes c_23 hF
              refine g_aload_n (pc := 82) dX11_hope_82 rfl rfl ?_
              refine g_getR (pc := 83) (k := 0) (r := 40) kf_X11_51.r rfl rfl (hPl.get (by decide) rfl) (hPl.lt (by decide)) dX11_hope_83 ?_
              refine g_getI (pc := 86) (k := 40) kf_X11_230.r rfl rfl (hPl.lt (by decide)) dX11_hope_86 ?_
              refine g_goto (pc := 89) (tgt := 99) dX11_hope_89 rfl ?_
              cases hF
              exact g_iret (pc := 99) rfl (Nat.le_refl _) (Nat.le_refl _) dX11_hope_99 ⟨rfl, rfl, rfl, rfl⟩
          · replace hF := am_yes c_20 hF
            refine g_bipush (pc := 62) (v := (-10 : Int32)) dX11_hope_62 (by decide) ?_
            cases hF
            exact g_iret (pc := 64) rfl (Nat.le_refl _) (Nat.le_refl _) dX11_hope_64 ⟨rfl, rfl, rfl, rfl⟩
    · replace hF := am_yes c_8 hF
      refine g_bipush (pc := 22) (v := (-10 : Int32)) dX11_hope_22 (by decide) ?_
      cases hF
      exact g_iret (pc := 24) rfl (Nat.le_refl _) (Nat.le_refl _) dX11_hope_24 ⟨rfl, rfl, rfl, rfl⟩
def F_X3_sumWith_43 (I : am_IT) (a1 : Int32) (a2 : Int32) (a3 : Int32) : Option (Int32) := if am_ix ((a1 * (8 : Int32)) + a2) 56 = true then (if am_ix (a3 ||| ((1 : Int32) <<< (a2 &&& 31))) 256 = true then (some ((I 45 ((a1 * (8 : Int32)) + a2).toNatClampNeg) + (I 46 (a3 ||| ((1 : Int32) <<< (a2 &&& 31))).toNatClampNeg))) else none) else none
set_option maxRecDepth 100000 in
set_option maxHeartbeats 4000000 in
theorem s_X3_sumWith_43 {l : Launch} {d N : Nat} {P : am_PT} (hPl : am_Pl 94 N P) (hd : 1 ≤ d) {I : am_IT} {a1 : Int32} {a2 : Int32} {a3 : Int32} {r : Int32} (hF : F_X3_sumWith_43 I a1 a2 a3 = some (r)) : am_C l d 0 0 mX3_sumWith [.ref 43, .int a1, .int a2, .int a3] N P I (am_qi r N P I) := by
  refine am_body (sc := am_sc0) (n := 0) (by decide +kernel) (by decide) rfl ?_
  change G am_sc0 l d 0 0 mX3_sumWith (am_qi r N P I) 0 [.ref 43, .int a1, .int a2, .int a3] [] N P I 0 0
  unfold F_X3_sumWith_43 at hF
  refine g_aload_n (pc := 0) dX3_sumWith_0 rfl rfl ?_
  refine g_getR (pc := 1) (k := 43) (r := 45) kf_X3_15.r rfl rfl (hPl.get (by decide) rfl) (hPl.lt (by decide)) dX3_sumWith_1 ?_
  refine g_iload_n (pc := 4) dX3_sumWith_4 rfl rfl ?_
  refine g_bipush (pc := 5) (v := (8 : Int32)) dX3_sumWith_5 rfl ?_
  refine g_imul (pc := 7) dX3_sumWith_7 ?_
  refine g_iload_n (pc := 8) dX3_sumWith_8 rfl rfl ?_
  refine g_iadd (pc := 9) dX3_sumWith_9 ?_
  obtain ⟨c_1, hF⟩ := am_gd hF
  refine g_iald (pc := 10) (k := 45) rfl (hPl.lt (by decide)) (am_ix_use c_1) dX3_sumWith_10 ?_
  refine g_aload_n (pc := 11) dX3_sumWith_11 rfl rfl ?_
  refine g_getR (pc := 12) (k := 43) (r := 46) kf_X3_18.r rfl rfl (hPl.get (by decide) rfl) (hPl.lt (by decide)) dX3_sumWith_12 ?_
  refine g_iload_n (pc := 15) dX3_sumWith_15 rfl rfl ?_
  refine g_iconst (pc := 16) (v := (1 : Int32)) dX3_sumWith_16 rfl ?_
  refine g_iload_n (pc := 17) dX3_sumWith_17 rfl rfl ?_
  refine g_ishl (pc := 18) dX3_sumWith_18 ?_
  refine g_ior (pc := 19) dX3_sumWith_19 ?_
  obtain ⟨c_2, hF⟩ := am_gd hF
  refine g_iald (pc := 20) (k := 46) rfl (hPl.lt (by decide)) (am_ix_use c_2) dX3_sumWith_20 ?_
  refine g_iadd (pc := 21) dX3_sumWith_21 ?_
  cases hF
  exact g_iret (pc := 22) rfl (Nat.le_refl _) (Nat.le_refl _) dX3_sumWith_22 ⟨rfl, rfl, rfl, rfl⟩
def F_X3_greatestFrom_43 (I : am_IT) (a1 : Int32) : Option (Int32) := am_b1 (F_J6_bitCount_0f7a4 I a1) (fun (r_2 : Int32) => if r_2 < (I 1 4) then (am_b1 (am_it am_fu (am_u2 (fun (l3_4 : Int32) (l4_5 : Int32) => if (8 : Int32) ≤ l4_5 then (some (.inr (l3_4))) else (if ((a1 >>> (l4_5 &&& 31)) &&& (1 : Int32)) = 0 then (am_b1 (F_X3_sumWith_43 I r_2 l4_5 a1) (fun (r_16 : Int32) => am_let (if l3_4 < r_16 then r_16 else l3_4) (fun (l3_17 : Int32) => am_let (l4_5 + (1 : Int32)) (fun (l4_18 : Int32) => some (.inl (l3_17, l4_18)))))) else (am_let (l4_5 + (1 : Int32)) (fun (l4_14 : Int32) => some (.inl (l3_4, l4_14))))))) ((-2147483648 : Int32), (0 : Int32))) (fun (l3_6 : Int32) => some l3_6)) else (some (0 : Int32)))
set_option maxRecDepth 100000 in
set_option maxHeartbeats 4000000 in
theorem s_X3_greatestFrom_43 {l : Launch} {d N : Nat} {P : am_PT} (hPl : am_Pl 94 N P) (hd : 2 ≤ d) {I : am_IT} {a1 : Int32} {r : Int32} (hF : F_X3_greatestFrom_43 I a1 = some (r)) : am_C l d 0 0 mX3_greatestFrom [.ref 43, .int a1] N P I (am_qi r N P I) := by
  refine am_body (sc := am_sc0) (n := 3) (by decide +kernel) (by decide) rfl ?_
  change G am_sc0 l d 0 0 mX3_greatestFrom (am_qi r N P I) 0 [.ref 43, .int a1, .null, .null, .null] [] N P I 0 0
  unfold F_X3_greatestFrom_43 at hF
  refine g_iload_n (pc := 0) dX3_greatestFrom_0 rfl rfl ?_
  obtain ⟨r_2, h_1, hF⟩ := am_b1_el hF
  refine g_cSi (pc := 1) (As := [.int a1]) (st := []) ky_J6_bitCount_0f7a4 kl_X3_66 (s_J6_bitCount_0f7a4 (d := 1) (hPl) (Nat.le_refl _) h_1) rfl rfl (Nat.le_trans (by decide) hd) (Nat.le_of_ble_eq_true rfl) (Nat.le_refl _) (Nat.le_refl _) dX3_greatestFrom_1 ?_
  refine n_istore_n (pc := 4) (ls2 := [.ref 43, .int a1, .int r_2, .null, .null]) rfl rfl dX3_greatestFrom_4 rfl (Nat.le_of_ble_eq_true rfl) ?_
  refine g_iload_n (pc := 5) dX3_greatestFrom_5 rfl rfl ?_
  refine g_aload_n (pc := 6) dX3_greatestFrom_6 rfl rfl ?_
  refine g_getR (pc := 7) (k := 43) (r := 1) kf_X3_21.r rfl rfl (hPl.get (by decide) rfl) (hPl.lt (by decide)) dX3_greatestFrom_7 ?_
  refine g_getI (pc := 10) (k := 1) kf_X3_34.r rfl rfl (hPl.lt (by decide)) dX3_greatestFrom_10 ?_
  refine g_icmp_lt (pc := 13) (tgt := 18) dX3_greatestFrom_13 rfl (fun c_3 => ?_) (fun c_3 => ?_)
  · replace hF := am_yes c_3 hF
    refine g_ldc (pc := 18) dX3_greatestFrom_18 kc_X3_71 ?_
    refine n_istore_n (pc := 20) (ls2 := [.ref 43, .int a1, .int r_2, .int (-2147483648 : Int32), .null]) rfl rfl dX3_greatestFrom_20 rfl (Nat.le_of_ble_eq_true rfl) ?_
    refine g_iconst (pc := 21) (v := (0 : Int32)) dX3_greatestFrom_21 rfl ?_
    refine n_istore (pc := 22) (ls2 := [.ref 43, .int a1, .int r_2, .int (-2147483648 : Int32), .int (0 : Int32)]) rfl rfl dX3_greatestFrom_22 (Nat.le_of_ble_eq_true rfl) ?_
    obtain ⟨l3_6, hL_10, hF⟩ := am_b1_el hF
    have hX_7 : G am_sc0 l d 0 0 mX3_greatestFrom (am_qi r N P I) 59 [.ref 43, .int a1, .int r_2, .int l3_6, .null] [] N P I 0 0 := by
      refine g_iload_n (pc := 59) dX3_greatestFrom_59 rfl rfl ?_
      cases hF
      exact g_iret (pc := 60) rfl (Nat.le_refl _) (Nat.le_refl _) dX3_greatestFrom_60 ⟨rfl, rfl, rfl, rfl⟩
    clear hF
    have hC := am_loop (C := fun x => G am_sc0 l d 0 0 mX3_greatestFrom (am_qi r N P I) 24 [.ref 43, .int a1, .int r_2, .int x.1, .int x.2] [] N P I 0 0) (by
      rintro ⟨l3_4, l4_5⟩ rr hF ih_8 hE_9
      replace hF := am_u2_ap hF
      change G am_sc0 l d 0 0 mX3_greatestFrom (am_qi r N P I) 24 [.ref 43, .int a1, .int r_2, .int l3_4, .int l4_5] [] N P I 0 0
      refine g_iload (pc := 24) dX3_greatestFrom_24 rfl ?_
      refine g_bipush (pc := 26) (v := (8 : Int32)) dX3_greatestFrom_26 rfl ?_
      refine g_icmp_ge (pc := 28) (tgt := 59) dX3_greatestFrom_28 rfl (fun c_12 => ?_) (fun c_12 => ?_)
      · replace hF := am_yes c_12 hF
        cases hF
        cases hE_9 _ rfl
        exact g_weak hX_7 ⟨Or.inr rfl, Or.inr rfl, Or.inr rfl, Or.inr rfl, Or.inl rfl, trivial⟩
      · replace hF := am_no c_12 hF
        refine g_iload_n (pc := 31) dX3_greatestFrom_31 rfl rfl ?_
        refine g_iload (pc := 32) dX3_greatestFrom_32 rfl ?_
        refine g_ishr (pc := 34) dX3_greatestFrom_34 ?_
        refine g_iconst (pc := 35) (v := (1 : Int32)) dX3_greatestFrom_35 rfl ?_
        refine g_iand (pc := 36) dX3_greatestFrom_36 ?_
        refine g_if_ne (pc := 37) (tgt := 53) dX3_greatestFrom_37 rfl (fun c_13 => ?_) (fun c_13 => ?_)
        · replace hF := am_no c_13 hF
          obtain ⟨l4_14, e_l4_14, hF⟩ := am_let_el hF
          refine n_iinc (pc := 53) (ls2 := [.ref 43, .int a1, .int r_2, .int l3_4, .int l4_14]) e_l4_14 rfl rfl rfl dX3_greatestFrom_53 (Nat.le_of_ble_eq_true rfl) ?_
          refine g_goto (pc := 56) (tgt := 24) dX3_greatestFrom_56 rfl ?_
          cases hF
          exact ih_8 (l3_4, l4_14) rfl
        · replace hF := am_yes c_13 hF
          refine g_iload_n (pc := 40) dX3_greatestFrom_40 rfl rfl ?_
          refine g_aload_n (pc := 41) dX3_greatestFrom_41 rfl rfl ?_
          refine g_iload_n (pc := 42) dX3_greatestFrom_42 rfl rfl ?_
          refine g_iload (pc := 43) dX3_greatestFrom_43 rfl ?_
          refine g_iload_n (pc := 45) dX3_greatestFrom_45 rfl rfl ?_
          obtain ⟨r_16, h_15, hF⟩ := am_b1_el hF
          refine g_cVi (pc := 46) (k := 43) (As := [.int r_2, .int l4_5, .int a1]) (st := [.int l3_4]) ky_X3_sumWith kl_X3_72 (s_X3_sumWith_43 (d := 1) (hPl) (Nat.le_refl _) h_15) rfl rfl rfl (hPl.lt (by decide)) (Nat.le_trans (by decide) hd) (Nat.le_of_ble_eq_true rfl) (Nat.le_refl _) (Nat.le_refl _) dX3_greatestFrom_46 ?_
          refine g_mmax (pc := 49) kl_X3_76 kz_maxs kz_mi kz_maxc (Nat.le_trans (by decide) hd) (Nat.le_of_ble_eq_true rfl) (Nat.le_refl _) (Nat.le_refl _) dX3_greatestFrom_49 ?_
          obtain ⟨l3_17, e_l3_17, hF⟩ := am_let_el hF
          refine n_istore_n (pc := 52) (ls2 := [.ref 43, .int a1, .int r_2, .int l3_17, .int l4_5]) e_l3_17 rfl dX3_greatestFrom_52 rfl (Nat.le_of_ble_eq_true rfl) ?_
          obtain ⟨l4_18, e_l4_18, hF⟩ := am_let_el hF
          refine n_iinc (pc := 53) (ls2 := [.ref 43, .int a1, .int r_2, .int l3_17, .int l4_18]) e_l4_18 rfl rfl rfl dX3_greatestFrom_53 (Nat.le_of_ble_eq_true rfl) ?_
          refine g_goto (pc := 56) (tgt := 24) dX3_greatestFrom_56 rfl ?_
          cases hF
          exact ih_8 (l3_17, l4_18) rfl
      ) _ _ hL_10
    exact hC
  · replace hF := am_no c_3 hF
    refine g_iconst (pc := 16) (v := (0 : Int32)) dX3_greatestFrom_16 rfl ?_
    cases hF
    exact g_iret (pc := 17) rfl (Nat.le_refl _) (Nat.le_refl _) dX3_greatestFrom_17 ⟨rfl, rfl, rfl, rfl⟩
def F_X3_firstHouse_43 (I : am_IT) (a1 : Int32) (a2 : Int32) : Option (Int32) := am_lr (am_it am_fu (fun (l3_1 : Int32) => if (8 : Int32) ≤ l3_1 then (some (.inr (.inl ((0 : Int32))))) else (if ((a2 >>> (l3_1 &&& 31)) &&& (1 : Int32)) = 0 then (am_b1 (F_X3_sumWith_43 I a1 l3_1 a2) (fun (r_12 : Int32) => if am_ix a2 256 = true then (if r_12 = (I 46 a2.toNatClampNeg) then (some (.inr (.inr l3_1))) else (am_let (l3_1 + (1 : Int32)) (fun (l3_15 : Int32) => some (.inl (l3_15))))) else none)) else (am_let (l3_1 + (1 : Int32)) (fun (l3_10 : Int32) => some (.inl (l3_10)))))) (0 : Int32)) (fun (u_2 : Int32) => some (0 : Int32))
set_option maxRecDepth 100000 in
set_option maxHeartbeats 4000000 in
theorem s_X3_firstHouse_43 {l : Launch} {d N : Nat} {P : am_PT} (hPl : am_Pl 94 N P) (hd : 2 ≤ d) {I : am_IT} {a1 : Int32} {a2 : Int32} {r : Int32} (hF : F_X3_firstHouse_43 I a1 a2 = some (r)) : am_C l d 0 0 mX3_firstHouse [.ref 43, .int a1, .int a2] N P I (am_qi r N P I) := by
  refine am_body (sc := am_sc0) (n := 1) (by decide +kernel) (by decide) rfl ?_
  change G am_sc0 l d 0 0 mX3_firstHouse (am_qi r N P I) 0 [.ref 43, .int a1, .int a2, .null] [] N P I 0 0
  unfold F_X3_firstHouse_43 at hF
  refine g_iconst (pc := 0) (v := (0 : Int32)) dX3_firstHouse_0 rfl ?_
  refine n_istore_n (pc := 1) (ls2 := [.ref 43, .int a1, .int a2, .int (0 : Int32)]) rfl rfl dX3_firstHouse_1 rfl (Nat.le_of_ble_eq_true rfl) ?_
  obtain ⟨x_17, hL_6, hF⟩ := am_lr_el hF
  have hX_3 : ∀ (u_2 : Int32), x_17 = .inl u_2 → G am_sc0 l d 0 0 mX3_firstHouse (am_qi r N P I) 40 [.ref 43, .int a1, .int a2, .null] [] N P I 0 0 := by
    intro u_2 q
    subst q
    refine g_iconst (pc := 40) (v := (0 : Int32)) dX3_firstHouse_40 rfl ?_
    cases hF
    exact g_iret (pc := 41) rfl (Nat.le_refl _) (Nat.le_refl _) dX3_firstHouse_41 ⟨rfl, rfl, rfl, rfl⟩
  have hZ_7 : ∀ y, x_17 = .inr y → y = _ := fun y q => by subst q; exact hF
  clear hF
  have hC := am_loop (C := fun x => G am_sc0 l d 0 0 mX3_firstHouse (am_qi r N P I) 2 [.ref 43, .int a1, .int a2, .int x] [] N P I 0 0) (by
    intro l3_1 rr hF ih_4 hE_5
    refine g_iload_n (pc := 2) dX3_firstHouse_2 rfl rfl ?_
    refine g_bipush (pc := 3) (v := (8 : Int32)) dX3_firstHouse_3 rfl ?_
    refine g_icmp_ge (pc := 5) (tgt := 40) dX3_firstHouse_5 rfl (fun c_8 => ?_) (fun c_8 => ?_)
    · replace hF := am_yes c_8 hF
      cases hF
      exact g_weak (hX_3 _ (hE_5 _ rfl).symm) ⟨Or.inr rfl, Or.inr rfl, Or.inr rfl, Or.inl rfl, trivial⟩
    · replace hF := am_no c_8 hF
      refine g_iload_n (pc := 8) dX3_firstHouse_8 rfl rfl ?_
      refine g_iload_n (pc := 9) dX3_firstHouse_9 rfl rfl ?_
      refine g_ishr (pc := 10) dX3_firstHouse_10 ?_
      refine g_iconst (pc := 11) (v := (1 : Int32)) dX3_firstHouse_11 rfl ?_
      refine g_iand (pc := 12) dX3_firstHouse_12 ?_
      refine g_if_ne (pc := 13) (tgt := 34) dX3_firstHouse_13 rfl (fun c_9 => ?_) (fun c_9 => ?_)
      · replace hF := am_no c_9 hF
        obtain ⟨l3_10, e_l3_10, hF⟩ := am_let_el hF
        refine n_iinc (pc := 34) (ls2 := [.ref 43, .int a1, .int a2, .int l3_10]) e_l3_10 rfl rfl rfl dX3_firstHouse_34 (Nat.le_of_ble_eq_true rfl) ?_
        refine g_goto (pc := 37) (tgt := 2) dX3_firstHouse_37 rfl ?_
        cases hF
        exact ih_4 (l3_10) rfl
      · replace hF := am_yes c_9 hF
        refine g_aload_n (pc := 16) dX3_firstHouse_16 rfl rfl ?_
        refine g_iload_n (pc := 17) dX3_firstHouse_17 rfl rfl ?_
        refine g_iload_n (pc := 18) dX3_firstHouse_18 rfl rfl ?_
        refine g_iload_n (pc := 19) dX3_firstHouse_19 rfl rfl ?_
        obtain ⟨r_12, h_11, hF⟩ := am_b1_el hF
        refine g_cVi (pc := 20) (k := 43) (As := [.int a1, .int l3_1, .int a2]) (st := []) ky_X3_sumWith kl_X3_72 (s_X3_sumWith_43 (d := 1) (hPl) (Nat.le_refl _) h_11) rfl rfl rfl (hPl.lt (by decide)) (Nat.le_trans (by decide) hd) (Nat.le_of_ble_eq_true rfl) (Nat.le_refl _) (Nat.le_refl _) dX3_firstHouse_20 ?_
        refine g_aload_n (pc := 23) dX3_firstHouse_23 rfl rfl ?_
        refine g_getR (pc := 24) (k := 43) (r := 46) kf_X3_18.r rfl rfl (hPl.get (by decide) rfl) (hPl.lt (by decide)) dX3_firstHouse_24 ?_
        refine g_iload_n (pc := 27) dX3_firstHouse_27 rfl rfl ?_
        obtain ⟨c_13, hF⟩ := am_gd hF
        refine g_iald (pc := 28) (k := 46) rfl (hPl.lt (by decide)) (am_ix_use c_13) dX3_firstHouse_28 ?_
        refine g_icmp_ne (pc := 29) (tgt := 34) dX3_firstHouse_29 rfl (fun c_14 => ?_) (fun c_14 => ?_)
        · replace hF := am_no c_14 hF
          obtain ⟨l3_15, e_l3_15, hF⟩ := am_let_el hF
          refine n_iinc (pc := 34) (ls2 := [.ref 43, .int a1, .int a2, .int l3_15]) e_l3_15 rfl rfl rfl dX3_firstHouse_34 (Nat.le_of_ble_eq_true rfl) ?_
          refine g_goto (pc := 37) (tgt := 2) dX3_firstHouse_37 rfl ?_
          cases hF
          exact ih_4 (l3_15) rfl
        · replace hF := am_yes c_14 hF
          refine g_iload_n (pc := 32) dX3_firstHouse_32 rfl rfl ?_
          cases hF
          have q_16 := hZ_7 _ (hE_5 _ rfl).symm
          cases q_16
          exact g_iret (pc := 33) rfl (Nat.le_refl _) (Nat.le_refl _) dX3_firstHouse_33 ⟨rfl, rfl, rfl, rfl⟩
    ) _ _ hL_6
  exact hC
def F_X3_plan_43 (I : am_IT) : Option (am_IT) := am_b1 (F_X8_measure_23 I) (fun (I_2 : am_IT) => am_b1 (am_it am_fu (am_u2 (fun (l1_3 : Int32) (I_4 : am_IT) => if (I_4 1 4) ≤ l1_3 then (some (.inr (I_4))) else (am_b1 (am_it am_fu (am_u2 (fun (l2_12 : Int32) (I_13 : am_IT) => if (8 : Int32) ≤ l2_12 then (some (.inr (I_13))) else (am_b1 (F_X8_worthIn_23_3 I_13 l1_3 l2_12) (fun (r_22 : Int32) => if am_ix ((l1_3 * (8 : Int32)) + l2_12) 56 = true then (am_let (up2 I_13 45 ((l1_3 * (8 : Int32)) + l2_12).toNatClampNeg r_22) (fun (I_24 : am_IT) => am_let (l2_12 + (1 : Int32)) (fun (l2_25 : Int32) => some (.inl (l2_25, I_24))))) else none)))) ((0 : Int32), I_4)) (fun (I_14 : am_IT) => am_let (l1_3 + (1 : Int32)) (fun (l1_26 : Int32) => some (.inl (l1_26, I_14))))))) ((0 : Int32), I_2)) (fun (I_5 : am_IT) => am_let ((256 : Int32) - (1 : Int32)) (fun (l1_27 : Int32) => am_b1 (am_it am_fu (am_u2 (fun (l1_28 : Int32) (I_29 : am_IT) => if l1_28 < 0 then (some (.inr (I_29))) else (am_b1 (F_X3_greatestFrom_43 I_29 l1_28) (fun (r_38 : Int32) => if am_ix l1_28 256 = true then (am_let (up2 I_29 46 l1_28.toNatClampNeg r_38) (fun (I_40 : am_IT) => am_let (l1_28 + (-1 : Int32)) (fun (l1_41 : Int32) => some (.inl (l1_41, I_40))))) else none)))) (l1_27, I_5)) (fun (I_30 : am_IT) => am_b1 (am_it am_fu (am_u3 (fun (l1_42 : Int32) (l2_43 : Int32) (I_44 : am_IT) => if (I_44 1 4) ≤ l2_43 then (some (.inr (I_44))) else (am_b1 (F_X3_firstHouse_43 I_44 l2_43 l1_42) (fun (r_53 : Int32) => if am_ix l2_43 7 = true then (am_let (up2 I_44 44 l2_43.toNatClampNeg r_53) (fun (I_55 : am_IT) => if am_ix l2_43 7 = true then (am_let (l1_42 ||| ((1 : Int32) <<< ((I_55 44 l2_43.toNatClampNeg) &&& 31))) (fun (l1_57 : Int32) => am_let (l2_43 + (1 : Int32)) (fun (l2_58 : Int32) => some (.inl (l1_57, l2_58, I_55))))) else none)) else none)))) ((0 : Int32), (0 : Int32), I_30)) (fun (I_45 : am_IT) => some I_45)))))
set_option maxRecDepth 100000 in
set_option maxHeartbeats 4000000 in
theorem s_X3_plan_43 {l : Launch} {d N : Nat} {P : am_PT} (hPl : am_Pl 94 N P) (hd : 4 ≤ d) {I : am_IT} {I2 : am_IT} (hF : F_X3_plan_43 I = some (I2)) : am_C l d 0 0 mX3_plan [.ref 43] N P I (am_qv N P I2) := by
  refine am_body (sc := am_sc0) (n := 2) (by decide +kernel) (by decide) rfl ?_
  change G am_sc0 l d 0 0 mX3_plan (am_qv N P I2) 0 [.ref 43, .null, .null] [] N P I 0 0
  unfold F_X3_plan_43 at hF
  refine g_aload_n (pc := 0) dX3_plan_0 rfl rfl ?_
  refine g_getR (pc := 1) (k := 43) (r := 23) kf_X3_25.r rfl rfl (hPl.get (by decide) rfl) (hPl.lt (by decide)) dX3_plan_1 ?_
  obtain ⟨I_2, h_1, hF⟩ := am_b1_el hF
  refine g_cVv (pc := 4) (k := 23) (As := []) (st := []) ky_X8_measure kl_X3_29 (s_X8_measure_23 (d := 2) (hPl) (Nat.le_refl _) h_1) rfl rfl rfl (hPl.lt (by decide)) (Nat.le_trans (by decide) hd) (Nat.le_of_ble_eq_true rfl) (Nat.le_refl _) (Nat.le_refl _) dX3_plan_4 ?_
  refine g_iconst (pc := 7) (v := (0 : Int32)) dX3_plan_7 rfl ?_
  refine n_istore_n (pc := 8) (ls2 := [.ref 43, .int (0 : Int32), .null]) rfl rfl dX3_plan_8 rfl (Nat.le_of_ble_eq_true rfl) ?_
  obtain ⟨I_5, hL_9, hF⟩ := am_b1_el hF
  have hX_6 : G am_sc0 l d 0 0 mX3_plan (am_qv N P I2) 67 [.ref 43, .null, .null] [] N P I_5 0 0 := by
    refine g_aload_n (pc := 67) dX3_plan_67 rfl rfl ?_
    refine g_getR (pc := 68) (k := 43) (r := 46) kf_X3_18.r rfl rfl (hPl.get (by decide) rfl) (hPl.lt (by decide)) dX3_plan_68 ?_
    refine g_alen (pc := 71) (k := 46) (v := 256) rfl (hPl.lt (by decide)) rfl dX3_plan_71 ?_
    refine g_iconst (pc := 72) (v := (1 : Int32)) dX3_plan_72 rfl ?_
    refine g_isub (pc := 73) dX3_plan_73 ?_
    obtain ⟨l1_27, e_l1_27, hF⟩ := am_let_el hF
    refine n_istore_n (pc := 74) (ls2 := [.ref 43, .int l1_27, .null]) e_l1_27 rfl dX3_plan_74 rfl (Nat.le_of_ble_eq_true rfl) ?_
    obtain ⟨I_30, hL_34, hF⟩ := am_b1_el hF
    have hX_31 : G am_sc0 l d 0 0 mX3_plan (am_qv N P I2) 96 [.ref 43, .null, .null] [] N P I_30 0 0 := by
      refine g_iconst (pc := 96) (v := (0 : Int32)) dX3_plan_96 rfl ?_
      refine n_istore_n (pc := 97) (ls2 := [.ref 43, .int (0 : Int32), .null]) rfl rfl dX3_plan_97 rfl (Nat.le_of_ble_eq_true rfl) ?_
      refine g_iconst (pc := 98) (v := (0 : Int32)) dX3_plan_98 rfl ?_
      refine n_istore_n (pc := 99) (ls2 := [.ref 43, .int (0 : Int32), .int (0 : Int32)]) rfl rfl dX3_plan_99 rfl (Nat.le_of_ble_eq_true rfl) ?_
      obtain ⟨I_45, hL_49, hF⟩ := am_b1_el hF
      have hX_46 : G am_sc0 l d 0 0 mX3_plan (am_qv N P I2) 140 [.ref 43, .null, .null] [] N P I_45 0 0 := by
        cases hF
        exact g_vret (pc := 140) rfl (Nat.le_refl _) (Nat.le_refl _) dX3_plan_140 ⟨rfl, rfl, rfl, rfl⟩
      clear hF
      have hC := am_loop (C := fun x => G am_sc0 l d 0 0 mX3_plan (am_qv N P I2) 100 [.ref 43, .int x.1, .int x.2.1] [] N P x.2.2 0 0) (by
        rintro ⟨l1_42, l2_43, I_44⟩ rr hF ih_47 hE_48
        replace hF := am_u3_ap hF
        change G am_sc0 l d 0 0 mX3_plan (am_qv N P I2) 100 [.ref 43, .int l1_42, .int l2_43] [] N P I_44 0 0
        refine g_iload_n (pc := 100) dX3_plan_100 rfl rfl ?_
        refine g_aload_n (pc := 101) dX3_plan_101 rfl rfl ?_
        refine g_getR (pc := 102) (k := 43) (r := 1) kf_X3_21.r rfl rfl (hPl.get (by decide) rfl) (hPl.lt (by decide)) dX3_plan_102 ?_
        refine g_getI (pc := 105) (k := 1) kf_X3_34.r rfl rfl (hPl.lt (by decide)) dX3_plan_105 ?_
        refine g_icmp_ge (pc := 108) (tgt := 140) dX3_plan_108 rfl (fun c_51 => ?_) (fun c_51 => ?_)
        · replace hF := am_yes c_51 hF
          cases hF
          cases hE_48 _ rfl
          exact g_weak hX_46 ⟨Or.inr rfl, Or.inl rfl, Or.inl rfl, trivial⟩
        · replace hF := am_no c_51 hF
          refine g_aload_n (pc := 111) dX3_plan_111 rfl rfl ?_
          refine g_getR (pc := 112) (k := 43) (r := 44) kf_X3_9.r rfl rfl (hPl.get (by decide) rfl) (hPl.lt (by decide)) dX3_plan_112 ?_
          refine g_iload_n (pc := 115) dX3_plan_115 rfl rfl ?_
          refine g_aload_n (pc := 116) dX3_plan_116 rfl rfl ?_
          refine g_iload_n (pc := 117) dX3_plan_117 rfl rfl ?_
          refine g_iload_n (pc := 118) dX3_plan_118 rfl rfl ?_
          obtain ⟨r_53, h_52, hF⟩ := am_b1_el hF
          refine g_cVi (pc := 119) (k := 43) (As := [.int l2_43, .int l1_42]) (st := [.int l2_43, .ref 44]) ky_X3_firstHouse kl_X3_51 (s_X3_firstHouse_43 (d := 2) (hPl) (Nat.le_refl _) h_52) rfl rfl rfl (hPl.lt (by decide)) (Nat.le_trans (by decide) hd) (Nat.le_of_ble_eq_true rfl) (Nat.le_refl _) (Nat.le_refl _) dX3_plan_119 ?_
          obtain ⟨c_54, hF⟩ := am_gd hF
          obtain ⟨I_55, e_I_55, hF⟩ := am_let_el hF
          refine n_iast (pc := 122) (k := 44) e_I_55 rfl (hPl.lt (by decide)) (am_ix_use c_54) dX3_plan_122 ?_
          refine g_iload_n (pc := 123) dX3_plan_123 rfl rfl ?_
          refine g_iconst (pc := 124) (v := (1 : Int32)) dX3_plan_124 rfl ?_
          refine g_aload_n (pc := 125) dX3_plan_125 rfl rfl ?_
          refine g_getR (pc := 126) (k := 43) (r := 44) kf_X3_9.r rfl rfl (hPl.get (by decide) rfl) (hPl.lt (by decide)) dX3_plan_126 ?_
          refine g_iload_n (pc := 129) dX3_plan_129 rfl rfl ?_
          obtain ⟨c_56, hF⟩ := am_gd hF
          refine g_iald (pc := 130) (k := 44) rfl (hPl.lt (by decide)) (am_ix_use c_56) dX3_plan_130 ?_
          refine g_ishl (pc := 131) dX3_plan_131 ?_
          refine g_ior (pc := 132) dX3_plan_132 ?_
          obtain ⟨l1_57, e_l1_57, hF⟩ := am_let_el hF
          refine n_istore_n (pc := 133) (ls2 := [.ref 43, .int l1_57, .int l2_43]) e_l1_57 rfl dX3_plan_133 rfl (Nat.le_of_ble_eq_true rfl) ?_
          obtain ⟨l2_58, e_l2_58, hF⟩ := am_let_el hF
          refine n_iinc (pc := 134) (ls2 := [.ref 43, .int l1_57, .int l2_58]) e_l2_58 rfl rfl rfl dX3_plan_134 (Nat.le_of_ble_eq_true rfl) ?_
          refine g_goto (pc := 137) (tgt := 100) dX3_plan_137 rfl ?_
          cases hF
          exact ih_47 (l1_57, l2_58, I_55) rfl
        ) _ _ hL_49
      exact hC
    clear hF
    have hC := am_loop (C := fun x => G am_sc0 l d 0 0 mX3_plan (am_qv N P I2) 75 [.ref 43, .int x.1, .null] [] N P x.2 0 0) (by
      rintro ⟨l1_28, I_29⟩ rr hF ih_32 hE_33
      replace hF := am_u2_ap hF
      change G am_sc0 l d 0 0 mX3_plan (am_qv N P I2) 75 [.ref 43, .int l1_28, .null] [] N P I_29 0 0
      refine g_iload_n (pc := 75) dX3_plan_75 rfl rfl ?_
      refine g_if_lt (pc := 76) (tgt := 96) dX3_plan_76 rfl (fun c_36 => ?_) (fun c_36 => ?_)
      · replace hF := am_yes c_36 hF
        cases hF
        cases hE_33 _ rfl
        exact g_weak hX_31 ⟨Or.inr rfl, Or.inl rfl, Or.inl rfl, trivial⟩
      · replace hF := am_no c_36 hF
        refine g_aload_n (pc := 79) dX3_plan_79 rfl rfl ?_
        refine g_getR (pc := 80) (k := 43) (r := 46) kf_X3_18.r rfl rfl (hPl.get (by decide) rfl) (hPl.lt (by decide)) dX3_plan_80 ?_
        refine g_iload_n (pc := 83) dX3_plan_83 rfl rfl ?_
        refine g_aload_n (pc := 84) dX3_plan_84 rfl rfl ?_
        refine g_iload_n (pc := 85) dX3_plan_85 rfl rfl ?_
        obtain ⟨r_38, h_37, hF⟩ := am_b1_el hF
        refine g_cVi (pc := 86) (k := 43) (As := [.int l1_28]) (st := [.int l1_28, .ref 46]) ky_X3_greatestFrom kl_X3_47 (s_X3_greatestFrom_43 (d := 2) (hPl) (Nat.le_refl _) h_37) rfl rfl rfl (hPl.lt (by decide)) (Nat.le_trans (by decide) hd) (Nat.le_of_ble_eq_true rfl) (Nat.le_refl _) (Nat.le_refl _) dX3_plan_86 ?_
        obtain ⟨c_39, hF⟩ := am_gd hF
        obtain ⟨I_40, e_I_40, hF⟩ := am_let_el hF
        refine n_iast (pc := 89) (k := 46) e_I_40 rfl (hPl.lt (by decide)) (am_ix_use c_39) dX3_plan_89 ?_
        obtain ⟨l1_41, e_l1_41, hF⟩ := am_let_el hF
        refine n_iinc (pc := 90) (ls2 := [.ref 43, .int l1_41, .null]) e_l1_41 (by rw [show Int32.ofInt (-1) = (-1 : Int32) from by decide]) rfl rfl dX3_plan_90 (Nat.le_of_ble_eq_true rfl) ?_
        refine g_goto (pc := 93) (tgt := 75) dX3_plan_93 rfl ?_
        cases hF
        exact ih_32 (l1_41, I_40) rfl
      ) _ _ hL_34
    exact hC
  clear hF
  have hC := am_loop (C := fun x => G am_sc0 l d 0 0 mX3_plan (am_qv N P I2) 9 [.ref 43, .int x.1, .null] [] N P x.2 0 0) (by
    rintro ⟨l1_3, I_4⟩ rr hF ih_7 hE_8
    replace hF := am_u2_ap hF
    change G am_sc0 l d 0 0 mX3_plan (am_qv N P I2) 9 [.ref 43, .int l1_3, .null] [] N P I_4 0 0
    refine g_iload_n (pc := 9) dX3_plan_9 rfl rfl ?_
    refine g_aload_n (pc := 10) dX3_plan_10 rfl rfl ?_
    refine g_getR (pc := 11) (k := 43) (r := 1) kf_X3_21.r rfl rfl (hPl.get (by decide) rfl) (hPl.lt (by decide)) dX3_plan_11 ?_
    refine g_getI (pc := 14) (k := 1) kf_X3_34.r rfl rfl (hPl.lt (by decide)) dX3_plan_14 ?_
    refine g_icmp_ge (pc := 17) (tgt := 67) dX3_plan_17 rfl (fun c_11 => ?_) (fun c_11 => ?_)
    · replace hF := am_yes c_11 hF
      cases hF
      cases hE_8 _ rfl
      exact g_weak hX_6 ⟨Or.inr rfl, Or.inl rfl, Or.inl rfl, trivial⟩
    · replace hF := am_no c_11 hF
      refine g_iconst (pc := 20) (v := (0 : Int32)) dX3_plan_20 rfl ?_
      refine n_istore_n (pc := 21) (ls2 := [.ref 43, .int l1_3, .int (0 : Int32)]) rfl rfl dX3_plan_21 rfl (Nat.le_of_ble_eq_true rfl) ?_
      obtain ⟨I_14, hL_18, hF⟩ := am_b1_el hF
      have hX_15 : G am_sc0 l d 0 0 mX3_plan (am_qv N P I2) 61 [.ref 43, .int l1_3, .null] [] N P I_14 0 0 := by
        obtain ⟨l1_26, e_l1_26, hF⟩ := am_let_el hF
        refine n_iinc (pc := 61) (ls2 := [.ref 43, .int l1_26, .null]) e_l1_26 rfl rfl rfl dX3_plan_61 (Nat.le_of_ble_eq_true rfl) ?_
        refine g_goto (pc := 64) (tgt := 9) dX3_plan_64 rfl ?_
        cases hF
        exact ih_7 (l1_26, I_14) rfl
      clear hF
      have hC := am_loop (C := fun x => G am_sc0 l d 0 0 mX3_plan (am_qv N P I2) 22 [.ref 43, .int l1_3, .int x.1] [] N P x.2 0 0) (by
        rintro ⟨l2_12, I_13⟩ rr hF ih_16 hE_17
        replace hF := am_u2_ap hF
        change G am_sc0 l d 0 0 mX3_plan (am_qv N P I2) 22 [.ref 43, .int l1_3, .int l2_12] [] N P I_13 0 0
        refine g_iload_n (pc := 22) dX3_plan_22 rfl rfl ?_
        refine g_bipush (pc := 23) (v := (8 : Int32)) dX3_plan_23 rfl ?_
        refine g_icmp_ge (pc := 25) (tgt := 61) dX3_plan_25 rfl (fun c_20 => ?_) (fun c_20 => ?_)
        · replace hF := am_yes c_20 hF
          cases hF
          cases hE_17 _ rfl
          exact g_weak hX_15 ⟨Or.inr rfl, Or.inr rfl, Or.inl rfl, trivial⟩
        · replace hF := am_no c_20 hF
          refine g_aload_n (pc := 28) dX3_plan_28 rfl rfl ?_
          refine g_getR (pc := 29) (k := 43) (r := 45) kf_X3_15.r rfl rfl (hPl.get (by decide) rfl) (hPl.lt (by decide)) dX3_plan_29 ?_
          refine g_iload_n (pc := 32) dX3_plan_32 rfl rfl ?_
          refine g_bipush (pc := 33) (v := (8 : Int32)) dX3_plan_33 rfl ?_
          refine g_imul (pc := 35) dX3_plan_35 ?_
          refine g_iload_n (pc := 36) dX3_plan_36 rfl rfl ?_
          refine g_iadd (pc := 37) dX3_plan_37 ?_
          refine g_aload_n (pc := 38) dX3_plan_38 rfl rfl ?_
          refine g_getR (pc := 39) (k := 43) (r := 23) kf_X3_25.r rfl rfl (hPl.get (by decide) rfl) (hPl.lt (by decide)) dX3_plan_39 ?_
          refine g_iload_n (pc := 42) dX3_plan_42 rfl rfl ?_
          refine g_iload_n (pc := 43) dX3_plan_43 rfl rfl ?_
          refine g_aload_n (pc := 44) dX3_plan_44 rfl rfl ?_
          refine g_getR (pc := 45) (k := 43) (r := 1) kf_X3_21.r rfl rfl (hPl.get (by decide) rfl) (hPl.lt (by decide)) dX3_plan_45 ?_
          refine g_getR (pc := 48) (k := 1) (r := 3) kf_X3_40 rfl rfl (hPl.get (by decide) rfl) (hPl.lt (by decide)) dX3_plan_48 ?_
          obtain ⟨r_22, h_21, hF⟩ := am_b1_el hF
          refine g_cVi (pc := 51) (k := 23) (As := [.int l1_3, .int l2_12, .ref 3]) (st := [.int ((l1_3 * (8 : Int32)) + l2_12), .ref 45]) ky_X8_worthIn kl_X3_43 (s_X8_worthIn_23_3 (d := 3) (hPl) (Nat.le_refl _) h_21) rfl rfl rfl (hPl.lt (by decide)) (Nat.le_trans (by decide) hd) (Nat.le_of_ble_eq_true rfl) (Nat.le_refl _) (Nat.le_refl _) dX3_plan_51 ?_
          obtain ⟨c_23, hF⟩ := am_gd hF
          obtain ⟨I_24, e_I_24, hF⟩ := am_let_el hF
          refine n_iast (pc := 54) (k := 45) e_I_24 rfl (hPl.lt (by decide)) (am_ix_use c_23) dX3_plan_54 ?_
          obtain ⟨l2_25, e_l2_25, hF⟩ := am_let_el hF
          refine n_iinc (pc := 55) (ls2 := [.ref 43, .int l1_3, .int l2_25]) e_l2_25 rfl rfl rfl dX3_plan_55 (Nat.le_of_ble_eq_true rfl) ?_
          refine g_goto (pc := 58) (tgt := 22) dX3_plan_58 rfl ?_
          cases hF
          exact ih_16 (l2_25, I_24) rfl
        ) _ _ hL_18
      exact hC
    ) _ _ hL_9
  exact hC
def F_X3_greatestSum_43 (I : am_IT) : Option (Int32) := if am_ix (0 : Int32) 256 = true then (some (I 46 (0 : Int32).toNatClampNeg)) else none
set_option maxRecDepth 100000 in
set_option maxHeartbeats 4000000 in
theorem s_X3_greatestSum_43 {l : Launch} {d N : Nat} {P : am_PT} (hPl : am_Pl 94 N P) (hd : 1 ≤ d) {I : am_IT} {r : Int32} (hF : F_X3_greatestSum_43 I = some (r)) : am_C l d 0 0 mX3_greatestSum [.ref 43] N P I (am_qi r N P I) := by
  refine am_body (sc := am_sc0) (n := 0) (by decide +kernel) (by decide) rfl ?_
  change G am_sc0 l d 0 0 mX3_greatestSum (am_qi r N P I) 0 [.ref 43] [] N P I 0 0
  unfold F_X3_greatestSum_43 at hF
  refine g_aload_n (pc := 0) dX3_greatestSum_0 rfl rfl ?_
  refine g_getR (pc := 1) (k := 43) (r := 46) kf_X3_18.r rfl rfl (hPl.get (by decide) rfl) (hPl.lt (by decide)) dX3_greatestSum_1 ?_
  refine g_iconst (pc := 4) (v := (0 : Int32)) dX3_greatestSum_4 rfl ?_
  obtain ⟨c_1, hF⟩ := am_gd hF
  refine g_iald (pc := 5) (k := 46) rfl (hPl.lt (by decide)) (am_ix_use c_1) dX3_greatestSum_5 ?_
  cases hF
  exact g_iret (pc := 6) rfl (Nat.le_refl _) (Nat.le_refl _) dX3_greatestSum_6 ⟨rfl, rfl, rfl, rfl⟩
def F_X11_homes_0 (I : am_IT) (a1 : Int32) : Option (Int32 × am_IT) := am_b1 (F_X9_hasPerson_1 I (a1 - (10 : Int32))) (fun (r_2 : Int32) => if r_2 = 0 then (if a1 = 0 then (am_b1 (F_X3_plan_43 I) (fun (I_13 : am_IT) => if r_2 = 0 then (am_b1 (F_X3_greatestSum_43 I_13) (fun (r_16 : Int32) => some (r_16, I_13))) else (if am_ix (a1 - (10 : Int32)) 7 = true then (some (I_13 44 (a1 - (10 : Int32)).toNatClampNeg, I_13)) else none))) else (some ((-100000 : Int32), I))) else (am_b1 (F_X3_plan_43 I) (fun (I_6 : am_IT) => if r_2 = 0 then (am_b1 (F_X3_greatestSum_43 I_6) (fun (r_9 : Int32) => some (r_9, I_6))) else (if am_ix (a1 - (10 : Int32)) 7 = true then (some (I_6 44 (a1 - (10 : Int32)).toNatClampNeg, I_6)) else none))))
set_option maxRecDepth 100000 in
set_option maxHeartbeats 4000000 in
theorem s_X11_homes_0 {l : Launch} {d N : Nat} {P : am_PT} (hPl : am_Pl 94 N P) (hd : 5 ≤ d) {I : am_IT} {a1 : Int32} {r : Int32} {I2 : am_IT} (hF : F_X11_homes_0 I a1 = some (r, I2)) : am_C l d 0 0 mX11_homes [.ref 0, .int a1] N P I (am_qi r N P I2) := by
  refine am_body (sc := am_sc0) (n := 1) (by decide +kernel) (by decide) rfl ?_
  change G am_sc0 l d 0 0 mX11_homes (am_qi r N P I2) 0 [.ref 0, .int a1, .null] [] N P I 0 0
  unfold F_X11_homes_0 at hF
  refine g_aload_n (pc := 0) dX11_homes_0 rfl rfl ?_
  refine g_getR (pc := 1) (k := 0) (r := 1) kf_X11_12.r rfl rfl (hPl.get (by decide) rfl) (hPl.lt (by decide)) dX11_homes_1 ?_
  refine g_iload_n (pc := 4) dX11_homes_4 rfl rfl ?_
  refine g_bipush (pc := 5) (v := (10 : Int32)) dX11_homes_5 rfl ?_
  refine g_isub (pc := 7) dX11_homes_7 ?_
  obtain ⟨r_2, h_1, hF⟩ := am_b1_el hF
  refine g_cVz (pc := 8) (k := 1) (As := [.int (a1 - (10 : Int32))]) (st := []) ky_X9_hasPerson kl_X11_123 (s_X9_hasPerson_1 (d := 1) (hPl) (Nat.le_refl _) h_1) rfl rfl rfl (hPl.lt (by decide)) (Nat.le_trans (by decide) hd) (Nat.le_of_ble_eq_true rfl) (Nat.le_refl _) (Nat.le_refl _) dX11_homes_8 ?_
  intro z_3
  refine n_istore_n (pc := 11) (ls2 := [.ref 0, .int a1, .int r_2]) rfl rfl dX11_homes_11 rfl (Nat.le_of_ble_eq_true rfl) ?_
  refine g_iload_n (pc := 12) dX11_homes_12 rfl rfl ?_
  refine g_if_ne (pc := 13) (tgt := 23) dX11_homes_13 rfl (fun c_4 => ?_) (fun c_4 => ?_)
  · replace hF := am_no c_4 hF
    refine g_aload_n (pc := 23) dX11_homes_23 rfl rfl ?_
    refine g_getR (pc := 24) (k := 0) (r := 43) kf_X11_58.r rfl rfl (hPl.get (by decide) rfl) (hPl.lt (by decide)) dX11_homes_24 ?_
    obtain ⟨I_6, h_5, hF⟩ := am_b1_el hF
    refine g_cVv (pc := 27) (k := 43) (As := []) (st := []) ky_X3_plan kl_X11_236 (s_X3_plan_43 (d := 4) (hPl) (Nat.le_refl _) h_5) rfl rfl rfl (hPl.lt (by decide)) (Nat.le_trans (by decide) hd) (Nat.le_of_ble_eq_true rfl) (Nat.le_refl _) (Nat.le_refl _) dX11_homes_27 ?_
    refine g_iload_n (pc := 30) dX11_homes_30 rfl rfl ?_
    refine g_if_eq (pc := 31) (tgt := 49) dX11_homes_31 rfl (fun c_7 => ?_) (fun c_7 => ?_)
    · replace hF := am_yes c_7 hF
      refine g_aload_n (pc := 49) dX11_homes_49 rfl rfl ?_
      refine g_getR (pc := 50) (k := 0) (r := 43) kf_X11_58.r rfl rfl (hPl.get (by decide) rfl) (hPl.lt (by decide)) dX11_homes_50 ?_
      obtain ⟨r_9, h_8, hF⟩ := am_b1_el hF
      refine g_cVi (pc := 53) (k := 43) (As := []) (st := []) ky_X3_greatestSum kl_X11_242 (s_X3_greatestSum_43 (d := 1) (hPl) (Nat.le_refl _) h_8) rfl rfl rfl (hPl.lt (by decide)) (Nat.le_trans (by decide) hd) (Nat.le_of_ble_eq_true rfl) (Nat.le_refl _) (Nat.le_refl _) dX11_homes_53 ?_
      cases hF
      exact g_iret (pc := 56) rfl (Nat.le_refl _) (Nat.le_refl _) dX11_homes_56 ⟨rfl, rfl, rfl, rfl⟩
    · replace hF := am_no c_7 hF
      refine g_aload_n (pc := 34) dX11_homes_34 rfl rfl ?_
      refine g_getR (pc := 35) (k := 0) (r := 43) kf_X11_58.r rfl rfl (hPl.get (by decide) rfl) (hPl.lt (by decide)) dX11_homes_35 ?_
      refine g_getR (pc := 38) (k := 43) (r := 44) kf_X11_239 rfl rfl (hPl.get (by decide) rfl) (hPl.lt (by decide)) dX11_homes_38 ?_
      refine g_iload_n (pc := 41) dX11_homes_41 rfl rfl ?_
      refine g_bipush (pc := 42) (v := (10 : Int32)) dX11_homes_42 rfl ?_
      refine g_isub (pc := 44) dX11_homes_44 ?_
      obtain ⟨c_10, hF⟩ := am_gd hF
      refine g_iald (pc := 45) (k := 44) rfl (hPl.lt (by decide)) (am_ix_use c_10) dX11_homes_45 ?_
      refine g_goto (pc := 46) (tgt := 56) dX11_homes_46 rfl ?_
      cases hF
      exact g_iret (pc := 56) rfl (Nat.le_refl _) (Nat.le_refl _) dX11_homes_56 ⟨rfl, rfl, rfl, rfl⟩
  · replace hF := am_yes c_4 hF
    refine g_iload_n (pc := 16) dX11_homes_16 rfl rfl ?_
    refine g_if_eq (pc := 17) (tgt := 23) dX11_homes_17 rfl (fun c_11 => ?_) (fun c_11 => ?_)
    · replace hF := am_yes c_11 hF
      refine g_aload_n (pc := 23) dX11_homes_23 rfl rfl ?_
      refine g_getR (pc := 24) (k := 0) (r := 43) kf_X11_58.r rfl rfl (hPl.get (by decide) rfl) (hPl.lt (by decide)) dX11_homes_24 ?_
      obtain ⟨I_13, h_12, hF⟩ := am_b1_el hF
      refine g_cVv (pc := 27) (k := 43) (As := []) (st := []) ky_X3_plan kl_X11_236 (s_X3_plan_43 (d := 4) (hPl) (Nat.le_refl _) h_12) rfl rfl rfl (hPl.lt (by decide)) (Nat.le_trans (by decide) hd) (Nat.le_of_ble_eq_true rfl) (Nat.le_refl _) (Nat.le_refl _) dX11_homes_27 ?_
      refine g_iload_n (pc := 30) dX11_homes_30 rfl rfl ?_
      refine g_if_eq (pc := 31) (tgt := 49) dX11_homes_31 rfl (fun c_14 => ?_) (fun c_14 => ?_)
      · replace hF := am_yes c_14 hF
        refine g_aload_n (pc := 49) dX11_homes_49 rfl rfl ?_
        refine g_getR (pc := 50) (k := 0) (r := 43) kf_X11_58.r rfl rfl (hPl.get (by decide) rfl) (hPl.lt (by decide)) dX11_homes_50 ?_
        obtain ⟨r_16, h_15, hF⟩ := am_b1_el hF
        refine g_cVi (pc := 53) (k := 43) (As := []) (st := []) ky_X3_greatestSum kl_X11_242 (s_X3_greatestSum_43 (d := 1) (hPl) (Nat.le_refl _) h_15) rfl rfl rfl (hPl.lt (by decide)) (Nat.le_trans (by decide) hd) (Nat.le_of_ble_eq_true rfl) (Nat.le_refl _) (Nat.le_refl _) dX11_homes_53 ?_
        cases hF
        exact g_iret (pc := 56) rfl (Nat.le_refl _) (Nat.le_refl _) dX11_homes_56 ⟨rfl, rfl, rfl, rfl⟩
      · replace hF := am_no c_14 hF
        refine g_aload_n (pc := 34) dX11_homes_34 rfl rfl ?_
        refine g_getR (pc := 35) (k := 0) (r := 43) kf_X11_58.r rfl rfl (hPl.get (by decide) rfl) (hPl.lt (by decide)) dX11_homes_35 ?_
        refine g_getR (pc := 38) (k := 43) (r := 44) kf_X11_239 rfl rfl (hPl.get (by decide) rfl) (hPl.lt (by decide)) dX11_homes_38 ?_
        refine g_iload_n (pc := 41) dX11_homes_41 rfl rfl ?_
        refine g_bipush (pc := 42) (v := (10 : Int32)) dX11_homes_42 rfl ?_
        refine g_isub (pc := 44) dX11_homes_44 ?_
        obtain ⟨c_17, hF⟩ := am_gd hF
        refine g_iald (pc := 45) (k := 44) rfl (hPl.lt (by decide)) (am_ix_use c_17) dX11_homes_45 ?_
        refine g_goto (pc := 46) (tgt := 56) dX11_homes_46 rfl ?_
        cases hF
        exact g_iret (pc := 56) rfl (Nat.le_refl _) (Nat.le_refl _) dX11_homes_56 ⟨rfl, rfl, rfl, rfl⟩
    · replace hF := am_no c_11 hF
      refine g_ldc (pc := 20) dX11_homes_20 kc_X11_185 ?_
      cases hF
      exact g_iret (pc := 22) rfl (Nat.le_refl _) (Nat.le_refl _) dX11_homes_22 ⟨rfl, rfl, rfl, rfl⟩
def F_X3_likesHouseOf_43 (I : am_IT) (a1 : Int32) (a2 : Int32) : Option (Int32) := if am_ix a2 7 = true then (am_b1 (F_X8_worthIn_23_3 I a1 (I 4 a2.toNatClampNeg)) (fun (r_3 : Int32) => am_b1 (F_X8_worthTo_23_3 I a1) (fun (r_5 : Int32) => if r_3 ≤ r_5 then (some (0 : Int32)) else (some (1 : Int32))))) else none
set_option maxRecDepth 100000 in
set_option maxHeartbeats 4000000 in
theorem s_X3_likesHouseOf_43 {l : Launch} {d N : Nat} {P : am_PT} (hPl : am_Pl 94 N P) (hd : 5 ≤ d) {I : am_IT} {a1 : Int32} {a2 : Int32} {r : Int32} (hF : F_X3_likesHouseOf_43 I a1 a2 = some (r)) : am_C l d 0 0 mX3_likesHouseOf [.ref 43, .int a1, .int a2] N P I (am_qz r N P I) := by
  refine am_body (sc := am_sc0) (n := 0) (by decide +kernel) (by decide) rfl ?_
  change G am_sc0 l d 0 0 mX3_likesHouseOf (am_qz r N P I) 0 [.ref 43, .int a1, .int a2] [] N P I 0 0
  unfold F_X3_likesHouseOf_43 at hF
  refine g_aload_n (pc := 0) dX3_likesHouseOf_0 rfl rfl ?_
  refine g_getR (pc := 1) (k := 43) (r := 23) kf_X3_25.r rfl rfl (hPl.get (by decide) rfl) (hPl.lt (by decide)) dX3_likesHouseOf_1 ?_
  refine g_iload_n (pc := 4) dX3_likesHouseOf_4 rfl rfl ?_
  refine g_aload_n (pc := 5) dX3_likesHouseOf_5 rfl rfl ?_
  refine g_getR (pc := 6) (k := 43) (r := 1) kf_X3_21.r rfl rfl (hPl.get (by decide) rfl) (hPl.lt (by decide)) dX3_likesHouseOf_6 ?_
  refine g_getR (pc := 9) (k := 1) (r := 4) kf_X3_59 rfl rfl (hPl.get (by decide) rfl) (hPl.lt (by decide)) dX3_likesHouseOf_9 ?_
  refine g_iload_n (pc := 12) dX3_likesHouseOf_12 rfl rfl ?_
  obtain ⟨c_1, hF⟩ := am_gd hF
  refine g_iald (pc := 13) (k := 4) rfl (hPl.lt (by decide)) (am_ix_use c_1) dX3_likesHouseOf_13 ?_
  refine g_aload_n (pc := 14) dX3_likesHouseOf_14 rfl rfl ?_
  refine g_getR (pc := 15) (k := 43) (r := 1) kf_X3_21.r rfl rfl (hPl.get (by decide) rfl) (hPl.lt (by decide)) dX3_likesHouseOf_15 ?_
  refine g_getR (pc := 18) (k := 1) (r := 3) kf_X3_40 rfl rfl (hPl.get (by decide) rfl) (hPl.lt (by decide)) dX3_likesHouseOf_18 ?_
  obtain ⟨r_3, h_2, hF⟩ := am_b1_el hF
  refine g_cVi (pc := 21) (k := 23) (As := [.int a1, .int (I 4 a2.toNatClampNeg), .ref 3]) (st := []) ky_X8_worthIn kl_X3_43 (s_X8_worthIn_23_3 (d := 3) (hPl) (Nat.le_refl _) h_2) rfl rfl rfl (hPl.lt (by decide)) (Nat.le_trans (by decide) hd) (Nat.le_of_ble_eq_true rfl) (Nat.le_refl _) (Nat.le_refl _) dX3_likesHouseOf_21 ?_
  refine g_aload_n (pc := 24) dX3_likesHouseOf_24 rfl rfl ?_
  refine g_getR (pc := 25) (k := 43) (r := 23) kf_X3_25.r rfl rfl (hPl.get (by decide) rfl) (hPl.lt (by decide)) dX3_likesHouseOf_25 ?_
  refine g_iload_n (pc := 28) dX3_likesHouseOf_28 rfl rfl ?_
  refine g_aload_n (pc := 29) dX3_likesHouseOf_29 rfl rfl ?_
  refine g_getR (pc := 30) (k := 43) (r := 1) kf_X3_21.r rfl rfl (hPl.get (by decide) rfl) (hPl.lt (by decide)) dX3_likesHouseOf_30 ?_
  refine g_getR (pc := 33) (k := 1) (r := 3) kf_X3_40 rfl rfl (hPl.get (by decide) rfl) (hPl.lt (by decide)) dX3_likesHouseOf_33 ?_
  obtain ⟨r_5, h_4, hF⟩ := am_b1_el hF
  refine g_cVi (pc := 36) (k := 23) (As := [.int a1, .ref 3]) (st := [.int r_3]) ky_X8_worthTo kl_X3_62 (s_X8_worthTo_23_3 (d := 4) (hPl) (Nat.le_refl _) h_4) rfl rfl rfl (hPl.lt (by decide)) (Nat.le_trans (by decide) hd) (Nat.le_of_ble_eq_true rfl) (Nat.le_refl _) (Nat.le_refl _) dX3_likesHouseOf_36 ?_
  refine g_icmp_le (pc := 39) (tgt := 46) dX3_likesHouseOf_39 rfl (fun c_6 => ?_) (fun c_6 => ?_)
  · replace hF := am_yes c_6 hF
    refine g_iconst (pc := 46) (v := (0 : Int32)) dX3_likesHouseOf_46 rfl ?_
    cases hF
    exact g_zret (pc := 47) rfl (Or.inl rfl) (Nat.le_refl _) (Nat.le_refl _) dX3_likesHouseOf_47 ⟨(Or.inl rfl), rfl, rfl, rfl, rfl⟩
  · replace hF := am_no c_6 hF
    refine g_iconst (pc := 42) (v := (1 : Int32)) dX3_likesHouseOf_42 rfl ?_
    refine g_goto (pc := 43) (tgt := 47) dX3_likesHouseOf_43 rfl ?_
    cases hF
    exact g_zret (pc := 47) rfl (Or.inr rfl) (Nat.le_refl _) (Nat.le_refl _) dX3_likesHouseOf_47 ⟨(Or.inr rfl), rfl, rfl, rfl, rfl⟩
def F_X3_firstSwap_43 (I : am_IT) : Option (Int32 × am_IT) := am_b1 (F_X8_measure_23 I) (fun (I_2 : am_IT) => am_lr (am_it am_fu (fun (l1_3 : Int32) => if (I_2 1 4) ≤ l1_3 then (some (.inr (.inl ((0 : Int32))))) else (am_let (l1_3 + (1 : Int32)) (fun (l2_11 : Int32) => am_lr (am_it am_fu (fun (l2_12 : Int32) => if (I_2 1 4) ≤ l2_12 then (some (.inr (.inl ((0 : Int32))))) else (am_b1 (F_X3_likesHouseOf_43 I_2 l1_3 l2_12) (fun (r_21 : Int32) => if r_21 = 0 then (am_let (l2_12 + (1 : Int32)) (fun (l2_24 : Int32) => some (.inl (l2_24)))) else (am_b1 (F_X3_likesHouseOf_43 I_2 l2_12 l1_3) (fun (r_26 : Int32) => if r_26 = 0 then (am_let (l2_12 + (1 : Int32)) (fun (l2_29 : Int32) => some (.inl (l2_29)))) else (some (.inr (.inr (.inr (.inr (((10 : Int32) * l1_3) + l2_12, I_2))))))))))) l2_11) (fun (u_13 : Int32) => am_let (l1_3 + (1 : Int32)) (fun (l1_32 : Int32) => some (.inl (l1_32))))))) (0 : Int32)) (fun (u_4 : Int32) => some ((-1 : Int32), I_2)))
set_option maxRecDepth 100000 in
set_option maxHeartbeats 4000000 in
theorem s_X3_firstSwap_43 {l : Launch} {d N : Nat} {P : am_PT} (hPl : am_Pl 94 N P) (hd : 6 ≤ d) {I : am_IT} {r : Int32} {I2 : am_IT} (hF : F_X3_firstSwap_43 I = some (r, I2)) : am_C l d 0 0 mX3_firstSwap [.ref 43] N P I (am_qi r N P I2) := by
  refine am_body (sc := am_sc0) (n := 2) (by decide +kernel) (by decide) rfl ?_
  change G am_sc0 l d 0 0 mX3_firstSwap (am_qi r N P I2) 0 [.ref 43, .null, .null] [] N P I 0 0
  unfold F_X3_firstSwap_43 at hF
  refine g_aload_n (pc := 0) dX3_firstSwap_0 rfl rfl ?_
  refine g_getR (pc := 1) (k := 43) (r := 23) kf_X3_25.r rfl rfl (hPl.get (by decide) rfl) (hPl.lt (by decide)) dX3_firstSwap_1 ?_
  obtain ⟨I_2, h_1, hF⟩ := am_b1_el hF
  refine g_cVv (pc := 4) (k := 23) (As := []) (st := []) ky_X8_measure kl_X3_29 (s_X8_measure_23 (d := 2) (hPl) (Nat.le_refl _) h_1) rfl rfl rfl (hPl.lt (by decide)) (Nat.le_trans (by decide) hd) (Nat.le_of_ble_eq_true rfl) (Nat.le_refl _) (Nat.le_refl _) dX3_firstSwap_4 ?_
  refine g_iconst (pc := 7) (v := (0 : Int32)) dX3_firstSwap_7 rfl ?_
  refine n_istore_n (pc := 8) (ls2 := [.ref 43, .int (0 : Int32), .null]) rfl rfl dX3_firstSwap_8 rfl (Nat.le_of_ble_eq_true rfl) ?_
  obtain ⟨x_34, hL_8, hF⟩ := am_lr_el hF
  have hX_5 : ∀ (u_4 : Int32), x_34 = .inl u_4 → G am_sc0 l d 0 0 mX3_firstSwap (am_qi r N P I2) 72 [.ref 43, .null, .null] [] N P I_2 0 0 := by
    intro u_4 q
    subst q
    refine g_iconst (pc := 72) (v := (-1 : Int32)) dX3_firstSwap_72 (by decide) ?_
    cases hF
    exact g_iret (pc := 73) rfl (Nat.le_refl _) (Nat.le_refl _) dX3_firstSwap_73 ⟨rfl, rfl, rfl, rfl⟩
  have hZ_9 : ∀ y, x_34 = .inr y → y = _ := fun y q => by subst q; exact hF
  clear hF
  have hC := am_loop (C := fun x => G am_sc0 l d 0 0 mX3_firstSwap (am_qi r N P I2) 9 [.ref 43, .int x, .null] [] N P I_2 0 0) (by
    intro l1_3 rr hF ih_6 hE_7
    refine g_iload_n (pc := 9) dX3_firstSwap_9 rfl rfl ?_
    refine g_aload_n (pc := 10) dX3_firstSwap_10 rfl rfl ?_
    refine g_getR (pc := 11) (k := 43) (r := 1) kf_X3_21.r rfl rfl (hPl.get (by decide) rfl) (hPl.lt (by decide)) dX3_firstSwap_11 ?_
    refine g_getI (pc := 14) (k := 1) kf_X3_34.r rfl rfl (hPl.lt (by decide)) dX3_firstSwap_14 ?_
    refine g_icmp_ge (pc := 17) (tgt := 72) dX3_firstSwap_17 rfl (fun c_10 => ?_) (fun c_10 => ?_)
    · replace hF := am_yes c_10 hF
      cases hF
      exact g_weak (hX_5 _ (hE_7 _ rfl).symm) ⟨Or.inr rfl, Or.inl rfl, Or.inl rfl, trivial⟩
    · replace hF := am_no c_10 hF
      refine g_iload_n (pc := 20) dX3_firstSwap_20 rfl rfl ?_
      refine g_iconst (pc := 21) (v := (1 : Int32)) dX3_firstSwap_21 rfl ?_
      refine g_iadd (pc := 22) dX3_firstSwap_22 ?_
      obtain ⟨l2_11, e_l2_11, hF⟩ := am_let_el hF
      refine n_istore_n (pc := 23) (ls2 := [.ref 43, .int l1_3, .int l2_11]) e_l2_11 rfl dX3_firstSwap_23 rfl (Nat.le_of_ble_eq_true rfl) ?_
      obtain ⟨x_33, hL_17, hF⟩ := am_lr_el hF
      have hX_14 : ∀ (u_13 : Int32), x_33 = .inl u_13 → G am_sc0 l d 0 0 mX3_firstSwap (am_qi r N P I2) 66 [.ref 43, .int l1_3, .null] [] N P I_2 0 0 := by
        intro u_13 q
        subst q
        obtain ⟨l1_32, e_l1_32, hF⟩ := am_let_el hF
        refine n_iinc (pc := 66) (ls2 := [.ref 43, .int l1_32, .null]) e_l1_32 rfl rfl rfl dX3_firstSwap_66 (Nat.le_of_ble_eq_true rfl) ?_
        refine g_goto (pc := 69) (tgt := 9) dX3_firstSwap_69 rfl ?_
        cases hF
        exact ih_6 (l1_32) rfl
      have hZ_18 : ∀ y, x_33 = .inr y → y = _ := fun y q => by subst q; exact hF
      clear hF
      have hC := am_loop (C := fun x => G am_sc0 l d 0 0 mX3_firstSwap (am_qi r N P I2) 24 [.ref 43, .int l1_3, .int x] [] N P I_2 0 0) (by
        intro l2_12 rr hF ih_15 hE_16
        refine g_iload_n (pc := 24) dX3_firstSwap_24 rfl rfl ?_
        refine g_aload_n (pc := 25) dX3_firstSwap_25 rfl rfl ?_
        refine g_getR (pc := 26) (k := 43) (r := 1) kf_X3_21.r rfl rfl (hPl.get (by decide) rfl) (hPl.lt (by decide)) dX3_firstSwap_26 ?_
        refine g_getI (pc := 29) (k := 1) kf_X3_34.r rfl rfl (hPl.lt (by decide)) dX3_firstSwap_29 ?_
        refine g_icmp_ge (pc := 32) (tgt := 66) dX3_firstSwap_32 rfl (fun c_19 => ?_) (fun c_19 => ?_)
        · replace hF := am_yes c_19 hF
          cases hF
          exact g_weak (hX_14 _ (hE_16 _ rfl).symm) ⟨Or.inr rfl, Or.inr rfl, Or.inl rfl, trivial⟩
        · replace hF := am_no c_19 hF
          refine g_aload_n (pc := 35) dX3_firstSwap_35 rfl rfl ?_
          refine g_iload_n (pc := 36) dX3_firstSwap_36 rfl rfl ?_
          refine g_iload_n (pc := 37) dX3_firstSwap_37 rfl rfl ?_
          obtain ⟨r_21, h_20, hF⟩ := am_b1_el hF
          refine g_cVz (pc := 38) (k := 43) (As := [.int l1_3, .int l2_12]) (st := []) ky_X3_likesHouseOf kl_X3_55 (s_X3_likesHouseOf_43 (d := 5) (hPl) (Nat.le_refl _) h_20) rfl rfl rfl (hPl.lt (by decide)) (Nat.le_trans (by decide) hd) (Nat.le_of_ble_eq_true rfl) (Nat.le_refl _) (Nat.le_refl _) dX3_firstSwap_38 ?_
          intro z_22
          refine g_if_eq (pc := 41) (tgt := 60) dX3_firstSwap_41 rfl (fun c_23 => ?_) (fun c_23 => ?_)
          · replace hF := am_yes c_23 hF
            obtain ⟨l2_24, e_l2_24, hF⟩ := am_let_el hF
            refine n_iinc (pc := 60) (ls2 := [.ref 43, .int l1_3, .int l2_24]) e_l2_24 rfl rfl rfl dX3_firstSwap_60 (Nat.le_of_ble_eq_true rfl) ?_
            refine g_goto (pc := 63) (tgt := 24) dX3_firstSwap_63 rfl ?_
            cases hF
            exact ih_15 (l2_24) rfl
          · replace hF := am_no c_23 hF
            refine g_aload_n (pc := 44) dX3_firstSwap_44 rfl rfl ?_
            refine g_iload_n (pc := 45) dX3_firstSwap_45 rfl rfl ?_
            refine g_iload_n (pc := 46) dX3_firstSwap_46 rfl rfl ?_
            obtain ⟨r_26, h_25, hF⟩ := am_b1_el hF
            refine g_cVz (pc := 47) (k := 43) (As := [.int l2_12, .int l1_3]) (st := []) ky_X3_likesHouseOf kl_X3_55 (s_X3_likesHouseOf_43 (d := 5) (hPl) (Nat.le_refl _) h_25) rfl rfl rfl (hPl.lt (by decide)) (Nat.le_trans (by decide) hd) (Nat.le_of_ble_eq_true rfl) (Nat.le_refl _) (Nat.le_refl _) dX3_firstSwap_47 ?_
            intro z_27
            refine g_if_eq (pc := 50) (tgt := 60) dX3_firstSwap_50 rfl (fun c_28 => ?_) (fun c_28 => ?_)
            · replace hF := am_yes c_28 hF
              obtain ⟨l2_29, e_l2_29, hF⟩ := am_let_el hF
              refine n_iinc (pc := 60) (ls2 := [.ref 43, .int l1_3, .int l2_29]) e_l2_29 rfl rfl rfl dX3_firstSwap_60 (Nat.le_of_ble_eq_true rfl) ?_
              refine g_goto (pc := 63) (tgt := 24) dX3_firstSwap_63 rfl ?_
              cases hF
              exact ih_15 (l2_29) rfl
            · replace hF := am_no c_28 hF
              refine g_bipush (pc := 53) (v := (10 : Int32)) dX3_firstSwap_53 rfl ?_
              refine g_iload_n (pc := 55) dX3_firstSwap_55 rfl rfl ?_
              refine g_imul (pc := 56) dX3_firstSwap_56 ?_
              refine g_iload_n (pc := 57) dX3_firstSwap_57 rfl rfl ?_
              refine g_iadd (pc := 58) dX3_firstSwap_58 ?_
              cases hF
              have q_30 := hZ_18 _ (hE_16 _ rfl).symm
              cases q_30
              have q_31 := hZ_9 _ (hE_7 _ rfl).symm
              cases q_31
              exact g_iret (pc := 59) rfl (Nat.le_refl _) (Nat.le_refl _) dX3_firstSwap_59 ⟨rfl, rfl, rfl, rfl⟩
        ) _ _ hL_17
      exact hC
    ) _ _ hL_8
  exact hC
def F_X11_swap_0 (I : am_IT) : Option (Int32 × am_IT) := am_b2 (F_X3_firstSwap_43 I) (fun (r_2 : Int32) (I_3 : am_IT) => some (r_2, I_3))
set_option maxRecDepth 100000 in
set_option maxHeartbeats 4000000 in
theorem s_X11_swap_0 {l : Launch} {d N : Nat} {P : am_PT} (hPl : am_Pl 94 N P) (hd : 7 ≤ d) {I : am_IT} {r : Int32} {I2 : am_IT} (hF : F_X11_swap_0 I = some (r, I2)) : am_C l d 0 0 mX11_swap [.ref 0] N P I (am_qi r N P I2) := by
  refine am_body (sc := am_sc0) (n := 0) (by decide +kernel) (by decide) rfl ?_
  change G am_sc0 l d 0 0 mX11_swap (am_qi r N P I2) 0 [.ref 0] [] N P I 0 0
  unfold F_X11_swap_0 at hF
  refine g_aload_n (pc := 0) dX11_swap_0 rfl rfl ?_
  refine g_getR (pc := 1) (k := 0) (r := 43) kf_X11_58.r rfl rfl (hPl.get (by decide) rfl) (hPl.lt (by decide)) dX11_swap_1 ?_
  obtain ⟨r_2, I_3, h_1, hF⟩ := am_b2_el hF
  refine g_cVi (pc := 4) (k := 43) (As := []) (st := []) ky_X3_firstSwap kl_X11_245 (s_X3_firstSwap_43 (d := 6) (hPl) (Nat.le_refl _) h_1) rfl rfl rfl (hPl.lt (by decide)) (Nat.le_trans (by decide) hd) (Nat.le_of_ble_eq_true rfl) (Nat.le_refl _) (Nat.le_refl _) dX11_swap_4 ?_
  cases hF
  exact g_iret (pc := 7) rfl (Nat.le_refl _) (Nat.le_refl _) dX11_swap_7 ⟨rfl, rfl, rfl, rfl⟩
def F_X1_add_15 (I : am_IT) (a1 : Int32) (a2 : Int32) (a3 : Int32) : Option (Int32 × am_IT) := if (I 15 0) < (40 : Int32) then (if am_ix ((((a1 * (4 : Int32)) + a2) * (4 : Int32)) + a3) 112 = true then (am_let (up2 I 16 ((((a1 * (4 : Int32)) + a2) * (4 : Int32)) + a3).toNatClampNeg (1 : Int32)) (fun (I_3 : am_IT) => am_let (up2 I_3 15 0 ((I_3 15 0) + (1 : Int32))) (fun (I_4 : am_IT) => some ((1 : Int32), I_4)))) else none) else (some ((0 : Int32), I))
set_option maxRecDepth 100000 in
set_option maxHeartbeats 4000000 in
theorem s_X1_add_15 {l : Launch} {d N : Nat} {P : am_PT} (hPl : am_Pl 94 N P) (hd : 1 ≤ d) {I : am_IT} {a1 : Int32} {a2 : Int32} {a3 : Int32} {r : Int32} {I2 : am_IT} (hF : F_X1_add_15 I a1 a2 a3 = some (r, I2)) : am_C l d 0 0 mX1_add [.ref 15, .int a1, .int a2, .int a3] N P I (am_qz r N P I2) := by
  refine am_body (sc := am_sc0) (n := 0) (by decide +kernel) (by decide) rfl ?_
  change G am_sc0 l d 0 0 mX1_add (am_qz r N P I2) 0 [.ref 15, .int a1, .int a2, .int a3] [] N P I 0 0
  unfold F_X1_add_15 at hF
  refine g_aload_n (pc := 0) dX1_add_0 rfl rfl ?_
  refine g_getI (pc := 1) (k := 15) kf_X1_9.r rfl rfl (hPl.lt (by decide)) dX1_add_1 ?_
  refine g_bipush (pc := 4) (v := (40 : Int32)) dX1_add_4 rfl ?_
  refine g_icmp_lt (pc := 6) (tgt := 11) dX1_add_6 rfl (fun c_1 => ?_) (fun c_1 => ?_)
  · replace hF := am_yes c_1 hF
    refine g_aload_n (pc := 11) dX1_add_11 rfl rfl ?_
    refine g_getR (pc := 12) (k := 15) (r := 16) kf_X1_15.r rfl rfl (hPl.get (by decide) rfl) (hPl.lt (by decide)) dX1_add_12 ?_
    refine g_iload_n (pc := 15) dX1_add_15 rfl rfl ?_
    refine g_iconst (pc := 16) (v := (4 : Int32)) dX1_add_16 rfl ?_
    refine g_imul (pc := 17) dX1_add_17 ?_
    refine g_iload_n (pc := 18) dX1_add_18 rfl rfl ?_
    refine g_iadd (pc := 19) dX1_add_19 ?_
    refine g_iconst (pc := 20) (v := (4 : Int32)) dX1_add_20 rfl ?_
    refine g_imul (pc := 21) dX1_add_21 ?_
    refine g_iload_n (pc := 22) dX1_add_22 rfl rfl ?_
    refine g_iadd (pc := 23) dX1_add_23 ?_
    refine g_iconst (pc := 24) (v := (1 : Int32)) dX1_add_24 rfl ?_
    obtain ⟨c_2, hF⟩ := am_gd hF
    obtain ⟨I_3, e_I_3, hF⟩ := am_let_el hF
    refine n_iast (pc := 25) (k := 16) e_I_3 rfl (hPl.lt (by decide)) (am_ix_use c_2) dX1_add_25 ?_
    refine g_aload_n (pc := 26) dX1_add_26 rfl rfl ?_
    refine g_dup (pc := 27) dX1_add_27 ?_
    refine g_getI (pc := 28) (k := 15) kf_X1_9.r rfl rfl (hPl.lt (by decide)) dX1_add_28 ?_
    refine g_iconst (pc := 31) (v := (1 : Int32)) dX1_add_31 rfl ?_
    refine g_iadd (pc := 32) dX1_add_32 ?_
    obtain ⟨I_4, e_I_4, hF⟩ := am_let_el hF
    refine n_putI (pc := 33) (k := 15) e_I_4 kf_X1_9 rfl rfl (hPl.lt (by decide)) dX1_add_33 ?_
    refine g_iconst (pc := 36) (v := (1 : Int32)) dX1_add_36 rfl ?_
    cases hF
    exact g_zret (pc := 37) rfl (Or.inr rfl) (Nat.le_refl _) (Nat.le_refl _) dX1_add_37 ⟨(Or.inr rfl), rfl, rfl, rfl, rfl⟩
  · replace hF := am_no c_1 hF
    refine g_iconst (pc := 9) (v := (0 : Int32)) dX1_add_9 rfl ?_
    cases hF
    exact g_zret (pc := 10) rfl (Or.inl rfl) (Nat.le_refl _) (Nat.le_refl _) dX1_add_10 ⟨(Or.inl rfl), rfl, rfl, rfl, rfl⟩
def F_X11_deed_0 (I : am_IT) (a1 : Int32) (a2 : Int32) (a3 : Int32) : Option (Int32 × am_IT) := am_b1 (F_X9_hasPerson_1 I a1) (fun (r_2 : Int32) => if r_2 = 0 then (some ((0 : Int32), I)) else (am_b1 (F_X9_hasColour_1 I a2) (fun (r_6 : Int32) => if r_6 = 0 then (some ((0 : Int32), I)) else (am_b1 (F_X9_hasColour_1 I a3) (fun (r_10 : Int32) => if r_10 = 0 then (some ((0 : Int32), I)) else (if a2 = a3 then (some ((0 : Int32), I)) else (am_b2 (F_X1_add_15 I a1 a2 a3) (fun (r_15 : Int32) (I_16 : am_IT) => some (r_15, I_16)))))))))
set_option maxRecDepth 100000 in
set_option maxHeartbeats 4000000 in
theorem s_X11_deed_0 {l : Launch} {d N : Nat} {P : am_PT} (hPl : am_Pl 94 N P) (hd : 2 ≤ d) {I : am_IT} {a1 : Int32} {a2 : Int32} {a3 : Int32} {r : Int32} {I2 : am_IT} (hF : F_X11_deed_0 I a1 a2 a3 = some (r, I2)) : am_C l d 0 0 mX11_deed [.ref 0, .int a1, .int a2, .int a3] N P I (am_qz r N P I2) := by
  refine am_body (sc := am_sc0) (n := 0) (by decide +kernel) (by decide) rfl ?_
  change G am_sc0 l d 0 0 mX11_deed (am_qz r N P I2) 0 [.ref 0, .int a1, .int a2, .int a3] [] N P I 0 0
  unfold F_X11_deed_0 at hF
  refine g_aload_n (pc := 0) dX11_deed_0 rfl rfl ?_
  refine g_getR (pc := 1) (k := 0) (r := 1) kf_X11_12.r rfl rfl (hPl.get (by decide) rfl) (hPl.lt (by decide)) dX11_deed_1 ?_
  refine g_iload_n (pc := 4) dX11_deed_4 rfl rfl ?_
  obtain ⟨r_2, h_1, hF⟩ := am_b1_el hF
  refine g_cVz (pc := 5) (k := 1) (As := [.int a1]) (st := []) ky_X9_hasPerson kl_X11_123 (s_X9_hasPerson_1 (d := 1) (hPl) (Nat.le_refl _) h_1) rfl rfl rfl (hPl.lt (by decide)) (Nat.le_trans (by decide) hd) (Nat.le_of_ble_eq_true rfl) (Nat.le_refl _) (Nat.le_refl _) dX11_deed_5 ?_
  intro z_3
  refine g_if_eq (pc := 8) (tgt := 38) dX11_deed_8 rfl (fun c_4 => ?_) (fun c_4 => ?_)
  · replace hF := am_yes c_4 hF
    refine g_iconst (pc := 38) (v := (0 : Int32)) dX11_deed_38 rfl ?_
    cases hF
    exact g_zret (pc := 39) rfl (Or.inl rfl) (Nat.le_refl _) (Nat.le_refl _) dX11_deed_39 ⟨(Or.inl rfl), rfl, rfl, rfl, rfl⟩
  · replace hF := am_no c_4 hF
    refine g_aload_n (pc := 11) dX11_deed_11 rfl rfl ?_
    refine g_getR (pc := 12) (k := 0) (r := 1) kf_X11_12.r rfl rfl (hPl.get (by decide) rfl) (hPl.lt (by decide)) dX11_deed_12 ?_
    refine g_iload_n (pc := 15) dX11_deed_15 rfl rfl ?_
    obtain ⟨r_6, h_5, hF⟩ := am_b1_el hF
    refine g_cVz (pc := 16) (k := 1) (As := [.int a2]) (st := []) ky_X9_hasColour kl_X11_93 (s_X9_hasColour_1 (d := 1) (hPl) (Nat.le_refl _) h_5) rfl rfl rfl (hPl.lt (by decide)) (Nat.le_trans (by decide) hd) (Nat.le_of_ble_eq_true rfl) (Nat.le_refl _) (Nat.le_refl _) dX11_deed_16 ?_
    intro z_7
    refine g_if_eq (pc := 19) (tgt := 38) dX11_deed_19 rfl (fun c_8 => ?_) (fun c_8 => ?_)
    · replace hF := am_yes c_8 hF
      refine g_iconst (pc := 38) (v := (0 : Int32)) dX11_deed_38 rfl ?_
      cases hF
      exact g_zret (pc := 39) rfl (Or.inl rfl) (Nat.le_refl _) (Nat.le_refl _) dX11_deed_39 ⟨(Or.inl rfl), rfl, rfl, rfl, rfl⟩
    · replace hF := am_no c_8 hF
      refine g_aload_n (pc := 22) dX11_deed_22 rfl rfl ?_
      refine g_getR (pc := 23) (k := 0) (r := 1) kf_X11_12.r rfl rfl (hPl.get (by decide) rfl) (hPl.lt (by decide)) dX11_deed_23 ?_
      refine g_iload_n (pc := 26) dX11_deed_26 rfl rfl ?_
      obtain ⟨r_10, h_9, hF⟩ := am_b1_el hF
      refine g_cVz (pc := 27) (k := 1) (As := [.int a3]) (st := []) ky_X9_hasColour kl_X11_93 (s_X9_hasColour_1 (d := 1) (hPl) (Nat.le_refl _) h_9) rfl rfl rfl (hPl.lt (by decide)) (Nat.le_trans (by decide) hd) (Nat.le_of_ble_eq_true rfl) (Nat.le_refl _) (Nat.le_refl _) dX11_deed_27 ?_
      intro z_11
      refine g_if_eq (pc := 30) (tgt := 38) dX11_deed_30 rfl (fun c_12 => ?_) (fun c_12 => ?_)
      · replace hF := am_yes c_12 hF
        refine g_iconst (pc := 38) (v := (0 : Int32)) dX11_deed_38 rfl ?_
        cases hF
        exact g_zret (pc := 39) rfl (Or.inl rfl) (Nat.le_refl _) (Nat.le_refl _) dX11_deed_39 ⟨(Or.inl rfl), rfl, rfl, rfl, rfl⟩
      · replace hF := am_no c_12 hF
        refine g_iload_n (pc := 33) dX11_deed_33 rfl rfl ?_
        refine g_iload_n (pc := 34) dX11_deed_34 rfl rfl ?_
        refine g_icmp_ne (pc := 35) (tgt := 40) dX11_deed_35 rfl (fun c_13 => ?_) (fun c_13 => ?_)
        · replace hF := am_no c_13 hF
          refine g_aload_n (pc := 40) dX11_deed_40 rfl rfl ?_
          refine g_getR (pc := 41) (k := 0) (r := 1) kf_X11_12.r rfl rfl (hPl.get (by decide) rfl) (hPl.lt (by decide)) dX11_deed_41 ?_
          refine g_getR (pc := 44) (k := 1) (r := 15) kf_X11_248 rfl rfl (hPl.get (by decide) rfl) (hPl.lt (by decide)) dX11_deed_44 ?_
          refine g_iload_n (pc := 47) dX11_deed_47 rfl rfl ?_
          refine g_iload_n (pc := 48) dX11_deed_48 rfl rfl ?_
          refine g_iload_n (pc := 49) dX11_deed_49 rfl rfl ?_
          obtain ⟨r_15, I_16, h_14, hF⟩ := am_b2_el hF
          refine g_cVz (pc := 50) (k := 15) (As := [.int a1, .int a2, .int a3]) (st := []) ky_X1_add kl_X11_252 (s_X1_add_15 (d := 1) (hPl) (Nat.le_refl _) h_14) rfl rfl rfl (hPl.lt (by decide)) (Nat.le_trans (by decide) hd) (Nat.le_of_ble_eq_true rfl) (Nat.le_refl _) (Nat.le_refl _) dX11_deed_50 ?_
          intro z_17
          cases hF
          exact g_zret (pc := 53) rfl z_17 (Nat.le_refl _) (Nat.le_refl _) dX11_deed_53 ⟨z_17, rfl, rfl, rfl, rfl⟩
        · replace hF := am_yes c_13 hF
          refine g_iconst (pc := 38) (v := (0 : Int32)) dX11_deed_38 rfl ?_
          cases hF
          exact g_zret (pc := 39) rfl (Or.inl rfl) (Nat.le_refl _) (Nat.le_refl _) dX11_deed_39 ⟨(Or.inl rfl), rfl, rfl, rfl, rfl⟩
def F_X1_isAbove_15 (I : am_IT) (a1 : Int32) (a2 : Int32) : Option (Int32) := if am_ix ((a1 * (4 : Int32)) + a2) 16 = true then (if (I 17 ((a1 * (4 : Int32)) + a2).toNatClampNeg) = (1 : Int32) then (some (1 : Int32)) else (some (0 : Int32))) else none
set_option maxRecDepth 100000 in
set_option maxHeartbeats 4000000 in
theorem s_X1_isAbove_15 {l : Launch} {d N : Nat} {P : am_PT} (hPl : am_Pl 94 N P) (hd : 1 ≤ d) {I : am_IT} {a1 : Int32} {a2 : Int32} {r : Int32} (hF : F_X1_isAbove_15 I a1 a2 = some (r)) : am_C l d 0 0 mX1_isAbove [.ref 15, .int a1, .int a2] N P I (am_qz r N P I) := by
  refine am_body (sc := am_sc0) (n := 0) (by decide +kernel) (by decide) rfl ?_
  change G am_sc0 l d 0 0 mX1_isAbove (am_qz r N P I) 0 [.ref 15, .int a1, .int a2] [] N P I 0 0
  unfold F_X1_isAbove_15 at hF
  refine g_aload_n (pc := 0) dX1_isAbove_0 rfl rfl ?_
  refine g_getR (pc := 1) (k := 15) (r := 17) kf_X1_19.r rfl rfl (hPl.get (by decide) rfl) (hPl.lt (by decide)) dX1_isAbove_1 ?_
  refine g_iload_n (pc := 4) dX1_isAbove_4 rfl rfl ?_
  refine g_iconst (pc := 5) (v := (4 : Int32)) dX1_isAbove_5 rfl ?_
  refine g_imul (pc := 6) dX1_isAbove_6 ?_
  refine g_iload_n (pc := 7) dX1_isAbove_7 rfl rfl ?_
  refine g_iadd (pc := 8) dX1_isAbove_8 ?_
  obtain ⟨c_1, hF⟩ := am_gd hF
  refine g_iald (pc := 9) (k := 17) rfl (hPl.lt (by decide)) (am_ix_use c_1) dX1_isAbove_9 ?_
  refine g_iconst (pc := 10) (v := (1 : Int32)) dX1_isAbove_10 rfl ?_
  refine g_icmp_ne (pc := 11) (tgt := 18) dX1_isAbove_11 rfl (fun c_2 => ?_) (fun c_2 => ?_)
  · replace hF := am_no c_2 hF
    refine g_iconst (pc := 18) (v := (0 : Int32)) dX1_isAbove_18 rfl ?_
    cases hF
    exact g_zret (pc := 19) rfl (Or.inl rfl) (Nat.le_refl _) (Nat.le_refl _) dX1_isAbove_19 ⟨(Or.inl rfl), rfl, rfl, rfl, rfl⟩
  · replace hF := am_yes c_2 hF
    refine g_iconst (pc := 14) (v := (1 : Int32)) dX1_isAbove_14 rfl ?_
    refine g_goto (pc := 15) (tgt := 19) dX1_isAbove_15 rfl ?_
    cases hF
    exact g_zret (pc := 19) rfl (Or.inr rfl) (Nat.le_refl _) (Nat.le_refl _) dX1_isAbove_19 ⟨(Or.inr rfl), rfl, rfl, rfl, rfl⟩
def F_X1_follow_15 (I : am_IT) (a1 : Int32) : Option (am_IT) := if am_cpok (a1 * (16 : Int32)) (0 : Int32) (16 : Int32) 112 16 = true then (am_let (cpy2 I 16 17 (a1 * (16 : Int32)).toNatClampNeg (0 : Int32).toNatClampNeg (16 : Int32).toNatClampNeg) (fun (I_2 : am_IT) => am_b1 (am_it am_fu (am_u2 (fun (l2_3 : Int32) (I_4 : am_IT) => if (4 : Int32) ≤ l2_3 then (some (.inr (I_4))) else (am_b1 (am_it am_fu (am_u2 (fun (l3_12 : Int32) (I_13 : am_IT) => if (4 : Int32) ≤ l3_12 then (some (.inr (I_13))) else (am_b1 (am_it am_fu (am_u2 (fun (l4_21 : Int32) (I_22 : am_IT) => if (4 : Int32) ≤ l4_21 then (some (.inr (I_22))) else (am_b1 (F_X1_isAbove_15 I_22 l3_12 l2_3) (fun (r_31 : Int32) => if r_31 = 0 then (am_let (l4_21 + (1 : Int32)) (fun (l4_34 : Int32) => some (.inl (l4_34, I_22)))) else (am_b1 (F_X1_isAbove_15 I_22 l2_3 l4_21) (fun (r_36 : Int32) => if r_36 = 0 then (am_let (l4_21 + (1 : Int32)) (fun (l4_39 : Int32) => some (.inl (l4_39, I_22)))) else (if am_ix ((l3_12 * (4 : Int32)) + l4_21) 16 = true then (am_let (up2 I_22 17 ((l3_12 * (4 : Int32)) + l4_21).toNatClampNeg (1 : Int32)) (fun (I_41 : am_IT) => am_let (l4_21 + (1 : Int32)) (fun (l4_42 : Int32) => some (.inl (l4_42, I_41))))) else none))))))) ((0 : Int32), I_13)) (fun (I_23 : am_IT) => am_let (l3_12 + (1 : Int32)) (fun (l3_43 : Int32) => some (.inl (l3_43, I_23))))))) ((0 : Int32), I_4)) (fun (I_14 : am_IT) => am_let (l2_3 + (1 : Int32)) (fun (l2_44 : Int32) => some (.inl (l2_44, I_14))))))) ((0 : Int32), I_2)) (fun (I_5 : am_IT) => some I_5))) else none
set_option maxRecDepth 100000 in
set_option maxHeartbeats 4000000 in
theorem s_X1_follow_15 {l : Launch} {d N : Nat} {P : am_PT} (hPl : am_Pl 94 N P) (hd : 2 ≤ d) {I : am_IT} {a1 : Int32} {I2 : am_IT} (hF : F_X1_follow_15 I a1 = some (I2)) : am_C l d 0 0 mX1_follow [.ref 15, .int a1] N P I (am_qv N P I2) := by
  refine am_body (sc := am_sc0) (n := 3) (by decide +kernel) (by decide) rfl ?_
  change G am_sc0 l d 0 0 mX1_follow (am_qv N P I2) 0 [.ref 15, .int a1, .null, .null, .null] [] N P I 0 0
  unfold F_X1_follow_15 at hF
  refine g_aload_n (pc := 0) dX1_follow_0 rfl rfl ?_
  refine g_getR (pc := 1) (k := 15) (r := 16) kf_X1_15.r rfl rfl (hPl.get (by decide) rfl) (hPl.lt (by decide)) dX1_follow_1 ?_
  refine g_iload_n (pc := 4) dX1_follow_4 rfl rfl ?_
  refine g_aload_n (pc := 5) dX1_follow_5 rfl rfl ?_
  refine g_getR (pc := 6) (k := 15) (r := 17) kf_X1_19.r rfl rfl (hPl.get (by decide) rfl) (hPl.lt (by decide)) dX1_follow_6 ?_
  refine g_alen (pc := 9) (k := 17) (v := 16) rfl (hPl.lt (by decide)) rfl dX1_follow_9 ?_
  refine g_imul (pc := 10) dX1_follow_10 ?_
  refine g_aload_n (pc := 11) dX1_follow_11 rfl rfl ?_
  refine g_getR (pc := 12) (k := 15) (r := 17) kf_X1_19.r rfl rfl (hPl.get (by decide) rfl) (hPl.lt (by decide)) dX1_follow_12 ?_
  refine g_iconst (pc := 15) (v := (0 : Int32)) dX1_follow_15 rfl ?_
  refine g_aload_n (pc := 16) dX1_follow_16 rfl rfl ?_
  refine g_getR (pc := 17) (k := 15) (r := 17) kf_X1_19.r rfl rfl (hPl.get (by decide) rfl) (hPl.lt (by decide)) dX1_follow_17 ?_
  refine g_alen (pc := 20) (k := 17) (v := 16) rfl (hPl.lt (by decide)) rfl dX1_follow_20 ?_
  obtain ⟨c_1, hF⟩ := am_gd hF
  obtain ⟨I_2, e_I_2, hF⟩ := am_let_el hF
  refine n_acopy (pc := 21) (a := 16) (b := 17) e_I_2 c_1 kl_X1_28 rfl rfl (hPl.lt (by decide)) (hPl.lt (by decide)) (Nat.le_trans (by decide) hd) (Nat.le_of_ble_eq_true rfl) dX1_follow_21 ?_
  refine g_iconst (pc := 24) (v := (0 : Int32)) dX1_follow_24 rfl ?_
  refine n_istore_n (pc := 25) (ls2 := [.ref 15, .int a1, .int (0 : Int32), .null, .null]) rfl rfl dX1_follow_25 rfl (Nat.le_of_ble_eq_true rfl) ?_
  obtain ⟨I_5, hL_9, hF⟩ := am_b1_el hF
  have hX_6 : G am_sc0 l d 0 0 mX1_follow (am_qv N P I2) 96 [.ref 15, .int a1, .null, .null, .null] [] N P I_5 0 0 := by
    cases hF
    exact g_vret (pc := 96) rfl (Nat.le_refl _) (Nat.le_refl _) dX1_follow_96 ⟨rfl, rfl, rfl, rfl⟩
  clear hF
  have hC := am_loop (C := fun x => G am_sc0 l d 0 0 mX1_follow (am_qv N P I2) 26 [.ref 15, .int a1, .int x.1, .null, .null] [] N P x.2 0 0) (by
    rintro ⟨l2_3, I_4⟩ rr hF ih_7 hE_8
    replace hF := am_u2_ap hF
    change G am_sc0 l d 0 0 mX1_follow (am_qv N P I2) 26 [.ref 15, .int a1, .int l2_3, .null, .null] [] N P I_4 0 0
    refine g_iload_n (pc := 26) dX1_follow_26 rfl rfl ?_
    refine g_iconst (pc := 27) (v := (4 : Int32)) dX1_follow_27 rfl ?_
    refine g_icmp_ge (pc := 28) (tgt := 96) dX1_follow_28 rfl (fun c_11 => ?_) (fun c_11 => ?_)
    · replace hF := am_yes c_11 hF
      cases hF
      cases hE_8 _ rfl
      exact g_weak hX_6 ⟨Or.inr rfl, Or.inr rfl, Or.inl rfl, Or.inl rfl, Or.inl rfl, trivial⟩
    · replace hF := am_no c_11 hF
      refine g_iconst (pc := 31) (v := (0 : Int32)) dX1_follow_31 rfl ?_
      refine n_istore_n (pc := 32) (ls2 := [.ref 15, .int a1, .int l2_3, .int (0 : Int32), .null]) rfl rfl dX1_follow_32 rfl (Nat.le_of_ble_eq_true rfl) ?_
      obtain ⟨I_14, hL_18, hF⟩ := am_b1_el hF
      have hX_15 : G am_sc0 l d 0 0 mX1_follow (am_qv N P I2) 90 [.ref 15, .int a1, .int l2_3, .null, .null] [] N P I_14 0 0 := by
        obtain ⟨l2_44, e_l2_44, hF⟩ := am_let_el hF
        refine n_iinc (pc := 90) (ls2 := [.ref 15, .int a1, .int l2_44, .null, .null]) e_l2_44 rfl rfl rfl dX1_follow_90 (Nat.le_of_ble_eq_true rfl) ?_
        refine g_goto (pc := 93) (tgt := 26) dX1_follow_93 rfl ?_
        cases hF
        exact ih_7 (l2_44, I_14) rfl
      clear hF
      have hC := am_loop (C := fun x => G am_sc0 l d 0 0 mX1_follow (am_qv N P I2) 33 [.ref 15, .int a1, .int l2_3, .int x.1, .null] [] N P x.2 0 0) (by
        rintro ⟨l3_12, I_13⟩ rr hF ih_16 hE_17
        replace hF := am_u2_ap hF
        change G am_sc0 l d 0 0 mX1_follow (am_qv N P I2) 33 [.ref 15, .int a1, .int l2_3, .int l3_12, .null] [] N P I_13 0 0
        refine g_iload_n (pc := 33) dX1_follow_33 rfl rfl ?_
        refine g_iconst (pc := 34) (v := (4 : Int32)) dX1_follow_34 rfl ?_
        refine g_icmp_ge (pc := 35) (tgt := 90) dX1_follow_35 rfl (fun c_20 => ?_) (fun c_20 => ?_)
        · replace hF := am_yes c_20 hF
          cases hF
          cases hE_17 _ rfl
          exact g_weak hX_15 ⟨Or.inr rfl, Or.inr rfl, Or.inr rfl, Or.inl rfl, Or.inl rfl, trivial⟩
        · replace hF := am_no c_20 hF
          refine g_iconst (pc := 38) (v := (0 : Int32)) dX1_follow_38 rfl ?_
          refine n_istore (pc := 39) (ls2 := [.ref 15, .int a1, .int l2_3, .int l3_12, .int (0 : Int32)]) rfl rfl dX1_follow_39 (Nat.le_of_ble_eq_true rfl) ?_
          obtain ⟨I_23, hL_27, hF⟩ := am_b1_el hF
          have hX_24 : G am_sc0 l d 0 0 mX1_follow (am_qv N P I2) 84 [.ref 15, .int a1, .int l2_3, .int l3_12, .null] [] N P I_23 0 0 := by
            obtain ⟨l3_43, e_l3_43, hF⟩ := am_let_el hF
            refine n_iinc (pc := 84) (ls2 := [.ref 15, .int a1, .int l2_3, .int l3_43, .null]) e_l3_43 rfl rfl rfl dX1_follow_84 (Nat.le_of_ble_eq_true rfl) ?_
            refine g_goto (pc := 87) (tgt := 33) dX1_follow_87 rfl ?_
            cases hF
            exact ih_16 (l3_43, I_23) rfl
          clear hF
          have hC := am_loop (C := fun x => G am_sc0 l d 0 0 mX1_follow (am_qv N P I2) 41 [.ref 15, .int a1, .int l2_3, .int l3_12, .int x.1] [] N P x.2 0 0) (by
            rintro ⟨l4_21, I_22⟩ rr hF ih_25 hE_26
            replace hF := am_u2_ap hF
            change G am_sc0 l d 0 0 mX1_follow (am_qv N P I2) 41 [.ref 15, .int a1, .int l2_3, .int l3_12, .int l4_21] [] N P I_22 0 0
            refine g_iload (pc := 41) dX1_follow_41 rfl ?_
            refine g_iconst (pc := 43) (v := (4 : Int32)) dX1_follow_43 rfl ?_
            refine g_icmp_ge (pc := 44) (tgt := 84) dX1_follow_44 rfl (fun c_29 => ?_) (fun c_29 => ?_)
            · replace hF := am_yes c_29 hF
              cases hF
              cases hE_26 _ rfl
              exact g_weak hX_24 ⟨Or.inr rfl, Or.inr rfl, Or.inr rfl, Or.inr rfl, Or.inl rfl, trivial⟩
            · replace hF := am_no c_29 hF
              refine g_aload_n (pc := 47) dX1_follow_47 rfl rfl ?_
              refine g_iload_n (pc := 48) dX1_follow_48 rfl rfl ?_
              refine g_iload_n (pc := 49) dX1_follow_49 rfl rfl ?_
              obtain ⟨r_31, h_30, hF⟩ := am_b1_el hF
              refine g_cVz (pc := 50) (k := 15) (As := [.int l3_12, .int l2_3]) (st := []) ky_X1_isAbove kl_X1_34 (s_X1_isAbove_15 (d := 1) (hPl) (Nat.le_refl _) h_30) rfl rfl rfl (hPl.lt (by decide)) (Nat.le_trans (by decide) hd) (Nat.le_of_ble_eq_true rfl) (Nat.le_refl _) (Nat.le_refl _) dX1_follow_50 ?_
              intro z_32
              refine g_if_eq (pc := 53) (tgt := 78) dX1_follow_53 rfl (fun c_33 => ?_) (fun c_33 => ?_)
              · replace hF := am_yes c_33 hF
                obtain ⟨l4_34, e_l4_34, hF⟩ := am_let_el hF
                refine n_iinc (pc := 78) (ls2 := [.ref 15, .int a1, .int l2_3, .int l3_12, .int l4_34]) e_l4_34 rfl rfl rfl dX1_follow_78 (Nat.le_of_ble_eq_true rfl) ?_
                refine g_goto (pc := 81) (tgt := 41) dX1_follow_81 rfl ?_
                cases hF
                exact ih_25 (l4_34, I_22) rfl
              · replace hF := am_no c_33 hF
                refine g_aload_n (pc := 56) dX1_follow_56 rfl rfl ?_
                refine g_iload_n (pc := 57) dX1_follow_57 rfl rfl ?_
                refine g_iload (pc := 58) dX1_follow_58 rfl ?_
                obtain ⟨r_36, h_35, hF⟩ := am_b1_el hF
                refine g_cVz (pc := 60) (k := 15) (As := [.int l2_3, .int l4_21]) (st := []) ky_X1_isAbove kl_X1_34 (s_X1_isAbove_15 (d := 1) (hPl) (Nat.le_refl _) h_35) rfl rfl rfl (hPl.lt (by decide)) (Nat.le_trans (by decide) hd) (Nat.le_of_ble_eq_true rfl) (Nat.le_refl _) (Nat.le_refl _) dX1_follow_60 ?_
                intro z_37
                refine g_if_eq (pc := 63) (tgt := 78) dX1_follow_63 rfl (fun c_38 => ?_) (fun c_38 => ?_)
                · replace hF := am_yes c_38 hF
                  obtain ⟨l4_39, e_l4_39, hF⟩ := am_let_el hF
                  refine n_iinc (pc := 78) (ls2 := [.ref 15, .int a1, .int l2_3, .int l3_12, .int l4_39]) e_l4_39 rfl rfl rfl dX1_follow_78 (Nat.le_of_ble_eq_true rfl) ?_
                  refine g_goto (pc := 81) (tgt := 41) dX1_follow_81 rfl ?_
                  cases hF
                  exact ih_25 (l4_39, I_22) rfl
                · replace hF := am_no c_38 hF
                  refine g_aload_n (pc := 66) dX1_follow_66 rfl rfl ?_
                  refine g_getR (pc := 67) (k := 15) (r := 17) kf_X1_19.r rfl rfl (hPl.get (by decide) rfl) (hPl.lt (by decide)) dX1_follow_67 ?_
                  refine g_iload_n (pc := 70) dX1_follow_70 rfl rfl ?_
                  refine g_iconst (pc := 71) (v := (4 : Int32)) dX1_follow_71 rfl ?_
                  refine g_imul (pc := 72) dX1_follow_72 ?_
                  refine g_iload (pc := 73) dX1_follow_73 rfl ?_
                  refine g_iadd (pc := 75) dX1_follow_75 ?_
                  refine g_iconst (pc := 76) (v := (1 : Int32)) dX1_follow_76 rfl ?_
                  obtain ⟨c_40, hF⟩ := am_gd hF
                  obtain ⟨I_41, e_I_41, hF⟩ := am_let_el hF
                  refine n_iast (pc := 77) (k := 17) e_I_41 rfl (hPl.lt (by decide)) (am_ix_use c_40) dX1_follow_77 ?_
                  obtain ⟨l4_42, e_l4_42, hF⟩ := am_let_el hF
                  refine n_iinc (pc := 78) (ls2 := [.ref 15, .int a1, .int l2_3, .int l3_12, .int l4_42]) e_l4_42 rfl rfl rfl dX1_follow_78 (Nat.le_of_ble_eq_true rfl) ?_
                  refine g_goto (pc := 81) (tgt := 41) dX1_follow_81 rfl ?_
                  cases hF
                  exact ih_25 (l4_42, I_41) rfl
            ) _ _ hL_27
          exact hC
        ) _ _ hL_18
      exact hC
    ) _ _ hL_9
  exact hC
def F_X1_isTorn_15 (I : am_IT) : Option (Int32) := am_lr (am_it am_fu (fun (l1_1 : Int32) => if (4 : Int32) ≤ l1_1 then (some (.inr (.inl ((0 : Int32))))) else (am_b1 (F_X1_isAbove_15 I l1_1 l1_1) (fun (r_10 : Int32) => if r_10 = 0 then (am_let (l1_1 + (1 : Int32)) (fun (l1_13 : Int32) => some (.inl (l1_13)))) else (some (.inr (.inr (1 : Int32))))))) (0 : Int32)) (fun (u_2 : Int32) => some (0 : Int32))
set_option maxRecDepth 100000 in
set_option maxHeartbeats 4000000 in
theorem s_X1_isTorn_15 {l : Launch} {d N : Nat} {P : am_PT} (hPl : am_Pl 94 N P) (hd : 2 ≤ d) {I : am_IT} {r : Int32} (hF : F_X1_isTorn_15 I = some (r)) : am_C l d 0 0 mX1_isTorn [.ref 15] N P I (am_qz r N P I) := by
  refine am_body (sc := am_sc0) (n := 1) (by decide +kernel) (by decide) rfl ?_
  change G am_sc0 l d 0 0 mX1_isTorn (am_qz r N P I) 0 [.ref 15, .null] [] N P I 0 0
  unfold F_X1_isTorn_15 at hF
  refine g_iconst (pc := 0) (v := (0 : Int32)) dX1_isTorn_0 rfl ?_
  refine n_istore_n (pc := 1) (ls2 := [.ref 15, .int (0 : Int32)]) rfl rfl dX1_isTorn_1 rfl (Nat.le_of_ble_eq_true rfl) ?_
  obtain ⟨x_15, hL_6, hF⟩ := am_lr_el hF
  have hX_3 : ∀ (u_2 : Int32), x_15 = .inl u_2 → G am_sc0 l d 0 0 mX1_isTorn (am_qz r N P I) 24 [.ref 15, .null] [] N P I 0 0 := by
    intro u_2 q
    subst q
    refine g_iconst (pc := 24) (v := (0 : Int32)) dX1_isTorn_24 rfl ?_
    cases hF
    exact g_zret (pc := 25) rfl (Or.inl rfl) (Nat.le_refl _) (Nat.le_refl _) dX1_isTorn_25 ⟨(Or.inl rfl), rfl, rfl, rfl, rfl⟩
  have hZ_7 : ∀ y, x_15 = .inr y → y = _ := fun y q => by subst q; exact hF
  clear hF
  have hC := am_loop (C := fun x => G am_sc0 l d 0 0 mX1_isTorn (am_qz r N P I) 2 [.ref 15, .int x] [] N P I 0 0) (by
    intro l1_1 rr hF ih_4 hE_5
    refine g_iload_n (pc := 2) dX1_isTorn_2 rfl rfl ?_
    refine g_iconst (pc := 3) (v := (4 : Int32)) dX1_isTorn_3 rfl ?_
    refine g_icmp_ge (pc := 4) (tgt := 24) dX1_isTorn_4 rfl (fun c_8 => ?_) (fun c_8 => ?_)
    · replace hF := am_yes c_8 hF
      cases hF
      exact g_weak (hX_3 _ (hE_5 _ rfl).symm) ⟨Or.inr rfl, Or.inl rfl, trivial⟩
    · replace hF := am_no c_8 hF
      refine g_aload_n (pc := 7) dX1_isTorn_7 rfl rfl ?_
      refine g_iload_n (pc := 8) dX1_isTorn_8 rfl rfl ?_
      refine g_iload_n (pc := 9) dX1_isTorn_9 rfl rfl ?_
      obtain ⟨r_10, h_9, hF⟩ := am_b1_el hF
      refine g_cVz (pc := 10) (k := 15) (As := [.int l1_1, .int l1_1]) (st := []) ky_X1_isAbove kl_X1_34 (s_X1_isAbove_15 (d := 1) (hPl) (Nat.le_refl _) h_9) rfl rfl rfl (hPl.lt (by decide)) (Nat.le_trans (by decide) hd) (Nat.le_of_ble_eq_true rfl) (Nat.le_refl _) (Nat.le_refl _) dX1_isTorn_10 ?_
      intro z_11
      refine g_if_eq (pc := 13) (tgt := 18) dX1_isTorn_13 rfl (fun c_12 => ?_) (fun c_12 => ?_)
      · replace hF := am_yes c_12 hF
        obtain ⟨l1_13, e_l1_13, hF⟩ := am_let_el hF
        refine n_iinc (pc := 18) (ls2 := [.ref 15, .int l1_13]) e_l1_13 rfl rfl rfl dX1_isTorn_18 (Nat.le_of_ble_eq_true rfl) ?_
        refine g_goto (pc := 21) (tgt := 2) dX1_isTorn_21 rfl ?_
        cases hF
        exact ih_4 (l1_13) rfl
      · replace hF := am_no c_12 hF
        refine g_iconst (pc := 16) (v := (1 : Int32)) dX1_isTorn_16 rfl ?_
        cases hF
        have q_14 := hZ_7 _ (hE_5 _ rfl).symm
        cases q_14
        exact g_zret (pc := 17) rfl (Or.inr rfl) (Nat.le_refl _) (Nat.le_refl _) dX1_isTorn_17 ⟨(Or.inr rfl), rfl, rfl, rfl, rfl⟩
    ) _ _ hL_6
  exact hC
def F_X11_must_0 (I : am_IT) (a1 : Int32) (a2 : Int32) (a3 : Int32) : Option (Int32 × am_IT) := am_b1 (F_X9_hasPerson_1 I a1) (fun (r_2 : Int32) => if r_2 = 0 then (some ((-1 : Int32), I)) else (am_b1 (F_X9_hasColour_1 I a2) (fun (r_6 : Int32) => if r_6 = 0 then (some ((-1 : Int32), I)) else (am_b1 (F_X9_hasColour_1 I a3) (fun (r_10 : Int32) => if r_10 = 0 then (some ((-1 : Int32), I)) else (am_b1 (F_X1_follow_15 I a1) (fun (I_14 : am_IT) => am_b1 (if a2 = a3 then (am_b1 (F_X1_isTorn_15 I_14) (fun (r_23 : Int32) => some (r_23))) else (am_b1 (F_X1_isAbove_15 I_14 a2 a3) (fun (r_20 : Int32) => some (r_20)))) (fun (v_16 : Int32) => if v_16 = 0 then (some ((0 : Int32), I_14)) else (some ((1 : Int32), I_14))))))))))
set_option maxRecDepth 100000 in
set_option maxHeartbeats 4000000 in
theorem s_X11_must_0 {l : Launch} {d N : Nat} {P : am_PT} (hPl : am_Pl 94 N P) (hd : 3 ≤ d) {I : am_IT} {a1 : Int32} {a2 : Int32} {a3 : Int32} {r : Int32} {I2 : am_IT} (hF : F_X11_must_0 I a1 a2 a3 = some (r, I2)) : am_C l d 0 0 mX11_must [.ref 0, .int a1, .int a2, .int a3] N P I (am_qi r N P I2) := by
  refine am_body (sc := am_sc0) (n := 1) (by decide +kernel) (by decide) rfl ?_
  change G am_sc0 l d 0 0 mX11_must (am_qi r N P I2) 0 [.ref 0, .int a1, .int a2, .int a3, .null] [] N P I 0 0
  unfold F_X11_must_0 at hF
  refine g_aload_n (pc := 0) dX11_must_0 rfl rfl ?_
  refine g_getR (pc := 1) (k := 0) (r := 1) kf_X11_12.r rfl rfl (hPl.get (by decide) rfl) (hPl.lt (by decide)) dX11_must_1 ?_
  refine g_iload_n (pc := 4) dX11_must_4 rfl rfl ?_
  obtain ⟨r_2, h_1, hF⟩ := am_b1_el hF
  refine g_cVz (pc := 5) (k := 1) (As := [.int a1]) (st := []) ky_X9_hasPerson kl_X11_123 (s_X9_hasPerson_1 (d := 1) (hPl) (Nat.le_refl _) h_1) rfl rfl rfl (hPl.lt (by decide)) (Nat.le_trans (by decide) hd) (Nat.le_of_ble_eq_true rfl) (Nat.le_refl _) (Nat.le_refl _) dX11_must_5 ?_
  intro z_3
  refine g_if_eq (pc := 8) (tgt := 33) dX11_must_8 rfl (fun c_4 => ?_) (fun c_4 => ?_)
  · replace hF := am_yes c_4 hF
    refine g_iconst (pc := 33) (v := (-1 : Int32)) dX11_must_33 (by decide) ?_
    cases hF
    exact g_iret (pc := 34) rfl (Nat.le_refl _) (Nat.le_refl _) dX11_must_34 ⟨rfl, rfl, rfl, rfl⟩
  · replace hF := am_no c_4 hF
    refine g_aload_n (pc := 11) dX11_must_11 rfl rfl ?_
    refine g_getR (pc := 12) (k := 0) (r := 1) kf_X11_12.r rfl rfl (hPl.get (by decide) rfl) (hPl.lt (by decide)) dX11_must_12 ?_
    refine g_iload_n (pc := 15) dX11_must_15 rfl rfl ?_
    obtain ⟨r_6, h_5, hF⟩ := am_b1_el hF
    refine g_cVz (pc := 16) (k := 1) (As := [.int a2]) (st := []) ky_X9_hasColour kl_X11_93 (s_X9_hasColour_1 (d := 1) (hPl) (Nat.le_refl _) h_5) rfl rfl rfl (hPl.lt (by decide)) (Nat.le_trans (by decide) hd) (Nat.le_of_ble_eq_true rfl) (Nat.le_refl _) (Nat.le_refl _) dX11_must_16 ?_
    intro z_7
    refine g_if_eq (pc := 19) (tgt := 33) dX11_must_19 rfl (fun c_8 => ?_) (fun c_8 => ?_)
    · replace hF := am_yes c_8 hF
      refine g_iconst (pc := 33) (v := (-1 : Int32)) dX11_must_33 (by decide) ?_
      cases hF
      exact g_iret (pc := 34) rfl (Nat.le_refl _) (Nat.le_refl _) dX11_must_34 ⟨rfl, rfl, rfl, rfl⟩
    · replace hF := am_no c_8 hF
      refine g_aload_n (pc := 22) dX11_must_22 rfl rfl ?_
      refine g_getR (pc := 23) (k := 0) (r := 1) kf_X11_12.r rfl rfl (hPl.get (by decide) rfl) (hPl.lt (by decide)) dX11_must_23 ?_
      refine g_iload_n (pc := 26) dX11_must_26 rfl rfl ?_
      obtain ⟨r_10, h_9, hF⟩ := am_b1_el hF
      refine g_cVz (pc := 27) (k := 1) (As := [.int a3]) (st := []) ky_X9_hasColour kl_X11_93 (s_X9_hasColour_1 (d := 1) (hPl) (Nat.le_refl _) h_9) rfl rfl rfl (hPl.lt (by decide)) (Nat.le_trans (by decide) hd) (Nat.le_of_ble_eq_true rfl) (Nat.le_refl _) (Nat.le_refl _) dX11_must_27 ?_
      intro z_11
      refine g_if_ne (pc := 30) (tgt := 35) dX11_must_30 rfl (fun c_12 => ?_) (fun c_12 => ?_)
      · replace hF := am_no c_12 hF
        refine g_aload_n (pc := 35) dX11_must_35 rfl rfl ?_
        refine g_getR (pc := 36) (k := 0) (r := 1) kf_X11_12.r rfl rfl (hPl.get (by decide) rfl) (hPl.lt (by decide)) dX11_must_36 ?_
        refine g_getR (pc := 39) (k := 1) (r := 15) kf_X11_248 rfl rfl (hPl.get (by decide) rfl) (hPl.lt (by decide)) dX11_must_39 ?_
        refine g_iload_n (pc := 42) dX11_must_42 rfl rfl ?_
        obtain ⟨I_14, h_13, hF⟩ := am_b1_el hF
        refine g_cVv (pc := 43) (k := 15) (As := [.int a1]) (st := []) ky_X1_follow kl_X11_257 (s_X1_follow_15 (d := 2) (hPl) (Nat.le_refl _) h_13) rfl rfl rfl (hPl.lt (by decide)) (Nat.le_trans (by decide) hd) (Nat.le_of_ble_eq_true rfl) (Nat.le_refl _) (Nat.le_refl _) dX11_must_43 ?_
        refine g_iload_n (pc := 46) dX11_must_46 rfl rfl ?_
        refine g_iload_n (pc := 47) dX11_must_47 rfl rfl ?_
        obtain ⟨v_16, hR_17, hF⟩ := am_b1_el hF
        have hJ_18 : G am_sc0 l d 0 0 mX11_must (am_qi r N P I2) 76 [.ref 0, .int a1, .int a2, .int a3, .null] [.int v_16] N P I_14 0 0 := by
          refine n_istore (pc := 76) (ls2 := [.ref 0, .int a1, .int a2, .int a3, .int v_16]) rfl rfl dX11_must_76 (Nat.le_of_ble_eq_true rfl) ?_
          refine g_iload (pc := 78) dX11_must_78 rfl ?_
          refine g_if_eq (pc := 80) (tgt := 87) dX11_must_80 rfl (fun c_25 => ?_) (fun c_25 => ?_)
          · replace hF := am_yes c_25 hF
            refine g_iconst (pc := 87) (v := (0 : Int32)) dX11_must_87 rfl ?_
            cases hF
            exact g_iret (pc := 88) rfl (Nat.le_refl _) (Nat.le_refl _) dX11_must_88 ⟨rfl, rfl, rfl, rfl⟩
          · replace hF := am_no c_25 hF
            refine g_iconst (pc := 83) (v := (1 : Int32)) dX11_must_83 rfl ?_
            refine g_goto (pc := 84) (tgt := 88) dX11_must_84 rfl ?_
            cases hF
            exact g_iret (pc := 88) rfl (Nat.le_refl _) (Nat.le_refl _) dX11_must_88 ⟨rfl, rfl, rfl, rfl⟩
        clear hF
        have hF := hR_17
        clear hR_17
        refine g_icmp_ne (pc := 48) (tgt := 64) dX11_must_48 rfl (fun c_15 => ?_) (fun c_15 => ?_)
        · replace hF := am_no c_15 hF
          refine g_aload_n (pc := 64) dX11_must_64 rfl rfl ?_
          refine g_getR (pc := 65) (k := 0) (r := 1) kf_X11_12.r rfl rfl (hPl.get (by decide) rfl) (hPl.lt (by decide)) dX11_must_65 ?_
          refine g_getR (pc := 68) (k := 1) (r := 15) kf_X11_248 rfl rfl (hPl.get (by decide) rfl) (hPl.lt (by decide)) dX11_must_68 ?_
          refine g_iload_n (pc := 71) dX11_must_71 rfl rfl ?_
          refine g_iload_n (pc := 72) dX11_must_72 rfl rfl ?_
          obtain ⟨r_20, h_19, hF⟩ := am_b1_el hF
          refine g_cVz (pc := 73) (k := 15) (As := [.int a2, .int a3]) (st := []) ky_X1_isAbove kl_X11_264 (s_X1_isAbove_15 (d := 1) (hPl) (Nat.le_refl _) h_19) rfl rfl rfl (hPl.lt (by decide)) (Nat.le_trans (by decide) hd) (Nat.le_of_ble_eq_true rfl) (Nat.le_refl _) (Nat.le_refl _) dX11_must_73 ?_
          intro z_21
          cases hF
          exact hJ_18
        · replace hF := am_yes c_15 hF
          refine g_aload_n (pc := 51) dX11_must_51 rfl rfl ?_
          refine g_getR (pc := 52) (k := 0) (r := 1) kf_X11_12.r rfl rfl (hPl.get (by decide) rfl) (hPl.lt (by decide)) dX11_must_52 ?_
          refine g_getR (pc := 55) (k := 1) (r := 15) kf_X11_248 rfl rfl (hPl.get (by decide) rfl) (hPl.lt (by decide)) dX11_must_55 ?_
          obtain ⟨r_23, h_22, hF⟩ := am_b1_el hF
          refine g_cVz (pc := 58) (k := 15) (As := []) (st := []) ky_X1_isTorn kl_X11_260 (s_X1_isTorn_15 (d := 2) (hPl) (Nat.le_refl _) h_22) rfl rfl rfl (hPl.lt (by decide)) (Nat.le_trans (by decide) hd) (Nat.le_of_ble_eq_true rfl) (Nat.le_refl _) (Nat.le_refl _) dX11_must_58 ?_
          intro z_24
          refine g_goto (pc := 61) (tgt := 76) dX11_must_61 rfl ?_
          cases hF
          exact hJ_18
      · replace hF := am_yes c_12 hF
        refine g_iconst (pc := 33) (v := (-1 : Int32)) dX11_must_33 (by decide) ?_
        cases hF
        exact g_iret (pc := 34) rfl (Nat.le_refl _) (Nat.le_refl _) dX11_must_34 ⟨rfl, rfl, rfl, rfl⟩
def F_X11_isPlace (I : am_IT) (a1 : Int32) : Option (Int32) := am_b1 (F_X11_isWithin I a1 (0 : Int32) (8 : Int32)) (fun (r_2 : Int32) => some r_2)
set_option maxRecDepth 100000 in
set_option maxHeartbeats 4000000 in
theorem s_X11_isPlace {l : Launch} {d N : Nat} {P : am_PT} (hPl : am_Pl 94 N P) (hd : 2 ≤ d) {I : am_IT} {a1 : Int32} {r : Int32} (hF : F_X11_isPlace I a1 = some (r)) : am_C l d 0 0 mX11_isPlace [.int a1] N P I (am_qz r N P I) := by
  refine am_body (sc := am_sc0) (n := 0) (by decide +kernel) (by decide) rfl ?_
  change G am_sc0 l d 0 0 mX11_isPlace (am_qz r N P I) 0 [.int a1] [] N P I 0 0
  unfold F_X11_isPlace at hF
  refine g_iload_n (pc := 0) dX11_isPlace_0 rfl rfl ?_
  refine g_iconst (pc := 1) (v := (0 : Int32)) dX11_isPlace_1 rfl ?_
  refine g_bipush (pc := 2) (v := (8 : Int32)) dX11_isPlace_2 rfl ?_
  obtain ⟨r_2, h_1, hF⟩ := am_b1_el hF
  refine g_cSz (pc := 4) (As := [.int a1, .int (0 : Int32), .int (8 : Int32)]) (st := []) ky_X11_isWithin kl_X11_97 (s_X11_isWithin (d := 1) (hPl) (Nat.le_refl _) h_1) rfl rfl (Nat.le_trans (by decide) hd) (Nat.le_of_ble_eq_true rfl) (Nat.le_refl _) (Nat.le_refl _) dX11_isPlace_4 ?_
  intro z_3
  cases hF
  exact g_zret (pc := 7) rfl z_3 (Nat.le_refl _) (Nat.le_refl _) dX11_isPlace_7 ⟨z_3, rfl, rfl, rfl, rfl⟩
def F_X11_looks_0 (I : am_IT) (a1 : Int32) (a2 : Int32) : Option (Int32 × am_IT) := am_b1 (F_X11_isPlace I a1) (fun (r_2 : Int32) => if r_2 = 0 then (some ((0 : Int32), I)) else (am_b1 (F_X11_isWithin I a2 (0 : Int32) (99 : Int32)) (fun (r_6 : Int32) => if r_6 = 0 then (some ((0 : Int32), I)) else (if am_ix a1 9 = true then (am_let (up2 I 19 a1.toNatClampNeg a2) (fun (I_10 : am_IT) => some ((1 : Int32), I_10))) else none))))
set_option maxRecDepth 100000 in
set_option maxHeartbeats 4000000 in
theorem s_X11_looks_0 {l : Launch} {d N : Nat} {P : am_PT} (hPl : am_Pl 94 N P) (hd : 3 ≤ d) {I : am_IT} {a1 : Int32} {a2 : Int32} {r : Int32} {I2 : am_IT} (hF : F_X11_looks_0 I a1 a2 = some (r, I2)) : am_C l d 0 0 mX11_looks [.ref 0, .int a1, .int a2] N P I (am_qz r N P I2) := by
  refine am_body (sc := am_sc0) (n := 0) (by decide +kernel) (by decide) rfl ?_
  change G am_sc0 l d 0 0 mX11_looks (am_qz r N P I2) 0 [.ref 0, .int a1, .int a2] [] N P I 0 0
  unfold F_X11_looks_0 at hF
  refine g_iload_n (pc := 0) dX11_looks_0 rfl rfl ?_
  obtain ⟨r_2, h_1, hF⟩ := am_b1_el hF
  refine g_cSz (pc := 1) (As := [.int a1]) (st := []) ky_X11_isPlace kl_X11_268 (s_X11_isPlace (d := 2) (hPl) (Nat.le_refl _) h_1) rfl rfl (Nat.le_trans (by decide) hd) (Nat.le_of_ble_eq_true rfl) (Nat.le_refl _) (Nat.le_refl _) dX11_looks_1 ?_
  intro z_3
  refine g_if_eq (pc := 4) (tgt := 17) dX11_looks_4 rfl (fun c_4 => ?_) (fun c_4 => ?_)
  · replace hF := am_yes c_4 hF
    refine g_iconst (pc := 17) (v := (0 : Int32)) dX11_looks_17 rfl ?_
    cases hF
    exact g_zret (pc := 18) rfl (Or.inl rfl) (Nat.le_refl _) (Nat.le_refl _) dX11_looks_18 ⟨(Or.inl rfl), rfl, rfl, rfl, rfl⟩
  · replace hF := am_no c_4 hF
    refine g_iload_n (pc := 7) dX11_looks_7 rfl rfl ?_
    refine g_iconst (pc := 8) (v := (0 : Int32)) dX11_looks_8 rfl ?_
    refine g_bipush (pc := 9) (v := (99 : Int32)) dX11_looks_9 rfl ?_
    obtain ⟨r_6, h_5, hF⟩ := am_b1_el hF
    refine g_cSz (pc := 11) (As := [.int a2, .int (0 : Int32), .int (99 : Int32)]) (st := []) ky_X11_isWithin kl_X11_97 (s_X11_isWithin (d := 1) (hPl) (Nat.le_refl _) h_5) rfl rfl (Nat.le_trans (by decide) hd) (Nat.le_of_ble_eq_true rfl) (Nat.le_refl _) (Nat.le_refl _) dX11_looks_11 ?_
    intro z_7
    refine g_if_ne (pc := 14) (tgt := 19) dX11_looks_14 rfl (fun c_8 => ?_) (fun c_8 => ?_)
    · replace hF := am_no c_8 hF
      refine g_aload_n (pc := 19) dX11_looks_19 rfl rfl ?_
      refine g_getR (pc := 20) (k := 0) (r := 1) kf_X11_12.r rfl rfl (hPl.get (by decide) rfl) (hPl.lt (by decide)) dX11_looks_20 ?_
      refine g_getR (pc := 23) (k := 1) (r := 18) kf_X11_271 rfl rfl (hPl.get (by decide) rfl) (hPl.lt (by decide)) dX11_looks_23 ?_
      refine g_getR (pc := 26) (k := 18) (r := 19) kf_X11_275 rfl rfl (hPl.get (by decide) rfl) (hPl.lt (by decide)) dX11_looks_26 ?_
      refine g_iload_n (pc := 29) dX11_looks_29 rfl rfl ?_
      refine g_iload_n (pc := 30) dX11_looks_30 rfl rfl ?_
      obtain ⟨c_9, hF⟩ := am_gd hF
      obtain ⟨I_10, e_I_10, hF⟩ := am_let_el hF
      refine n_iast (pc := 31) (k := 19) e_I_10 rfl (hPl.lt (by decide)) (am_ix_use c_9) dX11_looks_31 ?_
      refine g_iconst (pc := 32) (v := (1 : Int32)) dX11_looks_32 rfl ?_
      cases hF
      exact g_zret (pc := 33) rfl (Or.inr rfl) (Nat.le_refl _) (Nat.le_refl _) dX11_looks_33 ⟨(Or.inr rfl), rfl, rfl, rfl, rfl⟩
    · replace hF := am_yes c_8 hF
      refine g_iconst (pc := 17) (v := (0 : Int32)) dX11_looks_17 rfl ?_
      cases hF
      exact g_zret (pc := 18) rfl (Or.inl rfl) (Nat.le_refl _) (Nat.le_refl _) dX11_looks_18 ⟨(Or.inl rfl), rfl, rfl, rfl, rfl⟩
def F_X5_join_18 (I : am_IT) (a1 : Int32) (a2 : Int32) (a3 : Int32) : Option (am_IT) := if am_ix ((a1 * (9 : Int32)) + a2) 81 = true then (am_let (up2 I 20 ((a1 * (9 : Int32)) + a2).toNatClampNeg a3) (fun (I_2 : am_IT) => if am_ix ((a2 * (9 : Int32)) + a1) 81 = true then (am_let (up2 I_2 20 ((a2 * (9 : Int32)) + a1).toNatClampNeg a3) (fun (I_4 : am_IT) => some I_4)) else none)) else none
set_option maxRecDepth 100000 in
set_option maxHeartbeats 4000000 in
theorem s_X5_join_18 {l : Launch} {d N : Nat} {P : am_PT} (hPl : am_Pl 94 N P) (hd : 1 ≤ d) {I : am_IT} {a1 : Int32} {a2 : Int32} {a3 : Int32} {I2 : am_IT} (hF : F_X5_join_18 I a1 a2 a3 = some (I2)) : am_C l d 0 0 mX5_join [.ref 18, .int a1, .int a2, .int a3] N P I (am_qv N P I2) := by
  refine am_body (sc := am_sc0) (n := 0) (by decide +kernel) (by decide) rfl ?_
  change G am_sc0 l d 0 0 mX5_join (am_qv N P I2) 0 [.ref 18, .int a1, .int a2, .int a3] [] N P I 0 0
  unfold F_X5_join_18 at hF
  refine g_aload_n (pc := 0) dX5_join_0 rfl rfl ?_
  refine g_getR (pc := 1) (k := 18) (r := 20) kf_X5_15.r rfl rfl (hPl.get (by decide) rfl) (hPl.lt (by decide)) dX5_join_1 ?_
  refine g_iload_n (pc := 4) dX5_join_4 rfl rfl ?_
  refine g_bipush (pc := 5) (v := (9 : Int32)) dX5_join_5 rfl ?_
  refine g_imul (pc := 7) dX5_join_7 ?_
  refine g_iload_n (pc := 8) dX5_join_8 rfl rfl ?_
  refine g_iadd (pc := 9) dX5_join_9 ?_
  refine g_iload_n (pc := 10) dX5_join_10 rfl rfl ?_
  obtain ⟨c_1, hF⟩ := am_gd hF
  obtain ⟨I_2, e_I_2, hF⟩ := am_let_el hF
  refine n_iast (pc := 11) (k := 20) e_I_2 rfl (hPl.lt (by decide)) (am_ix_use c_1) dX5_join_11 ?_
  refine g_aload_n (pc := 12) dX5_join_12 rfl rfl ?_
  refine g_getR (pc := 13) (k := 18) (r := 20) kf_X5_15.r rfl rfl (hPl.get (by decide) rfl) (hPl.lt (by decide)) dX5_join_13 ?_
  refine g_iload_n (pc := 16) dX5_join_16 rfl rfl ?_
  refine g_bipush (pc := 17) (v := (9 : Int32)) dX5_join_17 rfl ?_
  refine g_imul (pc := 19) dX5_join_19 ?_
  refine g_iload_n (pc := 20) dX5_join_20 rfl rfl ?_
  refine g_iadd (pc := 21) dX5_join_21 ?_
  refine g_iload_n (pc := 22) dX5_join_22 rfl rfl ?_
  obtain ⟨c_3, hF⟩ := am_gd hF
  obtain ⟨I_4, e_I_4, hF⟩ := am_let_el hF
  refine n_iast (pc := 23) (k := 20) e_I_4 rfl (hPl.lt (by decide)) (am_ix_use c_3) dX5_join_23 ?_
  cases hF
  exact g_vret (pc := 24) rfl (Nat.le_refl _) (Nat.le_refl _) dX5_join_24 ⟨rfl, rfl, rfl, rfl⟩
def F_X11_link_0 (I : am_IT) (a1 : Int32) (a2 : Int32) (a3 : Int32) : Option (Int32 × am_IT) := am_b1 (F_X11_isPlace I a1) (fun (r_2 : Int32) => if r_2 = 0 then (some ((0 : Int32), I)) else (am_b1 (F_X11_isPlace I a2) (fun (r_6 : Int32) => if r_6 = 0 then (some ((0 : Int32), I)) else (if a1 = a2 then (some ((0 : Int32), I)) else (am_b1 (if a3 = 0 then (some ((0 : Int32))) else (some ((1 : Int32)))) (fun (v_11 : Int32) => am_b1 (F_X5_join_18 I a1 a2 v_11) (fun (I_15 : am_IT) => some ((1 : Int32), I_15))))))))
set_option maxRecDepth 100000 in
set_option maxHeartbeats 4000000 in
theorem s_X11_link_0 {l : Launch} {d N : Nat} {P : am_PT} (hPl : am_Pl 94 N P) (hd : 3 ≤ d) {I : am_IT} {a1 : Int32} {a2 : Int32} {a3 : Int32} {r : Int32} {I2 : am_IT} (hF : F_X11_link_0 I a1 a2 a3 = some (r, I2)) : am_C l d 0 0 mX11_link [.ref 0, .int a1, .int a2, .int a3] N P I (am_qz r N P I2) := by
  refine am_body (sc := am_sc0) (n := 0) (by decide +kernel) (by decide) rfl ?_
  change G am_sc0 l d 0 0 mX11_link (am_qz r N P I2) 0 [.ref 0, .int a1, .int a2, .int a3] [] N P I 0 0
  unfold F_X11_link_0 at hF
  refine g_iload_n (pc := 0) dX11_link_0 rfl rfl ?_
  obtain ⟨r_2, h_1, hF⟩ := am_b1_el hF
  refine g_cSz (pc := 1) (As := [.int a1]) (st := []) ky_X11_isPlace kl_X11_268 (s_X11_isPlace (d := 2) (hPl) (Nat.le_refl _) h_1) rfl rfl (Nat.le_trans (by decide) hd) (Nat.le_of_ble_eq_true rfl) (Nat.le_refl _) (Nat.le_refl _) dX11_link_1 ?_
  intro z_3
  refine g_if_eq (pc := 4) (tgt := 19) dX11_link_4 rfl (fun c_4 => ?_) (fun c_4 => ?_)
  · replace hF := am_yes c_4 hF
    refine g_iconst (pc := 19) (v := (0 : Int32)) dX11_link_19 rfl ?_
    cases hF
    exact g_zret (pc := 20) rfl (Or.inl rfl) (Nat.le_refl _) (Nat.le_refl _) dX11_link_20 ⟨(Or.inl rfl), rfl, rfl, rfl, rfl⟩
  · replace hF := am_no c_4 hF
    refine g_iload_n (pc := 7) dX11_link_7 rfl rfl ?_
    obtain ⟨r_6, h_5, hF⟩ := am_b1_el hF
    refine g_cSz (pc := 8) (As := [.int a2]) (st := []) ky_X11_isPlace kl_X11_268 (s_X11_isPlace (d := 2) (hPl) (Nat.le_refl _) h_5) rfl rfl (Nat.le_trans (by decide) hd) (Nat.le_of_ble_eq_true rfl) (Nat.le_refl _) (Nat.le_refl _) dX11_link_8 ?_
    intro z_7
    refine g_if_eq (pc := 11) (tgt := 19) dX11_link_11 rfl (fun c_8 => ?_) (fun c_8 => ?_)
    · replace hF := am_yes c_8 hF
      refine g_iconst (pc := 19) (v := (0 : Int32)) dX11_link_19 rfl ?_
      cases hF
      exact g_zret (pc := 20) rfl (Or.inl rfl) (Nat.le_refl _) (Nat.le_refl _) dX11_link_20 ⟨(Or.inl rfl), rfl, rfl, rfl, rfl⟩
    · replace hF := am_no c_8 hF
      refine g_iload_n (pc := 14) dX11_link_14 rfl rfl ?_
      refine g_iload_n (pc := 15) dX11_link_15 rfl rfl ?_
      refine g_icmp_ne (pc := 16) (tgt := 21) dX11_link_16 rfl (fun c_9 => ?_) (fun c_9 => ?_)
      · replace hF := am_no c_9 hF
        refine g_aload_n (pc := 21) dX11_link_21 rfl rfl ?_
        refine g_getR (pc := 22) (k := 0) (r := 1) kf_X11_12.r rfl rfl (hPl.get (by decide) rfl) (hPl.lt (by decide)) dX11_link_22 ?_
        refine g_getR (pc := 25) (k := 1) (r := 18) kf_X11_271 rfl rfl (hPl.get (by decide) rfl) (hPl.lt (by decide)) dX11_link_25 ?_
        refine g_iload_n (pc := 28) dX11_link_28 rfl rfl ?_
        refine g_iload_n (pc := 29) dX11_link_29 rfl rfl ?_
        refine g_iload_n (pc := 30) dX11_link_30 rfl rfl ?_
        obtain ⟨v_11, hR_12, hF⟩ := am_b1_el hF
        have hJ_13 : G am_sc0 l d 0 0 mX11_link (am_qz r N P I2) 39 [.ref 0, .int a1, .int a2, .int a3] [.int v_11, .int a2, .int a1, .ref 18] N P I 0 0 := by
          obtain ⟨I_15, h_14, hF⟩ := am_b1_el hF
          refine g_cVv (pc := 39) (k := 18) (As := [.int a1, .int a2, .int v_11]) (st := []) ky_X5_join kl_X11_280 (s_X5_join_18 (d := 1) (hPl) (Nat.le_refl _) h_14) rfl rfl rfl (hPl.lt (by decide)) (Nat.le_trans (by decide) hd) (Nat.le_of_ble_eq_true rfl) (Nat.le_refl _) (Nat.le_refl _) dX11_link_39 ?_
          refine g_iconst (pc := 42) (v := (1 : Int32)) dX11_link_42 rfl ?_
          cases hF
          exact g_zret (pc := 43) rfl (Or.inr rfl) (Nat.le_refl _) (Nat.le_refl _) dX11_link_43 ⟨(Or.inr rfl), rfl, rfl, rfl, rfl⟩
        clear hF
        have hF := hR_12
        clear hR_12
        refine g_if_eq (pc := 31) (tgt := 38) dX11_link_31 rfl (fun c_10 => ?_) (fun c_10 => ?_)
        · replace hF := am_yes c_10 hF
          refine g_iconst (pc := 38) (v := (0 : Int32)) dX11_link_38 rfl ?_
          cases hF
          exact hJ_13
        · replace hF := am_no c_10 hF
          refine g_iconst (pc := 34) (v := (1 : Int32)) dX11_link_34 rfl ?_
          refine g_goto (pc := 35) (tgt := 39) dX11_link_35 rfl ?_
          cases hF
          exact hJ_13
      · replace hF := am_yes c_9 hF
        refine g_iconst (pc := 19) (v := (0 : Int32)) dX11_link_19 rfl ?_
        cases hF
        exact g_zret (pc := 20) rfl (Or.inl rfl) (Nat.le_refl _) (Nat.le_refl _) dX11_link_20 ⟨(Or.inl rfl), rfl, rfl, rfl, rfl⟩
def F_X5_keepRoute_18 (I : am_IT) (a1 : Int32) (a2 : Int32) : Option (am_IT) := if a2 ≤ (I 18 6) then (some I) else (am_let (up2 I 18 6 a2) (fun (I_2 : am_IT) => am_let (up2 I_2 18 7 a1) (fun (I_3 : am_IT) => if am_cpok (0 : Int32) (0 : Int32) a1 9 9 = true then (am_let (cpy2 I_3 21 22 (0 : Int32).toNatClampNeg (0 : Int32).toNatClampNeg a1.toNatClampNeg) (fun (I_5 : am_IT) => some I_5)) else none)))
set_option maxRecDepth 100000 in
set_option maxHeartbeats 4000000 in
theorem s_X5_keepRoute_18 {l : Launch} {d N : Nat} {P : am_PT} (hPl : am_Pl 94 N P) (hd : 2 ≤ d) {I : am_IT} {a1 : Int32} {a2 : Int32} {I2 : am_IT} (hF : F_X5_keepRoute_18 I a1 a2 = some (I2)) : am_C l d 0 0 mX5_keepRoute [.ref 18, .int a1, .int a2] N P I (am_qv N P I2) := by
  refine am_body (sc := am_sc0) (n := 0) (by decide +kernel) (by decide) rfl ?_
  change G am_sc0 l d 0 0 mX5_keepRoute (am_qv N P I2) 0 [.ref 18, .int a1, .int a2] [] N P I 0 0
  unfold F_X5_keepRoute_18 at hF
  refine g_iload_n (pc := 0) dX5_keepRoute_0 rfl rfl ?_
  refine g_aload_n (pc := 1) dX5_keepRoute_1 rfl rfl ?_
  refine g_getI (pc := 2) (k := 18) kf_X5_31.r rfl rfl (hPl.lt (by decide)) dX5_keepRoute_2 ?_
  refine g_icmp_le (pc := 5) (tgt := 32) dX5_keepRoute_5 rfl (fun c_1 => ?_) (fun c_1 => ?_)
  · replace hF := am_yes c_1 hF
    cases hF
    exact g_vret (pc := 32) rfl (Nat.le_refl _) (Nat.le_refl _) dX5_keepRoute_32 ⟨rfl, rfl, rfl, rfl⟩
  · replace hF := am_no c_1 hF
    refine g_aload_n (pc := 8) dX5_keepRoute_8 rfl rfl ?_
    refine g_iload_n (pc := 9) dX5_keepRoute_9 rfl rfl ?_
    obtain ⟨I_2, e_I_2, hF⟩ := am_let_el hF
    refine n_putI (pc := 10) (k := 18) e_I_2 kf_X5_31 rfl rfl (hPl.lt (by decide)) dX5_keepRoute_10 ?_
    refine g_aload_n (pc := 13) dX5_keepRoute_13 rfl rfl ?_
    refine g_iload_n (pc := 14) dX5_keepRoute_14 rfl rfl ?_
    obtain ⟨I_3, e_I_3, hF⟩ := am_let_el hF
    refine n_putI (pc := 15) (k := 18) e_I_3 kf_X5_34 rfl rfl (hPl.lt (by decide)) dX5_keepRoute_15 ?_
    refine g_aload_n (pc := 18) dX5_keepRoute_18 rfl rfl ?_
    refine g_getR (pc := 19) (k := 18) (r := 21) kf_X5_18.r rfl rfl (hPl.get (by decide) rfl) (hPl.lt (by decide)) dX5_keepRoute_19 ?_
    refine g_iconst (pc := 22) (v := (0 : Int32)) dX5_keepRoute_22 rfl ?_
    refine g_aload_n (pc := 23) dX5_keepRoute_23 rfl rfl ?_
    refine g_getR (pc := 24) (k := 18) (r := 22) kf_X5_21.r rfl rfl (hPl.get (by decide) rfl) (hPl.lt (by decide)) dX5_keepRoute_24 ?_
    refine g_iconst (pc := 27) (v := (0 : Int32)) dX5_keepRoute_27 rfl ?_
    refine g_iload_n (pc := 28) dX5_keepRoute_28 rfl rfl ?_
    obtain ⟨c_4, hF⟩ := am_gd hF
    obtain ⟨I_5, e_I_5, hF⟩ := am_let_el hF
    refine n_acopy (pc := 29) (a := 21) (b := 22) e_I_5 c_4 kl_X5_43 rfl rfl (hPl.lt (by decide)) (hPl.lt (by decide)) (Nat.le_trans (by decide) hd) (Nat.le_of_ble_eq_true rfl) dX5_keepRoute_29 ?_
    cases hF
    exact g_vret (pc := 32) rfl (Nat.le_refl _) (Nat.le_refl _) dX5_keepRoute_32 ⟨rfl, rfl, rfl, rfl⟩
def B_X5_walk_18 (rec : am_IT → Int32 → Int32 → Int32 → Int32 → Option (am_IT)) (I : am_IT) (a1 : Int32) (a2 : Int32) (a3 : Int32) (a4 : Int32) : Option (am_IT) := if (I 18 5) ≤ a2 then (some I) else (if a2 < (9 : Int32) then (if am_ix a2 9 = true then (am_let (up2 I 21 a2.toNatClampNeg a1) (fun (I_4 : am_IT) => if am_ix a1 9 = true then (am_let (a3 + (I_4 19 a1.toNatClampNeg)) (fun (l5_6 : Int32) => if a1 = (I_4 18 4) then (am_b1 (F_X5_keepRoute_18 I_4 (a2 + (1 : Int32)) l5_6) (fun (I_27 : am_IT) => some I_27)) else (am_let (a4 ||| ((1 : Int32) <<< (a1 &&& 31))) (fun (l6_8 : Int32) => am_b1 (am_it am_fu (am_u2 (fun (l7_9 : Int32) (I_10 : am_IT) => if (9 : Int32) ≤ l7_9 then (some (.inr (I_10))) else (if am_ix ((a1 * (9 : Int32)) + l7_9) 81 = true then (if (I_10 20 ((a1 * (9 : Int32)) + l7_9).toNatClampNeg) = (1 : Int32) then (if ((l6_8 >>> (l7_9 &&& 31)) &&& (1 : Int32)) = 0 then (am_b1 (rec I_10 l7_9 (a2 + (1 : Int32)) l5_6 l6_8) (fun (I_24 : am_IT) => am_let (l7_9 + (1 : Int32)) (fun (l7_25 : Int32) => some (.inl (l7_25, I_24))))) else (am_let (l7_9 + (1 : Int32)) (fun (l7_22 : Int32) => some (.inl (l7_22, I_10))))) else (am_let (l7_9 + (1 : Int32)) (fun (l7_20 : Int32) => some (.inl (l7_20, I_10))))) else none))) ((0 : Int32), I_4)) (fun (I_11 : am_IT) => some I_11))))) else none)) else none) else (some I))
set_option maxRecDepth 100000 in
set_option maxHeartbeats 4000000 in
theorem sB_X5_walk_18 {l : Launch} {d D N : Nat} {P : am_PT} (hPl : am_Pl 94 N P) (hd : 3 ≤ d) (hD : D + 1 ≤ d) {rec : am_IT → Int32 → Int32 → Int32 → Int32 → Option (am_IT)} (hrec0 : ∀ {I : am_IT} {a1 : Int32} {a2 : Int32} {a3 : Int32} {a4 : Int32} {I2 : am_IT}, rec I a1 a2 a3 a4 = some (I2) → am_C l D 0 0 mX5_walk [.ref 18, .int a1, .int a2, .int a3, .int a4] N P I (am_qv N P I2)) {I : am_IT} {a1 : Int32} {a2 : Int32} {a3 : Int32} {a4 : Int32} {I2 : am_IT} (hF : B_X5_walk_18 rec I a1 a2 a3 a4 = some (I2)) : am_C l d 0 0 mX5_walk [.ref 18, .int a1, .int a2, .int a3, .int a4] N P I (am_qv N P I2) := by
  refine am_body (sc := am_sc0) (n := 3) (by decide +kernel) (by decide) rfl ?_
  change G am_sc0 l d 0 0 mX5_walk (am_qv N P I2) 0 [.ref 18, .int a1, .int a2, .int a3, .int a4, .null, .null, .null] [] N P I 0 0
  unfold B_X5_walk_18 at hF
  refine g_iload_n (pc := 0) dX5_walk_0 rfl rfl ?_
  refine g_aload_n (pc := 1) dX5_walk_1 rfl rfl ?_
  refine g_getI (pc := 2) (k := 18) kf_X5_28.r rfl rfl (hPl.lt (by decide)) dX5_walk_2 ?_
  refine g_icmp_ge (pc := 5) (tgt := 17) dX5_walk_5 rfl (fun c_1 => ?_) (fun c_1 => ?_)
  · replace hF := am_yes c_1 hF
    cases hF
    exact g_vret (pc := 17) rfl (Nat.le_refl _) (Nat.le_refl _) dX5_walk_17 ⟨rfl, rfl, rfl, rfl⟩
  · replace hF := am_no c_1 hF
    refine g_iload_n (pc := 8) dX5_walk_8 rfl rfl ?_
    refine g_aload_n (pc := 9) dX5_walk_9 rfl rfl ?_
    refine g_getR (pc := 10) (k := 18) (r := 21) kf_X5_18.r rfl rfl (hPl.get (by decide) rfl) (hPl.lt (by decide)) dX5_walk_10 ?_
    refine g_alen (pc := 13) (k := 21) (v := 9) rfl (hPl.lt (by decide)) rfl dX5_walk_13 ?_
    refine g_icmp_lt (pc := 14) (tgt := 18) dX5_walk_14 rfl (fun c_2 => ?_) (fun c_2 => ?_)
    · replace hF := am_yes c_2 hF
      refine g_aload_n (pc := 18) dX5_walk_18 rfl rfl ?_
      refine g_getR (pc := 19) (k := 18) (r := 21) kf_X5_18.r rfl rfl (hPl.get (by decide) rfl) (hPl.lt (by decide)) dX5_walk_19 ?_
      refine g_iload_n (pc := 22) dX5_walk_22 rfl rfl ?_
      refine g_iload_n (pc := 23) dX5_walk_23 rfl rfl ?_
      obtain ⟨c_3, hF⟩ := am_gd hF
      obtain ⟨I_4, e_I_4, hF⟩ := am_let_el hF
      refine n_iast (pc := 24) (k := 21) e_I_4 rfl (hPl.lt (by decide)) (am_ix_use c_3) dX5_walk_24 ?_
      refine g_iload_n (pc := 25) dX5_walk_25 rfl rfl ?_
      refine g_aload_n (pc := 26) dX5_walk_26 rfl rfl ?_
      refine g_getR (pc := 27) (k := 18) (r := 19) kf_X5_9.r rfl rfl (hPl.get (by decide) rfl) (hPl.lt (by decide)) dX5_walk_27 ?_
      refine g_iload_n (pc := 30) dX5_walk_30 rfl rfl ?_
      obtain ⟨c_5, hF⟩ := am_gd hF
      refine g_iald (pc := 31) (k := 19) rfl (hPl.lt (by decide)) (am_ix_use c_5) dX5_walk_31 ?_
      refine g_iadd (pc := 32) dX5_walk_32 ?_
      obtain ⟨l5_6, e_l5_6, hF⟩ := am_let_el hF
      refine n_istore (pc := 33) (ls2 := [.ref 18, .int a1, .int a2, .int a3, .int a4, .int l5_6, .null, .null]) e_l5_6 rfl dX5_walk_33 (Nat.le_of_ble_eq_true rfl) ?_
      refine g_iload_n (pc := 35) dX5_walk_35 rfl rfl ?_
      refine g_aload_n (pc := 36) dX5_walk_36 rfl rfl ?_
      refine g_getI (pc := 37) (k := 18) kf_X5_24.r rfl rfl (hPl.lt (by decide)) dX5_walk_37 ?_
      refine g_icmp_ne (pc := 40) (tgt := 53) dX5_walk_40 rfl (fun c_7 => ?_) (fun c_7 => ?_)
      · replace hF := am_no c_7 hF
        refine g_iload (pc := 53) dX5_walk_53 rfl ?_
        refine g_iconst (pc := 55) (v := (1 : Int32)) dX5_walk_55 rfl ?_
        refine g_iload_n (pc := 56) dX5_walk_56 rfl rfl ?_
        refine g_ishl (pc := 57) dX5_walk_57 ?_
        refine g_ior (pc := 58) dX5_walk_58 ?_
        obtain ⟨l6_8, e_l6_8, hF⟩ := am_let_el hF
        refine n_istore (pc := 59) (ls2 := [.ref 18, .int a1, .int a2, .int a3, .int a4, .int l5_6, .int l6_8, .null]) e_l6_8 rfl dX5_walk_59 (Nat.le_of_ble_eq_true rfl) ?_
        refine g_iconst (pc := 61) (v := (0 : Int32)) dX5_walk_61 rfl ?_
        refine n_istore (pc := 62) (ls2 := [.ref 18, .int a1, .int a2, .int a3, .int a4, .int l5_6, .int l6_8, .int (0 : Int32)]) rfl rfl dX5_walk_62 (Nat.le_of_ble_eq_true rfl) ?_
        obtain ⟨I_11, hL_15, hF⟩ := am_b1_el hF
        have hX_12 : G am_sc0 l d 0 0 mX5_walk (am_qv N P I2) 116 [.ref 18, .int a1, .int a2, .int a3, .int a4, .int l5_6, .int l6_8, .null] [] N P I_11 0 0 := by
          cases hF
          exact g_vret (pc := 116) rfl (Nat.le_refl _) (Nat.le_refl _) dX5_walk_116 ⟨rfl, rfl, rfl, rfl⟩
        clear hF
        have hC := am_loop (C := fun x => G am_sc0 l d 0 0 mX5_walk (am_qv N P I2) 64 [.ref 18, .int a1, .int a2, .int a3, .int a4, .int l5_6, .int l6_8, .int x.1] [] N P x.2 0 0) (by
          rintro ⟨l7_9, I_10⟩ rr hF ih_13 hE_14
          replace hF := am_u2_ap hF
          change G am_sc0 l d 0 0 mX5_walk (am_qv N P I2) 64 [.ref 18, .int a1, .int a2, .int a3, .int a4, .int l5_6, .int l6_8, .int l7_9] [] N P I_10 0 0
          refine g_iload (pc := 64) dX5_walk_64 rfl ?_
          refine g_bipush (pc := 66) (v := (9 : Int32)) dX5_walk_66 rfl ?_
          refine g_icmp_ge (pc := 68) (tgt := 116) dX5_walk_68 rfl (fun c_17 => ?_) (fun c_17 => ?_)
          · replace hF := am_yes c_17 hF
            cases hF
            cases hE_14 _ rfl
            exact g_weak hX_12 ⟨Or.inr rfl, Or.inr rfl, Or.inr rfl, Or.inr rfl, Or.inr rfl, Or.inr rfl, Or.inr rfl, Or.inl rfl, trivial⟩
          · replace hF := am_no c_17 hF
            refine g_aload_n (pc := 71) dX5_walk_71 rfl rfl ?_
            refine g_getR (pc := 72) (k := 18) (r := 20) kf_X5_15.r rfl rfl (hPl.get (by decide) rfl) (hPl.lt (by decide)) dX5_walk_72 ?_
            refine g_iload_n (pc := 75) dX5_walk_75 rfl rfl ?_
            refine g_bipush (pc := 76) (v := (9 : Int32)) dX5_walk_76 rfl ?_
            refine g_imul (pc := 78) dX5_walk_78 ?_
            refine g_iload (pc := 79) dX5_walk_79 rfl ?_
            refine g_iadd (pc := 81) dX5_walk_81 ?_
            obtain ⟨c_18, hF⟩ := am_gd hF
            refine g_iald (pc := 82) (k := 20) rfl (hPl.lt (by decide)) (am_ix_use c_18) dX5_walk_82 ?_
            refine g_iconst (pc := 83) (v := (1 : Int32)) dX5_walk_83 rfl ?_
            refine g_icmp_ne (pc := 84) (tgt := 110) dX5_walk_84 rfl (fun c_19 => ?_) (fun c_19 => ?_)
            · replace hF := am_no c_19 hF
              obtain ⟨l7_20, e_l7_20, hF⟩ := am_let_el hF
              refine n_iinc (pc := 110) (ls2 := [.ref 18, .int a1, .int a2, .int a3, .int a4, .int l5_6, .int l6_8, .int l7_20]) e_l7_20 rfl rfl rfl dX5_walk_110 (Nat.le_of_ble_eq_true rfl) ?_
              refine g_goto (pc := 113) (tgt := 64) dX5_walk_113 rfl ?_
              cases hF
              exact ih_13 (l7_20, I_10) rfl
            · replace hF := am_yes c_19 hF
              refine g_iload (pc := 87) dX5_walk_87 rfl ?_
              refine g_iload (pc := 89) dX5_walk_89 rfl ?_
              refine g_ishr (pc := 91) dX5_walk_91 ?_
              refine g_iconst (pc := 92) (v := (1 : Int32)) dX5_walk_92 rfl ?_
              refine g_iand (pc := 93) dX5_walk_93 ?_
              refine g_if_ne (pc := 94) (tgt := 110) dX5_walk_94 rfl (fun c_21 => ?_) (fun c_21 => ?_)
              · replace hF := am_no c_21 hF
                obtain ⟨l7_22, e_l7_22, hF⟩ := am_let_el hF
                refine n_iinc (pc := 110) (ls2 := [.ref 18, .int a1, .int a2, .int a3, .int a4, .int l5_6, .int l6_8, .int l7_22]) e_l7_22 rfl rfl rfl dX5_walk_110 (Nat.le_of_ble_eq_true rfl) ?_
                refine g_goto (pc := 113) (tgt := 64) dX5_walk_113 rfl ?_
                cases hF
                exact ih_13 (l7_22, I_10) rfl
              · replace hF := am_yes c_21 hF
                refine g_aload_n (pc := 97) dX5_walk_97 rfl rfl ?_
                refine g_iload (pc := 98) dX5_walk_98 rfl ?_
                refine g_iload_n (pc := 100) dX5_walk_100 rfl rfl ?_
                refine g_iconst (pc := 101) (v := (1 : Int32)) dX5_walk_101 rfl ?_
                refine g_iadd (pc := 102) dX5_walk_102 ?_
                refine g_iload (pc := 103) dX5_walk_103 rfl ?_
                refine g_iload (pc := 105) dX5_walk_105 rfl ?_
                obtain ⟨I_24, h_23, hF⟩ := am_b1_el hF
                refine g_cVv (pc := 107) (k := 18) (As := [.int l7_9, .int (a2 + (1 : Int32)), .int l5_6, .int l6_8]) (st := []) ky_X5_walk kl_X5_49 (hrec0 h_23) rfl rfl rfl (hPl.lt (by decide)) hD (Nat.le_of_ble_eq_true rfl) (Nat.le_refl _) (Nat.le_refl _) dX5_walk_107 ?_
                obtain ⟨l7_25, e_l7_25, hF⟩ := am_let_el hF
                refine n_iinc (pc := 110) (ls2 := [.ref 18, .int a1, .int a2, .int a3, .int a4, .int l5_6, .int l6_8, .int l7_25]) e_l7_25 rfl rfl rfl dX5_walk_110 (Nat.le_of_ble_eq_true rfl) ?_
                refine g_goto (pc := 113) (tgt := 64) dX5_walk_113 rfl ?_
                cases hF
                exact ih_13 (l7_25, I_24) rfl
          ) _ _ hL_15
        exact hC
      · replace hF := am_yes c_7 hF
        refine g_aload_n (pc := 43) dX5_walk_43 rfl rfl ?_
        refine g_iload_n (pc := 44) dX5_walk_44 rfl rfl ?_
        refine g_iconst (pc := 45) (v := (1 : Int32)) dX5_walk_45 rfl ?_
        refine g_iadd (pc := 46) dX5_walk_46 ?_
        refine g_iload (pc := 47) dX5_walk_47 rfl ?_
        obtain ⟨I_27, h_26, hF⟩ := am_b1_el hF
        refine g_cVv (pc := 49) (k := 18) (As := [.int (a2 + (1 : Int32)), .int l5_6]) (st := []) ky_X5_keepRoute kl_X5_53 (s_X5_keepRoute_18 (d := 2) (hPl) (Nat.le_refl _) h_26) rfl rfl rfl (hPl.lt (by decide)) (Nat.le_trans (by decide) hd) (Nat.le_of_ble_eq_true rfl) (Nat.le_refl _) (Nat.le_refl _) dX5_walk_49 ?_
        cases hF
        exact g_vret (pc := 52) rfl (Nat.le_refl _) (Nat.le_refl _) dX5_walk_52 ⟨rfl, rfl, rfl, rfl⟩
    · replace hF := am_no c_2 hF
      cases hF
      exact g_vret (pc := 17) rfl (Nat.le_refl _) (Nat.le_refl _) dX5_walk_17 ⟨rfl, rfl, rfl, rfl⟩
def G_X5_walk_18 : Nat → am_IT → Int32 → Int32 → Int32 → Int32 → Option (am_IT)
  | 0, _, _, _, _, _ => none
  | n + 1, I, a1, a2, a3, a4 => B_X5_walk_18 (G_X5_walk_18 n) I a1 a2 a3 a4
theorem sG_X5_walk_18 {l : Launch} {N : Nat} {P : am_PT} (hPl : am_Pl 94 N P) : ∀ (n : Nat) {d : Nat}, 3 + n ≤ d → ∀ {I : am_IT} {a1 : Int32} {a2 : Int32} {a3 : Int32} {a4 : Int32} {I2 : am_IT}, G_X5_walk_18 n I a1 a2 a3 a4 = some (I2) → am_C l d 0 0 mX5_walk [.ref 18, .int a1, .int a2, .int a3, .int a4] N P I (am_qv N P I2)
  | 0, _, _, _, _, _, _, _, _, h => by cases h
  | n + 1, d, hd, I, a1, a2, a3, a4, _, h => sB_X5_walk_18 hPl (by omega) (D := 3 + n) (by omega) (sG_X5_walk_18 hPl n (Nat.le_refl _)) h
def F_X5_walk_18 (I : am_IT) (a1 : Int32) (a2 : Int32) (a3 : Int32) (a4 : Int32) : Option (am_IT) := G_X5_walk_18 64 I a1 a2 a3 a4
theorem s_X5_walk_18 {l : Launch} {d N : Nat} {P : am_PT} (hPl : am_Pl 94 N P) (hd : 67 ≤ d) {I : am_IT} {a1 : Int32} {a2 : Int32} {a3 : Int32} {a4 : Int32} {I2 : am_IT} (hF : F_X5_walk_18 I a1 a2 a3 a4 = some (I2)) : am_C l d 0 0 mX5_walk [.ref 18, .int a1, .int a2, .int a3, .int a4] N P I (am_qv N P I2) := (sG_X5_walk_18 (l := l) hPl 64 (d := d) hd) hF
def F_X5_findWay_18 (I : am_IT) (a1 : Int32) (a2 : Int32) (a3 : Int32) : Option (Int32 × am_IT) := am_let (up2 I 18 4 a2) (fun (I_1 : am_IT) => am_let (up2 I_1 18 5 a3) (fun (I_2 : am_IT) => am_let (up2 I_2 18 6 (-1 : Int32)) (fun (I_3 : am_IT) => am_let (up2 I_3 18 7 (0 : Int32)) (fun (I_4 : am_IT) => am_b1 (F_X5_walk_18 I_4 a1 (0 : Int32) (0 : Int32) (0 : Int32)) (fun (I_6 : am_IT) => if (I_6 18 7) ≤ 0 then (some ((0 : Int32), I_6)) else (some ((1 : Int32), I_6)))))))
set_option maxRecDepth 100000 in
set_option maxHeartbeats 4000000 in
theorem s_X5_findWay_18 {l : Launch} {d N : Nat} {P : am_PT} (hPl : am_Pl 94 N P) (hd : 68 ≤ d) {I : am_IT} {a1 : Int32} {a2 : Int32} {a3 : Int32} {r : Int32} {I2 : am_IT} (hF : F_X5_findWay_18 I a1 a2 a3 = some (r, I2)) : am_C l d 0 0 mX5_findWay [.ref 18, .int a1, .int a2, .int a3] N P I (am_qz r N P I2) := by
  refine am_body (sc := am_sc0) (n := 0) (by decide +kernel) (by decide) rfl ?_
  change G am_sc0 l d 0 0 mX5_findWay (am_qz r N P I2) 0 [.ref 18, .int a1, .int a2, .int a3] [] N P I 0 0
  unfold F_X5_findWay_18 at hF
  refine g_aload_n (pc := 0) dX5_findWay_0 rfl rfl ?_
  refine g_iload_n (pc := 1) dX5_findWay_1 rfl rfl ?_
  obtain ⟨I_1, e_I_1, hF⟩ := am_let_el hF
  refine n_putI (pc := 2) (k := 18) e_I_1 kf_X5_24 rfl rfl (hPl.lt (by decide)) dX5_findWay_2 ?_
  refine g_aload_n (pc := 5) dX5_findWay_5 rfl rfl ?_
  refine g_iload_n (pc := 6) dX5_findWay_6 rfl rfl ?_
  obtain ⟨I_2, e_I_2, hF⟩ := am_let_el hF
  refine n_putI (pc := 7) (k := 18) e_I_2 kf_X5_28 rfl rfl (hPl.lt (by decide)) dX5_findWay_7 ?_
  refine g_aload_n (pc := 10) dX5_findWay_10 rfl rfl ?_
  refine g_iconst (pc := 11) (v := (-1 : Int32)) dX5_findWay_11 (by decide) ?_
  obtain ⟨I_3, e_I_3, hF⟩ := am_let_el hF
  refine n_putI (pc := 12) (k := 18) e_I_3 kf_X5_31 rfl rfl (hPl.lt (by decide)) dX5_findWay_12 ?_
  refine g_aload_n (pc := 15) dX5_findWay_15 rfl rfl ?_
  refine g_iconst (pc := 16) (v := (0 : Int32)) dX5_findWay_16 rfl ?_
  obtain ⟨I_4, e_I_4, hF⟩ := am_let_el hF
  refine n_putI (pc := 17) (k := 18) e_I_4 kf_X5_34 rfl rfl (hPl.lt (by decide)) dX5_findWay_17 ?_
  refine g_aload_n (pc := 20) dX5_findWay_20 rfl rfl ?_
  refine g_iload_n (pc := 21) dX5_findWay_21 rfl rfl ?_
  refine g_iconst (pc := 22) (v := (0 : Int32)) dX5_findWay_22 rfl ?_
  refine g_iconst (pc := 23) (v := (0 : Int32)) dX5_findWay_23 rfl ?_
  refine g_iconst (pc := 24) (v := (0 : Int32)) dX5_findWay_24 rfl ?_
  obtain ⟨I_6, h_5, hF⟩ := am_b1_el hF
  refine g_cVv (pc := 25) (k := 18) (As := [.int a1, .int (0 : Int32), .int (0 : Int32), .int (0 : Int32)]) (st := []) ky_X5_walk kl_X5_49 (s_X5_walk_18 (d := 67) (hPl) (Nat.le_refl _) h_5) rfl rfl rfl (hPl.lt (by decide)) (Nat.le_trans (by decide) hd) (Nat.le_of_ble_eq_true rfl) (Nat.le_refl _) (Nat.le_refl _) dX5_findWay_25 ?_
  refine g_aload_n (pc := 28) dX5_findWay_28 rfl rfl ?_
  refine g_getI (pc := 29) (k := 18) kf_X5_34.r rfl rfl (hPl.lt (by decide)) dX5_findWay_29 ?_
  refine g_if_le (pc := 32) (tgt := 39) dX5_findWay_32 rfl (fun c_7 => ?_) (fun c_7 => ?_)
  · replace hF := am_yes c_7 hF
    refine g_iconst (pc := 39) (v := (0 : Int32)) dX5_findWay_39 rfl ?_
    cases hF
    exact g_zret (pc := 40) rfl (Or.inl rfl) (Nat.le_refl _) (Nat.le_refl _) dX5_findWay_40 ⟨(Or.inl rfl), rfl, rfl, rfl, rfl⟩
  · replace hF := am_no c_7 hF
    refine g_iconst (pc := 35) (v := (1 : Int32)) dX5_findWay_35 rfl ?_
    refine g_goto (pc := 36) (tgt := 40) dX5_findWay_36 rfl ?_
    cases hF
    exact g_zret (pc := 40) rfl (Or.inr rfl) (Nat.le_refl _) (Nat.le_refl _) dX5_findWay_40 ⟨(Or.inr rfl), rfl, rfl, rfl, rfl⟩
def F_X11_way_0 (I : am_IT) (a1 : Int32) (a2 : Int32) (a3 : Int32) (a4 : Int32) : Option (Int32 × am_IT) := am_b1 (F_X11_isPlace I a1) (fun (r_2 : Int32) => if r_2 = 0 then (some ((-1 : Int32), I)) else (am_b1 (F_X11_isPlace I a2) (fun (r_6 : Int32) => if r_6 = 0 then (some ((-1 : Int32), I)) else (am_b1 (F_X11_isWithin I a3 (1 : Int32) (9 : Int32)) (fun (r_10 : Int32) => if r_10 = 0 then (some ((-1 : Int32), I)) else (am_b2 (F_X5_findWay_18 I a1 a2 a3) (fun (r_14 : Int32) (I_15 : am_IT) => if r_14 = 0 then (some ((-1 : Int32), I_15)) else (if a4 = 0 then (some (I_15 18 6, I_15)) else (if a4 = (1 : Int32) then (some (I_15 18 7, I_15)) else (am_b1 (F_X11_isWithin I_15 a4 (10 : Int32) (((10 : Int32) + (I_15 18 7)) - (1 : Int32))) (fun (r_21 : Int32) => if r_21 = 0 then (some ((-1 : Int32), I_15)) else (if am_ix (a4 - (10 : Int32)) 9 = true then (some (I_15 22 (a4 - (10 : Int32)).toNatClampNeg, I_15)) else none))))))))))))
set_option maxRecDepth 100000 in
set_option maxHeartbeats 4000000 in
theorem s_X11_way_0 {l : Launch} {d N : Nat} {P : am_PT} (hPl : am_Pl 94 N P) (hd : 69 ≤ d) {I : am_IT} {a1 : Int32} {a2 : Int32} {a3 : Int32} {a4 : Int32} {r : Int32} {I2 : am_IT} (hF : F_X11_way_0 I a1 a2 a3 a4 = some (r, I2)) : am_C l d 0 0 mX11_way [.ref 0, .int a1, .int a2, .int a3, .int a4] N P I (am_qi r N P I2) := by
  refine am_body (sc := am_sc0) (n := 1) (by decide +kernel) (by decide) rfl ?_
  change G am_sc0 l d 0 0 mX11_way (am_qi r N P I2) 0 [.ref 0, .int a1, .int a2, .int a3, .int a4, .null] [] N P I 0 0
  unfold F_X11_way_0 at hF
  refine g_iload_n (pc := 0) dX11_way_0 rfl rfl ?_
  obtain ⟨r_2, h_1, hF⟩ := am_b1_el hF
  refine g_cSz (pc := 1) (As := [.int a1]) (st := []) ky_X11_isPlace kl_X11_268 (s_X11_isPlace (d := 2) (hPl) (Nat.le_refl _) h_1) rfl rfl (Nat.le_trans (by decide) hd) (Nat.le_of_ble_eq_true rfl) (Nat.le_refl _) (Nat.le_refl _) dX11_way_1 ?_
  intro z_3
  refine g_if_eq (pc := 4) (tgt := 24) dX11_way_4 rfl (fun c_4 => ?_) (fun c_4 => ?_)
  · replace hF := am_yes c_4 hF
    refine g_iconst (pc := 24) (v := (-1 : Int32)) dX11_way_24 (by decide) ?_
    cases hF
    exact g_iret (pc := 25) rfl (Nat.le_refl _) (Nat.le_refl _) dX11_way_25 ⟨rfl, rfl, rfl, rfl⟩
  · replace hF := am_no c_4 hF
    refine g_iload_n (pc := 7) dX11_way_7 rfl rfl ?_
    obtain ⟨r_6, h_5, hF⟩ := am_b1_el hF
    refine g_cSz (pc := 8) (As := [.int a2]) (st := []) ky_X11_isPlace kl_X11_268 (s_X11_isPlace (d := 2) (hPl) (Nat.le_refl _) h_5) rfl rfl (Nat.le_trans (by decide) hd) (Nat.le_of_ble_eq_true rfl) (Nat.le_refl _) (Nat.le_refl _) dX11_way_8 ?_
    intro z_7
    refine g_if_eq (pc := 11) (tgt := 24) dX11_way_11 rfl (fun c_8 => ?_) (fun c_8 => ?_)
    · replace hF := am_yes c_8 hF
      refine g_iconst (pc := 24) (v := (-1 : Int32)) dX11_way_24 (by decide) ?_
      cases hF
      exact g_iret (pc := 25) rfl (Nat.le_refl _) (Nat.le_refl _) dX11_way_25 ⟨rfl, rfl, rfl, rfl⟩
    · replace hF := am_no c_8 hF
      refine g_iload_n (pc := 14) dX11_way_14 rfl rfl ?_
      refine g_iconst (pc := 15) (v := (1 : Int32)) dX11_way_15 rfl ?_
      refine g_bipush (pc := 16) (v := (9 : Int32)) dX11_way_16 rfl ?_
      obtain ⟨r_10, h_9, hF⟩ := am_b1_el hF
      refine g_cSz (pc := 18) (As := [.int a3, .int (1 : Int32), .int (9 : Int32)]) (st := []) ky_X11_isWithin kl_X11_97 (s_X11_isWithin (d := 1) (hPl) (Nat.le_refl _) h_9) rfl rfl (Nat.le_trans (by decide) hd) (Nat.le_of_ble_eq_true rfl) (Nat.le_refl _) (Nat.le_refl _) dX11_way_18 ?_
      intro z_11
      refine g_if_ne (pc := 21) (tgt := 26) dX11_way_21 rfl (fun c_12 => ?_) (fun c_12 => ?_)
      · replace hF := am_no c_12 hF
        refine g_aload_n (pc := 26) dX11_way_26 rfl rfl ?_
        refine g_getR (pc := 27) (k := 0) (r := 1) kf_X11_12.r rfl rfl (hPl.get (by decide) rfl) (hPl.lt (by decide)) dX11_way_27 ?_
        refine g_getR (pc := 30) (k := 1) (r := 18) kf_X11_271 rfl rfl (hPl.get (by decide) rfl) (hPl.lt (by decide)) dX11_way_30 ?_
        refine n_astore (pc := 33) (ls2 := [.ref 0, .int a1, .int a2, .int a3, .int a4, .ref 18]) rfl rfl dX11_way_33 (Nat.le_of_ble_eq_true rfl) ?_
        refine g_aload (pc := 35) dX11_way_35 rfl ?_
        refine g_iload_n (pc := 37) dX11_way_37 rfl rfl ?_
        refine g_iload_n (pc := 38) dX11_way_38 rfl rfl ?_
        refine g_iload_n (pc := 39) dX11_way_39 rfl rfl ?_
        obtain ⟨r_14, I_15, h_13, hF⟩ := am_b2_el hF
        refine g_cVz (pc := 40) (k := 18) (As := [.int a1, .int a2, .int a3]) (st := []) ky_X5_findWay kl_X11_284 (s_X5_findWay_18 (d := 68) (hPl) (Nat.le_refl _) h_13) rfl rfl rfl (hPl.lt (by decide)) (Nat.le_trans (by decide) hd) (Nat.le_of_ble_eq_true rfl) (Nat.le_refl _) (Nat.le_refl _) dX11_way_40 ?_
        intro z_16
        refine g_if_ne (pc := 43) (tgt := 48) dX11_way_43 rfl (fun c_17 => ?_) (fun c_17 => ?_)
        · replace hF := am_no c_17 hF
          refine g_iload (pc := 48) dX11_way_48 rfl ?_
          refine g_if_ne (pc := 50) (tgt := 59) dX11_way_50 rfl (fun c_18 => ?_) (fun c_18 => ?_)
          · replace hF := am_no c_18 hF
            refine g_iload (pc := 59) dX11_way_59 rfl ?_
            refine g_iconst (pc := 61) (v := (1 : Int32)) dX11_way_61 rfl ?_
            refine g_icmp_ne (pc := 62) (tgt := 71) dX11_way_62 rfl (fun c_19 => ?_) (fun c_19 => ?_)
            · replace hF := am_no c_19 hF
              refine g_iload (pc := 71) dX11_way_71 rfl ?_
              refine g_bipush (pc := 73) (v := (10 : Int32)) dX11_way_73 rfl ?_
              refine g_bipush (pc := 75) (v := (10 : Int32)) dX11_way_75 rfl ?_
              refine g_aload (pc := 77) dX11_way_77 rfl ?_
              refine g_getI (pc := 79) (k := 18) kf_X11_290.r rfl rfl (hPl.lt (by decide)) dX11_way_79 ?_
              refine g_iadd (pc := 82) dX11_way_82 ?_
              refine g_iconst (pc := 83) (v := (1 : Int32)) dX11_way_83 rfl ?_
              refine g_isub (pc := 84) dX11_way_84 ?_
              obtain ⟨r_21, h_20, hF⟩ := am_b1_el hF
              refine g_cSz (pc := 85) (As := [.int a4, .int (10 : Int32), .int (((10 : Int32) + (I_15 18 7)) - (1 : Int32))]) (st := []) ky_X11_isWithin kl_X11_97 (s_X11_isWithin (d := 1) (hPl) (Nat.le_refl _) h_20) rfl rfl (Nat.le_trans (by decide) hd) (Nat.le_of_ble_eq_true rfl) (Nat.le_refl _) (Nat.le_refl _) dX11_way_85 ?_
              intro z_22
              refine g_if_eq (pc := 88) (tgt := 105) dX11_way_88 rfl (fun c_23 => ?_) (fun c_23 => ?_)
              · replace hF := am_yes c_23 hF
                refine g_iconst (pc := 105) (v := (-1 : Int32)) dX11_way_105 (by decide) ?_
                cases hF
                exact g_iret (pc := 106) rfl (Nat.le_refl _) (Nat.le_refl _) dX11_way_106 ⟨rfl, rfl, rfl, rfl⟩
              · replace hF := am_no c_23 hF
                refine g_aload (pc := 91) dX11_way_91 rfl ?_
                refine g_getR (pc := 93) (k := 18) (r := 22) kf_X11_293 rfl rfl (hPl.get (by decide) rfl) (hPl.lt (by decide)) dX11_way_93 ?_
                refine g_iload (pc := 96) dX11_way_96 rfl ?_
                refine g_bipush (pc := 98) (v := (10 : Int32)) dX11_way_98 rfl ?_
                refine g_isub (pc := 100) dX11_way_100 ?_
                obtain ⟨c_24, hF⟩ := am_gd hF
                refine g_iald (pc := 101) (k := 22) rfl (hPl.lt (by decide)) (am_ix_use c_24) dX11_way_101 ?_
                refine g_goto (pc := 102) (tgt := 106) dX11_way_102 rfl ?_
                cases hF
                exact g_iret (pc := 106) rfl (Nat.le_refl _) (Nat.le_refl _) dX11_way_106 ⟨rfl, rfl, rfl, rfl⟩
            · replace hF := am_yes c_19 hF
              refine g_aload (pc := 65) dX11_way_65 rfl ?_
              refine g_getI (pc := 67) (k := 18) kf_X11_290.r rfl rfl (hPl.lt (by decide)) dX11_way_67 ?_
              cases hF
              exact g_iret (pc := 70) rfl (Nat.le_refl _) (Nat.le_refl _) dX11_way_70 ⟨rfl, rfl, rfl, rfl⟩
          · replace hF := am_yes c_18 hF
            refine g_aload (pc := 53) dX11_way_53 rfl ?_
            refine g_getI (pc := 55) (k := 18) kf_X11_287.r rfl rfl (hPl.lt (by decide)) dX11_way_55 ?_
            cases hF
            exact g_iret (pc := 58) rfl (Nat.le_refl _) (Nat.le_refl _) dX11_way_58 ⟨rfl, rfl, rfl, rfl⟩
        · replace hF := am_yes c_17 hF
          refine g_iconst (pc := 46) (v := (-1 : Int32)) dX11_way_46 (by decide) ?_
          cases hF
          exact g_iret (pc := 47) rfl (Nat.le_refl _) (Nat.le_refl _) dX11_way_47 ⟨rfl, rfl, rfl, rfl⟩
      · replace hF := am_yes c_12 hF
        refine g_iconst (pc := 24) (v := (-1 : Int32)) dX11_way_24 (by decide) ?_
        cases hF
        exact g_iret (pc := 25) rfl (Nat.le_refl _) (Nat.le_refl _) dX11_way_25 ⟨rfl, rfl, rfl, rfl⟩
