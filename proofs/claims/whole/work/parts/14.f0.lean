def F_X11_state_0 (I : am_IT) (a1 : Int32) : Option (Int32 × am_IT) := am_let (I 1 1) (fun (l2_1 : Int32) => am_let (up2 I 1 1 a1) (fun (I_2 : am_IT) => some (l2_1, I_2)))
set_option maxRecDepth 100000 in
set_option maxHeartbeats 4000000 in
theorem s_X11_state_0 {l : Launch} {d N : Nat} {P : am_PT} (hPl : am_Pl 94 N P) (hd : 1 ≤ d) {I : am_IT} {a1 : Int32} {r : Int32} {I2 : am_IT} (hF : F_X11_state_0 I a1 = some (r, I2)) : am_C l d 0 0 mX11_state [.ref 0, .int a1] N P I (am_qi r N P I2) := by
  refine am_body (sc := am_sc0) (n := 1) (by decide +kernel) (by decide) rfl ?_
  change G am_sc0 l d 0 0 mX11_state (am_qi r N P I2) 0 [.ref 0, .int a1, .null] [] N P I 0 0
  unfold F_X11_state_0 at hF
  refine g_aload_n (pc := 0) dX11_state_0 rfl rfl ?_
  refine g_getR (pc := 1) (k := 0) (r := 1) kf_X11_12.r rfl rfl (hPl.get (by decide) rfl) (hPl.lt (by decide)) dX11_state_1 ?_
  refine g_getI (pc := 4) (k := 1) kf_X11_86.r rfl rfl (hPl.lt (by decide)) dX11_state_4 ?_
  obtain ⟨l2_1, e_l2_1, hF⟩ := am_let_el hF
  refine n_istore_n (pc := 7) (ls2 := [.ref 0, .int a1, .int l2_1]) e_l2_1 rfl dX11_state_7 rfl (Nat.le_of_ble_eq_true rfl) ?_
  refine g_aload_n (pc := 8) dX11_state_8 rfl rfl ?_
  refine g_getR (pc := 9) (k := 0) (r := 1) kf_X11_12.r rfl rfl (hPl.get (by decide) rfl) (hPl.lt (by decide)) dX11_state_9 ?_
  refine g_iload_n (pc := 12) dX11_state_12 rfl rfl ?_
  obtain ⟨I_2, e_I_2, hF⟩ := am_let_el hF
  refine n_putI (pc := 13) (k := 1) e_I_2 kf_X11_86 rfl rfl (hPl.lt (by decide)) dX11_state_13 ?_
  refine g_iload_n (pc := 16) dX11_state_16 rfl rfl ?_
  cases hF
  exact g_iret (pc := 17) rfl (Nat.le_refl _) (Nat.le_refl _) dX11_state_17 ⟨rfl, rfl, rfl, rfl⟩
def F_J7_fill_53178_2 (I : am_IT) (a2 : Int32) : Option (am_IT) := am_b1 (am_it am_fu (am_u2 (fun (l2_1 : Int32) (I_2 : am_IT) => if (4 : Int32) ≤ l2_1 then (some (.inr (I_2))) else (if am_ix l2_1 4 = true then (am_let (up2 I_2 2 l2_1.toNatClampNeg a2) (fun (I_11 : am_IT) => am_let (l2_1 + (1 : Int32)) (fun (l2_12 : Int32) => some (.inl (l2_12, I_11))))) else none))) ((0 : Int32), I)) (fun (I_3 : am_IT) => some I_3)
set_option maxRecDepth 100000 in
set_option maxHeartbeats 4000000 in
theorem s_J7_fill_53178_2 {l : Launch} {d N : Nat} {P : am_PT} (hPl : am_Pl 94 N P) (hd : 1 ≤ d) {I : am_IT} {a2 : Int32} {I2 : am_IT} (hF : F_J7_fill_53178_2 I a2 = some (I2)) : am_C l d 0 0 mJ7_fill_53178 [.ref 2, .int a2] N P I (am_qv N P I2) := by
  refine am_body (sc := am_sc0) (n := 2) (by decide +kernel) (by decide) rfl ?_
  change G am_sc0 l d 0 0 mJ7_fill_53178 (am_qv N P I2) 0 [.ref 2, .int a2, .null, .null] [] N P I 0 0
  unfold F_J7_fill_53178_2 at hF
  refine g_iconst (pc := 0) (v := (0 : Int32)) dJ7_fill_53178_0 rfl ?_
  refine n_istore_n (pc := 1) (ls2 := [.ref 2, .int a2, .int (0 : Int32), .null]) rfl rfl dJ7_fill_53178_1 rfl (Nat.le_of_ble_eq_true rfl) ?_
  refine g_aload_n (pc := 2) dJ7_fill_53178_2 rfl rfl ?_
  refine g_alen (pc := 3) (k := 2) (v := 4) rfl (hPl.lt (by decide)) rfl dJ7_fill_53178_3 ?_
  refine n_istore_n (pc := 4) (ls2 := [.ref 2, .int a2, .int (0 : Int32), .int (4 : Int32)]) rfl rfl dJ7_fill_53178_4 rfl (Nat.le_of_ble_eq_true rfl) ?_
  obtain ⟨I_3, hL_7, hF⟩ := am_b1_el hF
  have hX_4 : G am_sc0 l d 0 0 mJ7_fill_53178 (am_qv N P I2) 20 [.ref 2, .int a2, .null, .int (4 : Int32)] [] N P I_3 0 0 := by
    cases hF
    exact g_vret (pc := 20) rfl (Nat.le_refl _) (Nat.le_refl _) dJ7_fill_53178_20 ⟨rfl, rfl, rfl, rfl⟩
  clear hF
  have hC := am_loop (C := fun x => G am_sc0 l d 0 0 mJ7_fill_53178 (am_qv N P I2) 5 [.ref 2, .int a2, .int x.1, .int (4 : Int32)] [] N P x.2 0 0) (by
    rintro ⟨l2_1, I_2⟩ rr hF ih_5 hE_6
    replace hF := am_u2_ap hF
    change G am_sc0 l d 0 0 mJ7_fill_53178 (am_qv N P I2) 5 [.ref 2, .int a2, .int l2_1, .int (4 : Int32)] [] N P I_2 0 0
    refine g_iload_n (pc := 5) dJ7_fill_53178_5 rfl rfl ?_
    refine g_iload_n (pc := 6) dJ7_fill_53178_6 rfl rfl ?_
    refine g_icmp_ge (pc := 7) (tgt := 20) dJ7_fill_53178_7 rfl (fun c_9 => ?_) (fun c_9 => ?_)
    · replace hF := am_yes c_9 hF
      cases hF
      cases hE_6 _ rfl
      exact g_weak hX_4 ⟨Or.inr rfl, Or.inr rfl, Or.inl rfl, Or.inr rfl, trivial⟩
    · replace hF := am_no c_9 hF
      refine g_aload_n (pc := 10) dJ7_fill_53178_10 rfl rfl ?_
      refine g_iload_n (pc := 11) dJ7_fill_53178_11 rfl rfl ?_
      refine g_iload_n (pc := 12) dJ7_fill_53178_12 rfl rfl ?_
      obtain ⟨c_10, hF⟩ := am_gd hF
      obtain ⟨I_11, e_I_11, hF⟩ := am_let_el hF
      refine n_iast (pc := 13) (k := 2) e_I_11 rfl (hPl.lt (by decide)) (am_ix_use c_10) dJ7_fill_53178_13 ?_
      obtain ⟨l2_12, e_l2_12, hF⟩ := am_let_el hF
      refine n_iinc (pc := 14) (ls2 := [.ref 2, .int a2, .int l2_12, .int (4 : Int32)]) e_l2_12 rfl rfl rfl dJ7_fill_53178_14 (Nat.le_of_ble_eq_true rfl) ?_
      refine g_goto (pc := 17) (tgt := 5) dJ7_fill_53178_17 rfl ?_
      cases hF
      exact ih_5 (l2_12, I_11) rfl
    ) _ _ hL_7
  exact hC
def F_J7_fill_53178_5 (I : am_IT) (a2 : Int32) : Option (am_IT) := am_b1 (am_it am_fu (am_u2 (fun (l2_1 : Int32) (I_2 : am_IT) => if (56 : Int32) ≤ l2_1 then (some (.inr (I_2))) else (if am_ix l2_1 56 = true then (am_let (up2 I_2 5 l2_1.toNatClampNeg a2) (fun (I_11 : am_IT) => am_let (l2_1 + (1 : Int32)) (fun (l2_12 : Int32) => some (.inl (l2_12, I_11))))) else none))) ((0 : Int32), I)) (fun (I_3 : am_IT) => some I_3)
set_option maxRecDepth 100000 in
set_option maxHeartbeats 4000000 in
theorem s_J7_fill_53178_5 {l : Launch} {d N : Nat} {P : am_PT} (hPl : am_Pl 94 N P) (hd : 1 ≤ d) {I : am_IT} {a2 : Int32} {I2 : am_IT} (hF : F_J7_fill_53178_5 I a2 = some (I2)) : am_C l d 0 0 mJ7_fill_53178 [.ref 5, .int a2] N P I (am_qv N P I2) := by
  refine am_body (sc := am_sc0) (n := 2) (by decide +kernel) (by decide) rfl ?_
  change G am_sc0 l d 0 0 mJ7_fill_53178 (am_qv N P I2) 0 [.ref 5, .int a2, .null, .null] [] N P I 0 0
  unfold F_J7_fill_53178_5 at hF
  refine g_iconst (pc := 0) (v := (0 : Int32)) dJ7_fill_53178_0 rfl ?_
  refine n_istore_n (pc := 1) (ls2 := [.ref 5, .int a2, .int (0 : Int32), .null]) rfl rfl dJ7_fill_53178_1 rfl (Nat.le_of_ble_eq_true rfl) ?_
  refine g_aload_n (pc := 2) dJ7_fill_53178_2 rfl rfl ?_
  refine g_alen (pc := 3) (k := 5) (v := 56) rfl (hPl.lt (by decide)) rfl dJ7_fill_53178_3 ?_
  refine n_istore_n (pc := 4) (ls2 := [.ref 5, .int a2, .int (0 : Int32), .int (56 : Int32)]) rfl rfl dJ7_fill_53178_4 rfl (Nat.le_of_ble_eq_true rfl) ?_
  obtain ⟨I_3, hL_7, hF⟩ := am_b1_el hF
  have hX_4 : G am_sc0 l d 0 0 mJ7_fill_53178 (am_qv N P I2) 20 [.ref 5, .int a2, .null, .int (56 : Int32)] [] N P I_3 0 0 := by
    cases hF
    exact g_vret (pc := 20) rfl (Nat.le_refl _) (Nat.le_refl _) dJ7_fill_53178_20 ⟨rfl, rfl, rfl, rfl⟩
  clear hF
  have hC := am_loop (C := fun x => G am_sc0 l d 0 0 mJ7_fill_53178 (am_qv N P I2) 5 [.ref 5, .int a2, .int x.1, .int (56 : Int32)] [] N P x.2 0 0) (by
    rintro ⟨l2_1, I_2⟩ rr hF ih_5 hE_6
    replace hF := am_u2_ap hF
    change G am_sc0 l d 0 0 mJ7_fill_53178 (am_qv N P I2) 5 [.ref 5, .int a2, .int l2_1, .int (56 : Int32)] [] N P I_2 0 0
    refine g_iload_n (pc := 5) dJ7_fill_53178_5 rfl rfl ?_
    refine g_iload_n (pc := 6) dJ7_fill_53178_6 rfl rfl ?_
    refine g_icmp_ge (pc := 7) (tgt := 20) dJ7_fill_53178_7 rfl (fun c_9 => ?_) (fun c_9 => ?_)
    · replace hF := am_yes c_9 hF
      cases hF
      cases hE_6 _ rfl
      exact g_weak hX_4 ⟨Or.inr rfl, Or.inr rfl, Or.inl rfl, Or.inr rfl, trivial⟩
    · replace hF := am_no c_9 hF
      refine g_aload_n (pc := 10) dJ7_fill_53178_10 rfl rfl ?_
      refine g_iload_n (pc := 11) dJ7_fill_53178_11 rfl rfl ?_
      refine g_iload_n (pc := 12) dJ7_fill_53178_12 rfl rfl ?_
      obtain ⟨c_10, hF⟩ := am_gd hF
      obtain ⟨I_11, e_I_11, hF⟩ := am_let_el hF
      refine n_iast (pc := 13) (k := 5) e_I_11 rfl (hPl.lt (by decide)) (am_ix_use c_10) dJ7_fill_53178_13 ?_
      obtain ⟨l2_12, e_l2_12, hF⟩ := am_let_el hF
      refine n_iinc (pc := 14) (ls2 := [.ref 5, .int a2, .int l2_12, .int (56 : Int32)]) e_l2_12 rfl rfl rfl dJ7_fill_53178_14 (Nat.le_of_ble_eq_true rfl) ?_
      refine g_goto (pc := 17) (tgt := 5) dJ7_fill_53178_17 rfl ?_
      cases hF
      exact ih_5 (l2_12, I_11) rfl
    ) _ _ hL_7
  exact hC
def F_J7_fill_53178_7 (I : am_IT) (a2 : Int32) : Option (am_IT) := am_b1 (am_it am_fu (am_u2 (fun (l2_1 : Int32) (I_2 : am_IT) => if (28 : Int32) ≤ l2_1 then (some (.inr (I_2))) else (if am_ix l2_1 28 = true then (am_let (up2 I_2 7 l2_1.toNatClampNeg a2) (fun (I_11 : am_IT) => am_let (l2_1 + (1 : Int32)) (fun (l2_12 : Int32) => some (.inl (l2_12, I_11))))) else none))) ((0 : Int32), I)) (fun (I_3 : am_IT) => some I_3)
set_option maxRecDepth 100000 in
set_option maxHeartbeats 4000000 in
theorem s_J7_fill_53178_7 {l : Launch} {d N : Nat} {P : am_PT} (hPl : am_Pl 94 N P) (hd : 1 ≤ d) {I : am_IT} {a2 : Int32} {I2 : am_IT} (hF : F_J7_fill_53178_7 I a2 = some (I2)) : am_C l d 0 0 mJ7_fill_53178 [.ref 7, .int a2] N P I (am_qv N P I2) := by
  refine am_body (sc := am_sc0) (n := 2) (by decide +kernel) (by decide) rfl ?_
  change G am_sc0 l d 0 0 mJ7_fill_53178 (am_qv N P I2) 0 [.ref 7, .int a2, .null, .null] [] N P I 0 0
  unfold F_J7_fill_53178_7 at hF
  refine g_iconst (pc := 0) (v := (0 : Int32)) dJ7_fill_53178_0 rfl ?_
  refine n_istore_n (pc := 1) (ls2 := [.ref 7, .int a2, .int (0 : Int32), .null]) rfl rfl dJ7_fill_53178_1 rfl (Nat.le_of_ble_eq_true rfl) ?_
  refine g_aload_n (pc := 2) dJ7_fill_53178_2 rfl rfl ?_
  refine g_alen (pc := 3) (k := 7) (v := 28) rfl (hPl.lt (by decide)) rfl dJ7_fill_53178_3 ?_
  refine n_istore_n (pc := 4) (ls2 := [.ref 7, .int a2, .int (0 : Int32), .int (28 : Int32)]) rfl rfl dJ7_fill_53178_4 rfl (Nat.le_of_ble_eq_true rfl) ?_
  obtain ⟨I_3, hL_7, hF⟩ := am_b1_el hF
  have hX_4 : G am_sc0 l d 0 0 mJ7_fill_53178 (am_qv N P I2) 20 [.ref 7, .int a2, .null, .int (28 : Int32)] [] N P I_3 0 0 := by
    cases hF
    exact g_vret (pc := 20) rfl (Nat.le_refl _) (Nat.le_refl _) dJ7_fill_53178_20 ⟨rfl, rfl, rfl, rfl⟩
  clear hF
  have hC := am_loop (C := fun x => G am_sc0 l d 0 0 mJ7_fill_53178 (am_qv N P I2) 5 [.ref 7, .int a2, .int x.1, .int (28 : Int32)] [] N P x.2 0 0) (by
    rintro ⟨l2_1, I_2⟩ rr hF ih_5 hE_6
    replace hF := am_u2_ap hF
    change G am_sc0 l d 0 0 mJ7_fill_53178 (am_qv N P I2) 5 [.ref 7, .int a2, .int l2_1, .int (28 : Int32)] [] N P I_2 0 0
    refine g_iload_n (pc := 5) dJ7_fill_53178_5 rfl rfl ?_
    refine g_iload_n (pc := 6) dJ7_fill_53178_6 rfl rfl ?_
    refine g_icmp_ge (pc := 7) (tgt := 20) dJ7_fill_53178_7 rfl (fun c_9 => ?_) (fun c_9 => ?_)
    · replace hF := am_yes c_9 hF
      cases hF
      cases hE_6 _ rfl
      exact g_weak hX_4 ⟨Or.inr rfl, Or.inr rfl, Or.inl rfl, Or.inr rfl, trivial⟩
    · replace hF := am_no c_9 hF
      refine g_aload_n (pc := 10) dJ7_fill_53178_10 rfl rfl ?_
      refine g_iload_n (pc := 11) dJ7_fill_53178_11 rfl rfl ?_
      refine g_iload_n (pc := 12) dJ7_fill_53178_12 rfl rfl ?_
      obtain ⟨c_10, hF⟩ := am_gd hF
      obtain ⟨I_11, e_I_11, hF⟩ := am_let_el hF
      refine n_iast (pc := 13) (k := 7) e_I_11 rfl (hPl.lt (by decide)) (am_ix_use c_10) dJ7_fill_53178_13 ?_
      obtain ⟨l2_12, e_l2_12, hF⟩ := am_let_el hF
      refine n_iinc (pc := 14) (ls2 := [.ref 7, .int a2, .int l2_12, .int (28 : Int32)]) e_l2_12 rfl rfl rfl dJ7_fill_53178_14 (Nat.le_of_ble_eq_true rfl) ?_
      refine g_goto (pc := 17) (tgt := 5) dJ7_fill_53178_17 rfl ?_
      cases hF
      exact ih_5 (l2_12, I_11) rfl
    ) _ _ hL_7
  exact hC
def F_J7_fill_53178_8 (I : am_IT) (a2 : Int32) : Option (am_IT) := am_b1 (am_it am_fu (am_u2 (fun (l2_1 : Int32) (I_2 : am_IT) => if (28 : Int32) ≤ l2_1 then (some (.inr (I_2))) else (if am_ix l2_1 28 = true then (am_let (up2 I_2 8 l2_1.toNatClampNeg a2) (fun (I_11 : am_IT) => am_let (l2_1 + (1 : Int32)) (fun (l2_12 : Int32) => some (.inl (l2_12, I_11))))) else none))) ((0 : Int32), I)) (fun (I_3 : am_IT) => some I_3)
set_option maxRecDepth 100000 in
set_option maxHeartbeats 4000000 in
theorem s_J7_fill_53178_8 {l : Launch} {d N : Nat} {P : am_PT} (hPl : am_Pl 94 N P) (hd : 1 ≤ d) {I : am_IT} {a2 : Int32} {I2 : am_IT} (hF : F_J7_fill_53178_8 I a2 = some (I2)) : am_C l d 0 0 mJ7_fill_53178 [.ref 8, .int a2] N P I (am_qv N P I2) := by
  refine am_body (sc := am_sc0) (n := 2) (by decide +kernel) (by decide) rfl ?_
  change G am_sc0 l d 0 0 mJ7_fill_53178 (am_qv N P I2) 0 [.ref 8, .int a2, .null, .null] [] N P I 0 0
  unfold F_J7_fill_53178_8 at hF
  refine g_iconst (pc := 0) (v := (0 : Int32)) dJ7_fill_53178_0 rfl ?_
  refine n_istore_n (pc := 1) (ls2 := [.ref 8, .int a2, .int (0 : Int32), .null]) rfl rfl dJ7_fill_53178_1 rfl (Nat.le_of_ble_eq_true rfl) ?_
  refine g_aload_n (pc := 2) dJ7_fill_53178_2 rfl rfl ?_
  refine g_alen (pc := 3) (k := 8) (v := 28) rfl (hPl.lt (by decide)) rfl dJ7_fill_53178_3 ?_
  refine n_istore_n (pc := 4) (ls2 := [.ref 8, .int a2, .int (0 : Int32), .int (28 : Int32)]) rfl rfl dJ7_fill_53178_4 rfl (Nat.le_of_ble_eq_true rfl) ?_
  obtain ⟨I_3, hL_7, hF⟩ := am_b1_el hF
  have hX_4 : G am_sc0 l d 0 0 mJ7_fill_53178 (am_qv N P I2) 20 [.ref 8, .int a2, .null, .int (28 : Int32)] [] N P I_3 0 0 := by
    cases hF
    exact g_vret (pc := 20) rfl (Nat.le_refl _) (Nat.le_refl _) dJ7_fill_53178_20 ⟨rfl, rfl, rfl, rfl⟩
  clear hF
  have hC := am_loop (C := fun x => G am_sc0 l d 0 0 mJ7_fill_53178 (am_qv N P I2) 5 [.ref 8, .int a2, .int x.1, .int (28 : Int32)] [] N P x.2 0 0) (by
    rintro ⟨l2_1, I_2⟩ rr hF ih_5 hE_6
    replace hF := am_u2_ap hF
    change G am_sc0 l d 0 0 mJ7_fill_53178 (am_qv N P I2) 5 [.ref 8, .int a2, .int l2_1, .int (28 : Int32)] [] N P I_2 0 0
    refine g_iload_n (pc := 5) dJ7_fill_53178_5 rfl rfl ?_
    refine g_iload_n (pc := 6) dJ7_fill_53178_6 rfl rfl ?_
    refine g_icmp_ge (pc := 7) (tgt := 20) dJ7_fill_53178_7 rfl (fun c_9 => ?_) (fun c_9 => ?_)
    · replace hF := am_yes c_9 hF
      cases hF
      cases hE_6 _ rfl
      exact g_weak hX_4 ⟨Or.inr rfl, Or.inr rfl, Or.inl rfl, Or.inr rfl, trivial⟩
    · replace hF := am_no c_9 hF
      refine g_aload_n (pc := 10) dJ7_fill_53178_10 rfl rfl ?_
      refine g_iload_n (pc := 11) dJ7_fill_53178_11 rfl rfl ?_
      refine g_iload_n (pc := 12) dJ7_fill_53178_12 rfl rfl ?_
      obtain ⟨c_10, hF⟩ := am_gd hF
      obtain ⟨I_11, e_I_11, hF⟩ := am_let_el hF
      refine n_iast (pc := 13) (k := 8) e_I_11 rfl (hPl.lt (by decide)) (am_ix_use c_10) dJ7_fill_53178_13 ?_
      obtain ⟨l2_12, e_l2_12, hF⟩ := am_let_el hF
      refine n_iinc (pc := 14) (ls2 := [.ref 8, .int a2, .int l2_12, .int (28 : Int32)]) e_l2_12 rfl rfl rfl dJ7_fill_53178_14 (Nat.le_of_ble_eq_true rfl) ?_
      refine g_goto (pc := 17) (tgt := 5) dJ7_fill_53178_17 rfl ?_
      cases hF
      exact ih_5 (l2_12, I_11) rfl
    ) _ _ hL_7
  exact hC
def F_J7_fill_53178_9 (I : am_IT) (a2 : Int32) : Option (am_IT) := am_b1 (am_it am_fu (am_u2 (fun (l2_1 : Int32) (I_2 : am_IT) => if (7 : Int32) ≤ l2_1 then (some (.inr (I_2))) else (if am_ix l2_1 7 = true then (am_let (up2 I_2 9 l2_1.toNatClampNeg a2) (fun (I_11 : am_IT) => am_let (l2_1 + (1 : Int32)) (fun (l2_12 : Int32) => some (.inl (l2_12, I_11))))) else none))) ((0 : Int32), I)) (fun (I_3 : am_IT) => some I_3)
set_option maxRecDepth 100000 in
set_option maxHeartbeats 4000000 in
theorem s_J7_fill_53178_9 {l : Launch} {d N : Nat} {P : am_PT} (hPl : am_Pl 94 N P) (hd : 1 ≤ d) {I : am_IT} {a2 : Int32} {I2 : am_IT} (hF : F_J7_fill_53178_9 I a2 = some (I2)) : am_C l d 0 0 mJ7_fill_53178 [.ref 9, .int a2] N P I (am_qv N P I2) := by
  refine am_body (sc := am_sc0) (n := 2) (by decide +kernel) (by decide) rfl ?_
  change G am_sc0 l d 0 0 mJ7_fill_53178 (am_qv N P I2) 0 [.ref 9, .int a2, .null, .null] [] N P I 0 0
  unfold F_J7_fill_53178_9 at hF
  refine g_iconst (pc := 0) (v := (0 : Int32)) dJ7_fill_53178_0 rfl ?_
  refine n_istore_n (pc := 1) (ls2 := [.ref 9, .int a2, .int (0 : Int32), .null]) rfl rfl dJ7_fill_53178_1 rfl (Nat.le_of_ble_eq_true rfl) ?_
  refine g_aload_n (pc := 2) dJ7_fill_53178_2 rfl rfl ?_
  refine g_alen (pc := 3) (k := 9) (v := 7) rfl (hPl.lt (by decide)) rfl dJ7_fill_53178_3 ?_
  refine n_istore_n (pc := 4) (ls2 := [.ref 9, .int a2, .int (0 : Int32), .int (7 : Int32)]) rfl rfl dJ7_fill_53178_4 rfl (Nat.le_of_ble_eq_true rfl) ?_
  obtain ⟨I_3, hL_7, hF⟩ := am_b1_el hF
  have hX_4 : G am_sc0 l d 0 0 mJ7_fill_53178 (am_qv N P I2) 20 [.ref 9, .int a2, .null, .int (7 : Int32)] [] N P I_3 0 0 := by
    cases hF
    exact g_vret (pc := 20) rfl (Nat.le_refl _) (Nat.le_refl _) dJ7_fill_53178_20 ⟨rfl, rfl, rfl, rfl⟩
  clear hF
  have hC := am_loop (C := fun x => G am_sc0 l d 0 0 mJ7_fill_53178 (am_qv N P I2) 5 [.ref 9, .int a2, .int x.1, .int (7 : Int32)] [] N P x.2 0 0) (by
    rintro ⟨l2_1, I_2⟩ rr hF ih_5 hE_6
    replace hF := am_u2_ap hF
    change G am_sc0 l d 0 0 mJ7_fill_53178 (am_qv N P I2) 5 [.ref 9, .int a2, .int l2_1, .int (7 : Int32)] [] N P I_2 0 0
    refine g_iload_n (pc := 5) dJ7_fill_53178_5 rfl rfl ?_
    refine g_iload_n (pc := 6) dJ7_fill_53178_6 rfl rfl ?_
    refine g_icmp_ge (pc := 7) (tgt := 20) dJ7_fill_53178_7 rfl (fun c_9 => ?_) (fun c_9 => ?_)
    · replace hF := am_yes c_9 hF
      cases hF
      cases hE_6 _ rfl
      exact g_weak hX_4 ⟨Or.inr rfl, Or.inr rfl, Or.inl rfl, Or.inr rfl, trivial⟩
    · replace hF := am_no c_9 hF
      refine g_aload_n (pc := 10) dJ7_fill_53178_10 rfl rfl ?_
      refine g_iload_n (pc := 11) dJ7_fill_53178_11 rfl rfl ?_
      refine g_iload_n (pc := 12) dJ7_fill_53178_12 rfl rfl ?_
      obtain ⟨c_10, hF⟩ := am_gd hF
      obtain ⟨I_11, e_I_11, hF⟩ := am_let_el hF
      refine n_iast (pc := 13) (k := 9) e_I_11 rfl (hPl.lt (by decide)) (am_ix_use c_10) dJ7_fill_53178_13 ?_
      obtain ⟨l2_12, e_l2_12, hF⟩ := am_let_el hF
      refine n_iinc (pc := 14) (ls2 := [.ref 9, .int a2, .int l2_12, .int (7 : Int32)]) e_l2_12 rfl rfl rfl dJ7_fill_53178_14 (Nat.le_of_ble_eq_true rfl) ?_
      refine g_goto (pc := 17) (tgt := 5) dJ7_fill_53178_17 rfl ?_
      cases hF
      exact ih_5 (l2_12, I_11) rfl
    ) _ _ hL_7
  exact hC
def F_J7_fill_53178_10 (I : am_IT) (a2 : Int32) : Option (am_IT) := am_b1 (am_it am_fu (am_u2 (fun (l2_1 : Int32) (I_2 : am_IT) => if (49 : Int32) ≤ l2_1 then (some (.inr (I_2))) else (if am_ix l2_1 49 = true then (am_let (up2 I_2 10 l2_1.toNatClampNeg a2) (fun (I_11 : am_IT) => am_let (l2_1 + (1 : Int32)) (fun (l2_12 : Int32) => some (.inl (l2_12, I_11))))) else none))) ((0 : Int32), I)) (fun (I_3 : am_IT) => some I_3)
set_option maxRecDepth 100000 in
set_option maxHeartbeats 4000000 in
theorem s_J7_fill_53178_10 {l : Launch} {d N : Nat} {P : am_PT} (hPl : am_Pl 94 N P) (hd : 1 ≤ d) {I : am_IT} {a2 : Int32} {I2 : am_IT} (hF : F_J7_fill_53178_10 I a2 = some (I2)) : am_C l d 0 0 mJ7_fill_53178 [.ref 10, .int a2] N P I (am_qv N P I2) := by
  refine am_body (sc := am_sc0) (n := 2) (by decide +kernel) (by decide) rfl ?_
  change G am_sc0 l d 0 0 mJ7_fill_53178 (am_qv N P I2) 0 [.ref 10, .int a2, .null, .null] [] N P I 0 0
  unfold F_J7_fill_53178_10 at hF
  refine g_iconst (pc := 0) (v := (0 : Int32)) dJ7_fill_53178_0 rfl ?_
  refine n_istore_n (pc := 1) (ls2 := [.ref 10, .int a2, .int (0 : Int32), .null]) rfl rfl dJ7_fill_53178_1 rfl (Nat.le_of_ble_eq_true rfl) ?_
  refine g_aload_n (pc := 2) dJ7_fill_53178_2 rfl rfl ?_
  refine g_alen (pc := 3) (k := 10) (v := 49) rfl (hPl.lt (by decide)) rfl dJ7_fill_53178_3 ?_
  refine n_istore_n (pc := 4) (ls2 := [.ref 10, .int a2, .int (0 : Int32), .int (49 : Int32)]) rfl rfl dJ7_fill_53178_4 rfl (Nat.le_of_ble_eq_true rfl) ?_
  obtain ⟨I_3, hL_7, hF⟩ := am_b1_el hF
  have hX_4 : G am_sc0 l d 0 0 mJ7_fill_53178 (am_qv N P I2) 20 [.ref 10, .int a2, .null, .int (49 : Int32)] [] N P I_3 0 0 := by
    cases hF
    exact g_vret (pc := 20) rfl (Nat.le_refl _) (Nat.le_refl _) dJ7_fill_53178_20 ⟨rfl, rfl, rfl, rfl⟩
  clear hF
  have hC := am_loop (C := fun x => G am_sc0 l d 0 0 mJ7_fill_53178 (am_qv N P I2) 5 [.ref 10, .int a2, .int x.1, .int (49 : Int32)] [] N P x.2 0 0) (by
    rintro ⟨l2_1, I_2⟩ rr hF ih_5 hE_6
    replace hF := am_u2_ap hF
    change G am_sc0 l d 0 0 mJ7_fill_53178 (am_qv N P I2) 5 [.ref 10, .int a2, .int l2_1, .int (49 : Int32)] [] N P I_2 0 0
    refine g_iload_n (pc := 5) dJ7_fill_53178_5 rfl rfl ?_
    refine g_iload_n (pc := 6) dJ7_fill_53178_6 rfl rfl ?_
    refine g_icmp_ge (pc := 7) (tgt := 20) dJ7_fill_53178_7 rfl (fun c_9 => ?_) (fun c_9 => ?_)
    · replace hF := am_yes c_9 hF
      cases hF
      cases hE_6 _ rfl
      exact g_weak hX_4 ⟨Or.inr rfl, Or.inr rfl, Or.inl rfl, Or.inr rfl, trivial⟩
    · replace hF := am_no c_9 hF
      refine g_aload_n (pc := 10) dJ7_fill_53178_10 rfl rfl ?_
      refine g_iload_n (pc := 11) dJ7_fill_53178_11 rfl rfl ?_
      refine g_iload_n (pc := 12) dJ7_fill_53178_12 rfl rfl ?_
      obtain ⟨c_10, hF⟩ := am_gd hF
      obtain ⟨I_11, e_I_11, hF⟩ := am_let_el hF
      refine n_iast (pc := 13) (k := 10) e_I_11 rfl (hPl.lt (by decide)) (am_ix_use c_10) dJ7_fill_53178_13 ?_
      obtain ⟨l2_12, e_l2_12, hF⟩ := am_let_el hF
      refine n_iinc (pc := 14) (ls2 := [.ref 10, .int a2, .int l2_12, .int (49 : Int32)]) e_l2_12 rfl rfl rfl dJ7_fill_53178_14 (Nat.le_of_ble_eq_true rfl) ?_
      refine g_goto (pc := 17) (tgt := 5) dJ7_fill_53178_17 rfl ?_
      cases hF
      exact ih_5 (l2_12, I_11) rfl
    ) _ _ hL_7
  exact hC
def F_X6_clear_11 (I : am_IT) : Option (am_IT) := am_let (up2 I 11 0 (0 : Int32)) (fun (I_1 : am_IT) => am_let (up2 I_1 11 1 (0 : Int32)) (fun (I_2 : am_IT) => some I_2))
set_option maxRecDepth 100000 in
set_option maxHeartbeats 4000000 in
theorem s_X6_clear_11 {l : Launch} {d N : Nat} {P : am_PT} (hPl : am_Pl 94 N P) (hd : 1 ≤ d) {I : am_IT} {I2 : am_IT} (hF : F_X6_clear_11 I = some (I2)) : am_C l d 0 0 mX6_clear [.ref 11] N P I (am_qv N P I2) := by
  refine am_body (sc := am_sc0) (n := 0) (by decide +kernel) (by decide) rfl ?_
  change G am_sc0 l d 0 0 mX6_clear (am_qv N P I2) 0 [.ref 11] [] N P I 0 0
  unfold F_X6_clear_11 at hF
  refine g_aload_n (pc := 0) dX6_clear_0 rfl rfl ?_
  refine g_iconst (pc := 1) (v := (0 : Int32)) dX6_clear_1 rfl ?_
  obtain ⟨I_1, e_I_1, hF⟩ := am_let_el hF
  refine n_putI (pc := 2) (k := 11) e_I_1 kf_X6_9 rfl rfl (hPl.lt (by decide)) dX6_clear_2 ?_
  refine g_aload_n (pc := 5) dX6_clear_5 rfl rfl ?_
  refine g_iconst (pc := 6) (v := (0 : Int32)) dX6_clear_6 rfl ?_
  obtain ⟨I_2, e_I_2, hF⟩ := am_let_el hF
  refine n_putI (pc := 7) (k := 11) e_I_2 kf_X6_15 rfl rfl (hPl.lt (by decide)) dX6_clear_7 ?_
  cases hF
  exact g_vret (pc := 10) rfl (Nat.le_refl _) (Nat.le_refl _) dX6_clear_10 ⟨rfl, rfl, rfl, rfl⟩
def F_J7_fill_53178_16 (I : am_IT) (a2 : Int32) : Option (am_IT) := am_b1 (am_it am_fu (am_u2 (fun (l2_1 : Int32) (I_2 : am_IT) => if (112 : Int32) ≤ l2_1 then (some (.inr (I_2))) else (if am_ix l2_1 112 = true then (am_let (up2 I_2 16 l2_1.toNatClampNeg a2) (fun (I_11 : am_IT) => am_let (l2_1 + (1 : Int32)) (fun (l2_12 : Int32) => some (.inl (l2_12, I_11))))) else none))) ((0 : Int32), I)) (fun (I_3 : am_IT) => some I_3)
set_option maxRecDepth 100000 in
set_option maxHeartbeats 4000000 in
theorem s_J7_fill_53178_16 {l : Launch} {d N : Nat} {P : am_PT} (hPl : am_Pl 94 N P) (hd : 1 ≤ d) {I : am_IT} {a2 : Int32} {I2 : am_IT} (hF : F_J7_fill_53178_16 I a2 = some (I2)) : am_C l d 0 0 mJ7_fill_53178 [.ref 16, .int a2] N P I (am_qv N P I2) := by
  refine am_body (sc := am_sc0) (n := 2) (by decide +kernel) (by decide) rfl ?_
  change G am_sc0 l d 0 0 mJ7_fill_53178 (am_qv N P I2) 0 [.ref 16, .int a2, .null, .null] [] N P I 0 0
  unfold F_J7_fill_53178_16 at hF
  refine g_iconst (pc := 0) (v := (0 : Int32)) dJ7_fill_53178_0 rfl ?_
  refine n_istore_n (pc := 1) (ls2 := [.ref 16, .int a2, .int (0 : Int32), .null]) rfl rfl dJ7_fill_53178_1 rfl (Nat.le_of_ble_eq_true rfl) ?_
  refine g_aload_n (pc := 2) dJ7_fill_53178_2 rfl rfl ?_
  refine g_alen (pc := 3) (k := 16) (v := 112) rfl (hPl.lt (by decide)) rfl dJ7_fill_53178_3 ?_
  refine n_istore_n (pc := 4) (ls2 := [.ref 16, .int a2, .int (0 : Int32), .int (112 : Int32)]) rfl rfl dJ7_fill_53178_4 rfl (Nat.le_of_ble_eq_true rfl) ?_
  obtain ⟨I_3, hL_7, hF⟩ := am_b1_el hF
  have hX_4 : G am_sc0 l d 0 0 mJ7_fill_53178 (am_qv N P I2) 20 [.ref 16, .int a2, .null, .int (112 : Int32)] [] N P I_3 0 0 := by
    cases hF
    exact g_vret (pc := 20) rfl (Nat.le_refl _) (Nat.le_refl _) dJ7_fill_53178_20 ⟨rfl, rfl, rfl, rfl⟩
  clear hF
  have hC := am_loop (C := fun x => G am_sc0 l d 0 0 mJ7_fill_53178 (am_qv N P I2) 5 [.ref 16, .int a2, .int x.1, .int (112 : Int32)] [] N P x.2 0 0) (by
    rintro ⟨l2_1, I_2⟩ rr hF ih_5 hE_6
    replace hF := am_u2_ap hF
    change G am_sc0 l d 0 0 mJ7_fill_53178 (am_qv N P I2) 5 [.ref 16, .int a2, .int l2_1, .int (112 : Int32)] [] N P I_2 0 0
    refine g_iload_n (pc := 5) dJ7_fill_53178_5 rfl rfl ?_
    refine g_iload_n (pc := 6) dJ7_fill_53178_6 rfl rfl ?_
    refine g_icmp_ge (pc := 7) (tgt := 20) dJ7_fill_53178_7 rfl (fun c_9 => ?_) (fun c_9 => ?_)
    · replace hF := am_yes c_9 hF
      cases hF
      cases hE_6 _ rfl
      exact g_weak hX_4 ⟨Or.inr rfl, Or.inr rfl, Or.inl rfl, Or.inr rfl, trivial⟩
    · replace hF := am_no c_9 hF
      refine g_aload_n (pc := 10) dJ7_fill_53178_10 rfl rfl ?_
      refine g_iload_n (pc := 11) dJ7_fill_53178_11 rfl rfl ?_
      refine g_iload_n (pc := 12) dJ7_fill_53178_12 rfl rfl ?_
      obtain ⟨c_10, hF⟩ := am_gd hF
      obtain ⟨I_11, e_I_11, hF⟩ := am_let_el hF
      refine n_iast (pc := 13) (k := 16) e_I_11 rfl (hPl.lt (by decide)) (am_ix_use c_10) dJ7_fill_53178_13 ?_
      obtain ⟨l2_12, e_l2_12, hF⟩ := am_let_el hF
      refine n_iinc (pc := 14) (ls2 := [.ref 16, .int a2, .int l2_12, .int (112 : Int32)]) e_l2_12 rfl rfl rfl dJ7_fill_53178_14 (Nat.le_of_ble_eq_true rfl) ?_
      refine g_goto (pc := 17) (tgt := 5) dJ7_fill_53178_17 rfl ?_
      cases hF
      exact ih_5 (l2_12, I_11) rfl
    ) _ _ hL_7
  exact hC
def F_X1_clear_15 (I : am_IT) : Option (am_IT) := am_let (up2 I 15 0 (0 : Int32)) (fun (I_1 : am_IT) => am_b1 (F_J7_fill_53178_16 I_1 (0 : Int32)) (fun (I_3 : am_IT) => some I_3))
set_option maxRecDepth 100000 in
set_option maxHeartbeats 4000000 in
theorem s_X1_clear_15 {l : Launch} {d N : Nat} {P : am_PT} (hPl : am_Pl 94 N P) (hd : 2 ≤ d) {I : am_IT} {I2 : am_IT} (hF : F_X1_clear_15 I = some (I2)) : am_C l d 0 0 mX1_clear [.ref 15] N P I (am_qv N P I2) := by
  refine am_body (sc := am_sc0) (n := 0) (by decide +kernel) (by decide) rfl ?_
  change G am_sc0 l d 0 0 mX1_clear (am_qv N P I2) 0 [.ref 15] [] N P I 0 0
  unfold F_X1_clear_15 at hF
  refine g_aload_n (pc := 0) dX1_clear_0 rfl rfl ?_
  refine g_iconst (pc := 1) (v := (0 : Int32)) dX1_clear_1 rfl ?_
  obtain ⟨I_1, e_I_1, hF⟩ := am_let_el hF
  refine n_putI (pc := 2) (k := 15) e_I_1 kf_X1_9 rfl rfl (hPl.lt (by decide)) dX1_clear_2 ?_
  refine g_aload_n (pc := 5) dX1_clear_5 rfl rfl ?_
  refine g_getR (pc := 6) (k := 15) (r := 16) kf_X1_15.r rfl rfl (hPl.get (by decide) rfl) (hPl.lt (by decide)) dX1_clear_6 ?_
  refine g_iconst (pc := 9) (v := (0 : Int32)) dX1_clear_9 rfl ?_
  obtain ⟨I_3, h_2, hF⟩ := am_b1_el hF
  refine g_cSv (pc := 10) (As := [.ref 16, .int (0 : Int32)]) (st := []) ky_J7_fill_53178 kl_X1_22 (s_J7_fill_53178_16 (d := 1) (hPl) (Nat.le_refl _) h_2) rfl rfl (Nat.le_trans (by decide) hd) (Nat.le_of_ble_eq_true rfl) (Nat.le_refl _) (Nat.le_refl _) dX1_clear_10 ?_
  cases hF
  exact g_vret (pc := 13) rfl (Nat.le_refl _) (Nat.le_refl _) dX1_clear_13 ⟨rfl, rfl, rfl, rfl⟩
def F_J7_fill_53178_19 (I : am_IT) (a2 : Int32) : Option (am_IT) := am_b1 (am_it am_fu (am_u2 (fun (l2_1 : Int32) (I_2 : am_IT) => if (9 : Int32) ≤ l2_1 then (some (.inr (I_2))) else (if am_ix l2_1 9 = true then (am_let (up2 I_2 19 l2_1.toNatClampNeg a2) (fun (I_11 : am_IT) => am_let (l2_1 + (1 : Int32)) (fun (l2_12 : Int32) => some (.inl (l2_12, I_11))))) else none))) ((0 : Int32), I)) (fun (I_3 : am_IT) => some I_3)
set_option maxRecDepth 100000 in
set_option maxHeartbeats 4000000 in
theorem s_J7_fill_53178_19 {l : Launch} {d N : Nat} {P : am_PT} (hPl : am_Pl 94 N P) (hd : 1 ≤ d) {I : am_IT} {a2 : Int32} {I2 : am_IT} (hF : F_J7_fill_53178_19 I a2 = some (I2)) : am_C l d 0 0 mJ7_fill_53178 [.ref 19, .int a2] N P I (am_qv N P I2) := by
  refine am_body (sc := am_sc0) (n := 2) (by decide +kernel) (by decide) rfl ?_
  change G am_sc0 l d 0 0 mJ7_fill_53178 (am_qv N P I2) 0 [.ref 19, .int a2, .null, .null] [] N P I 0 0
  unfold F_J7_fill_53178_19 at hF
  refine g_iconst (pc := 0) (v := (0 : Int32)) dJ7_fill_53178_0 rfl ?_
  refine n_istore_n (pc := 1) (ls2 := [.ref 19, .int a2, .int (0 : Int32), .null]) rfl rfl dJ7_fill_53178_1 rfl (Nat.le_of_ble_eq_true rfl) ?_
  refine g_aload_n (pc := 2) dJ7_fill_53178_2 rfl rfl ?_
  refine g_alen (pc := 3) (k := 19) (v := 9) rfl (hPl.lt (by decide)) rfl dJ7_fill_53178_3 ?_
  refine n_istore_n (pc := 4) (ls2 := [.ref 19, .int a2, .int (0 : Int32), .int (9 : Int32)]) rfl rfl dJ7_fill_53178_4 rfl (Nat.le_of_ble_eq_true rfl) ?_
  obtain ⟨I_3, hL_7, hF⟩ := am_b1_el hF
  have hX_4 : G am_sc0 l d 0 0 mJ7_fill_53178 (am_qv N P I2) 20 [.ref 19, .int a2, .null, .int (9 : Int32)] [] N P I_3 0 0 := by
    cases hF
    exact g_vret (pc := 20) rfl (Nat.le_refl _) (Nat.le_refl _) dJ7_fill_53178_20 ⟨rfl, rfl, rfl, rfl⟩
  clear hF
  have hC := am_loop (C := fun x => G am_sc0 l d 0 0 mJ7_fill_53178 (am_qv N P I2) 5 [.ref 19, .int a2, .int x.1, .int (9 : Int32)] [] N P x.2 0 0) (by
    rintro ⟨l2_1, I_2⟩ rr hF ih_5 hE_6
    replace hF := am_u2_ap hF
    change G am_sc0 l d 0 0 mJ7_fill_53178 (am_qv N P I2) 5 [.ref 19, .int a2, .int l2_1, .int (9 : Int32)] [] N P I_2 0 0
    refine g_iload_n (pc := 5) dJ7_fill_53178_5 rfl rfl ?_
    refine g_iload_n (pc := 6) dJ7_fill_53178_6 rfl rfl ?_
    refine g_icmp_ge (pc := 7) (tgt := 20) dJ7_fill_53178_7 rfl (fun c_9 => ?_) (fun c_9 => ?_)
    · replace hF := am_yes c_9 hF
      cases hF
      cases hE_6 _ rfl
      exact g_weak hX_4 ⟨Or.inr rfl, Or.inr rfl, Or.inl rfl, Or.inr rfl, trivial⟩
    · replace hF := am_no c_9 hF
      refine g_aload_n (pc := 10) dJ7_fill_53178_10 rfl rfl ?_
      refine g_iload_n (pc := 11) dJ7_fill_53178_11 rfl rfl ?_
      refine g_iload_n (pc := 12) dJ7_fill_53178_12 rfl rfl ?_
      obtain ⟨c_10, hF⟩ := am_gd hF
      obtain ⟨I_11, e_I_11, hF⟩ := am_let_el hF
      refine n_iast (pc := 13) (k := 19) e_I_11 rfl (hPl.lt (by decide)) (am_ix_use c_10) dJ7_fill_53178_13 ?_
      obtain ⟨l2_12, e_l2_12, hF⟩ := am_let_el hF
      refine n_iinc (pc := 14) (ls2 := [.ref 19, .int a2, .int l2_12, .int (9 : Int32)]) e_l2_12 rfl rfl rfl dJ7_fill_53178_14 (Nat.le_of_ble_eq_true rfl) ?_
      refine g_goto (pc := 17) (tgt := 5) dJ7_fill_53178_17 rfl ?_
      cases hF
      exact ih_5 (l2_12, I_11) rfl
    ) _ _ hL_7
  exact hC
def F_J7_fill_53178_20 (I : am_IT) (a2 : Int32) : Option (am_IT) := am_b1 (am_it am_fu (am_u2 (fun (l2_1 : Int32) (I_2 : am_IT) => if (81 : Int32) ≤ l2_1 then (some (.inr (I_2))) else (if am_ix l2_1 81 = true then (am_let (up2 I_2 20 l2_1.toNatClampNeg a2) (fun (I_11 : am_IT) => am_let (l2_1 + (1 : Int32)) (fun (l2_12 : Int32) => some (.inl (l2_12, I_11))))) else none))) ((0 : Int32), I)) (fun (I_3 : am_IT) => some I_3)
set_option maxRecDepth 100000 in
set_option maxHeartbeats 4000000 in
theorem s_J7_fill_53178_20 {l : Launch} {d N : Nat} {P : am_PT} (hPl : am_Pl 94 N P) (hd : 1 ≤ d) {I : am_IT} {a2 : Int32} {I2 : am_IT} (hF : F_J7_fill_53178_20 I a2 = some (I2)) : am_C l d 0 0 mJ7_fill_53178 [.ref 20, .int a2] N P I (am_qv N P I2) := by
  refine am_body (sc := am_sc0) (n := 2) (by decide +kernel) (by decide) rfl ?_
  change G am_sc0 l d 0 0 mJ7_fill_53178 (am_qv N P I2) 0 [.ref 20, .int a2, .null, .null] [] N P I 0 0
  unfold F_J7_fill_53178_20 at hF
  refine g_iconst (pc := 0) (v := (0 : Int32)) dJ7_fill_53178_0 rfl ?_
  refine n_istore_n (pc := 1) (ls2 := [.ref 20, .int a2, .int (0 : Int32), .null]) rfl rfl dJ7_fill_53178_1 rfl (Nat.le_of_ble_eq_true rfl) ?_
  refine g_aload_n (pc := 2) dJ7_fill_53178_2 rfl rfl ?_
  refine g_alen (pc := 3) (k := 20) (v := 81) rfl (hPl.lt (by decide)) rfl dJ7_fill_53178_3 ?_
  refine n_istore_n (pc := 4) (ls2 := [.ref 20, .int a2, .int (0 : Int32), .int (81 : Int32)]) rfl rfl dJ7_fill_53178_4 rfl (Nat.le_of_ble_eq_true rfl) ?_
  obtain ⟨I_3, hL_7, hF⟩ := am_b1_el hF
  have hX_4 : G am_sc0 l d 0 0 mJ7_fill_53178 (am_qv N P I2) 20 [.ref 20, .int a2, .null, .int (81 : Int32)] [] N P I_3 0 0 := by
    cases hF
    exact g_vret (pc := 20) rfl (Nat.le_refl _) (Nat.le_refl _) dJ7_fill_53178_20 ⟨rfl, rfl, rfl, rfl⟩
  clear hF
  have hC := am_loop (C := fun x => G am_sc0 l d 0 0 mJ7_fill_53178 (am_qv N P I2) 5 [.ref 20, .int a2, .int x.1, .int (81 : Int32)] [] N P x.2 0 0) (by
    rintro ⟨l2_1, I_2⟩ rr hF ih_5 hE_6
    replace hF := am_u2_ap hF
    change G am_sc0 l d 0 0 mJ7_fill_53178 (am_qv N P I2) 5 [.ref 20, .int a2, .int l2_1, .int (81 : Int32)] [] N P I_2 0 0
    refine g_iload_n (pc := 5) dJ7_fill_53178_5 rfl rfl ?_
    refine g_iload_n (pc := 6) dJ7_fill_53178_6 rfl rfl ?_
    refine g_icmp_ge (pc := 7) (tgt := 20) dJ7_fill_53178_7 rfl (fun c_9 => ?_) (fun c_9 => ?_)
    · replace hF := am_yes c_9 hF
      cases hF
      cases hE_6 _ rfl
      exact g_weak hX_4 ⟨Or.inr rfl, Or.inr rfl, Or.inl rfl, Or.inr rfl, trivial⟩
    · replace hF := am_no c_9 hF
      refine g_aload_n (pc := 10) dJ7_fill_53178_10 rfl rfl ?_
      refine g_iload_n (pc := 11) dJ7_fill_53178_11 rfl rfl ?_
      refine g_iload_n (pc := 12) dJ7_fill_53178_12 rfl rfl ?_
      obtain ⟨c_10, hF⟩ := am_gd hF
      obtain ⟨I_11, e_I_11, hF⟩ := am_let_el hF
      refine n_iast (pc := 13) (k := 20) e_I_11 rfl (hPl.lt (by decide)) (am_ix_use c_10) dJ7_fill_53178_13 ?_
      obtain ⟨l2_12, e_l2_12, hF⟩ := am_let_el hF
      refine n_iinc (pc := 14) (ls2 := [.ref 20, .int a2, .int l2_12, .int (81 : Int32)]) e_l2_12 rfl rfl rfl dJ7_fill_53178_14 (Nat.le_of_ble_eq_true rfl) ?_
      refine g_goto (pc := 17) (tgt := 5) dJ7_fill_53178_17 rfl ?_
      cases hF
      exact ih_5 (l2_12, I_11) rfl
    ) _ _ hL_7
  exact hC
def F_X5_clear_18 (I : am_IT) : Option (am_IT) := am_b1 (F_J7_fill_53178_19 I (0 : Int32)) (fun (I_2 : am_IT) => am_b1 (F_J7_fill_53178_20 I_2 (0 : Int32)) (fun (I_4 : am_IT) => some I_4))
set_option maxRecDepth 100000 in
set_option maxHeartbeats 4000000 in
theorem s_X5_clear_18 {l : Launch} {d N : Nat} {P : am_PT} (hPl : am_Pl 94 N P) (hd : 2 ≤ d) {I : am_IT} {I2 : am_IT} (hF : F_X5_clear_18 I = some (I2)) : am_C l d 0 0 mX5_clear [.ref 18] N P I (am_qv N P I2) := by
  refine am_body (sc := am_sc0) (n := 0) (by decide +kernel) (by decide) rfl ?_
  change G am_sc0 l d 0 0 mX5_clear (am_qv N P I2) 0 [.ref 18] [] N P I 0 0
  unfold F_X5_clear_18 at hF
  refine g_aload_n (pc := 0) dX5_clear_0 rfl rfl ?_
  refine g_getR (pc := 1) (k := 18) (r := 19) kf_X5_9.r rfl rfl (hPl.get (by decide) rfl) (hPl.lt (by decide)) dX5_clear_1 ?_
  refine g_iconst (pc := 4) (v := (0 : Int32)) dX5_clear_4 rfl ?_
  obtain ⟨I_2, h_1, hF⟩ := am_b1_el hF
  refine g_cSv (pc := 5) (As := [.ref 19, .int (0 : Int32)]) (st := []) ky_J7_fill_53178 kl_X5_37 (s_J7_fill_53178_19 (d := 1) (hPl) (Nat.le_refl _) h_1) rfl rfl (Nat.le_trans (by decide) hd) (Nat.le_of_ble_eq_true rfl) (Nat.le_refl _) (Nat.le_refl _) dX5_clear_5 ?_
  refine g_aload_n (pc := 8) dX5_clear_8 rfl rfl ?_
  refine g_getR (pc := 9) (k := 18) (r := 20) kf_X5_15.r rfl rfl (hPl.get (by decide) rfl) (hPl.lt (by decide)) dX5_clear_9 ?_
  refine g_iconst (pc := 12) (v := (0 : Int32)) dX5_clear_12 rfl ?_
  obtain ⟨I_4, h_3, hF⟩ := am_b1_el hF
  refine g_cSv (pc := 13) (As := [.ref 20, .int (0 : Int32)]) (st := []) ky_J7_fill_53178 kl_X5_37 (s_J7_fill_53178_20 (d := 1) (hPl) (Nat.le_refl _) h_3) rfl rfl (Nat.le_trans (by decide) hd) (Nat.le_of_ble_eq_true rfl) (Nat.le_refl _) (Nat.le_refl _) dX5_clear_13 ?_
  cases hF
  exact g_vret (pc := 16) rfl (Nat.le_refl _) (Nat.le_refl _) dX5_clear_16 ⟨rfl, rfl, rfl, rfl⟩
def F_X9_clear_1 (I : am_IT) (a1 : Int32) : Option (am_IT) := am_let (up2 I 1 0 a1) (fun (I_1 : am_IT) => am_let (up2 I_1 1 2 (0 : Int32)) (fun (I_2 : am_IT) => am_let (up2 I_2 1 3 (0 : Int32)) (fun (I_3 : am_IT) => am_let (up2 I_3 1 4 (0 : Int32)) (fun (I_4 : am_IT) => am_let (up2 I_4 1 5 (0 : Int32)) (fun (I_5 : am_IT) => am_b1 (F_J7_fill_53178_2 I_5 (0 : Int32)) (fun (I_7 : am_IT) => am_b1 (F_J7_fill_53178_5 I_7 (0 : Int32)) (fun (I_9 : am_IT) => am_b1 (F_J7_fill_53178_7 I_9 (0 : Int32)) (fun (I_11 : am_IT) => am_b1 (F_J7_fill_53178_8 I_11 (0 : Int32)) (fun (I_13 : am_IT) => am_b1 (F_J7_fill_53178_9 I_13 (0 : Int32)) (fun (I_15 : am_IT) => am_b1 (F_J7_fill_53178_10 I_15 (0 : Int32)) (fun (I_17 : am_IT) => am_b1 (F_X6_clear_11 I_17) (fun (I_19 : am_IT) => am_b1 (F_X1_clear_15 I_19) (fun (I_21 : am_IT) => am_b1 (F_X5_clear_18 I_21) (fun (I_23 : am_IT) => some I_23))))))))))))))
set_option maxRecDepth 100000 in
set_option maxHeartbeats 4000000 in
theorem s_X9_clear_1 {l : Launch} {d N : Nat} {P : am_PT} (hPl : am_Pl 94 N P) (hd : 3 ≤ d) {I : am_IT} {a1 : Int32} {I2 : am_IT} (hF : F_X9_clear_1 I a1 = some (I2)) : am_C l d 0 0 mX9_clear [.ref 1, .int a1] N P I (am_qv N P I2) := by
  refine am_body (sc := am_sc0) (n := 0) (by decide +kernel) (by decide) rfl ?_
  change G am_sc0 l d 0 0 mX9_clear (am_qv N P I2) 0 [.ref 1, .int a1] [] N P I 0 0
  unfold F_X9_clear_1 at hF
  refine g_aload_n (pc := 0) dX9_clear_0 rfl rfl ?_
  refine g_iload_n (pc := 1) dX9_clear_1 rfl rfl ?_
  obtain ⟨I_1, e_I_1, hF⟩ := am_let_el hF
  refine n_putI (pc := 2) (k := 1) e_I_1 kf_X9_9 rfl rfl (hPl.lt (by decide)) dX9_clear_2 ?_
  refine g_aload_n (pc := 5) dX9_clear_5 rfl rfl ?_
  refine g_iconst (pc := 6) (v := (0 : Int32)) dX9_clear_6 rfl ?_
  obtain ⟨I_2, e_I_2, hF⟩ := am_let_el hF
  refine n_putI (pc := 7) (k := 1) e_I_2 kf_X9_18 rfl rfl (hPl.lt (by decide)) dX9_clear_7 ?_
  refine g_aload_n (pc := 10) dX9_clear_10 rfl rfl ?_
  refine g_iconst (pc := 11) (v := (0 : Int32)) dX9_clear_11 rfl ?_
  obtain ⟨I_3, e_I_3, hF⟩ := am_let_el hF
  refine n_putI (pc := 12) (k := 1) e_I_3 kf_X9_21 rfl rfl (hPl.lt (by decide)) dX9_clear_12 ?_
  refine g_aload_n (pc := 15) dX9_clear_15 rfl rfl ?_
  refine g_iconst (pc := 16) (v := (0 : Int32)) dX9_clear_16 rfl ?_
  obtain ⟨I_4, e_I_4, hF⟩ := am_let_el hF
  refine n_putI (pc := 17) (k := 1) e_I_4 kf_X9_24 rfl rfl (hPl.lt (by decide)) dX9_clear_17 ?_
  refine g_aload_n (pc := 20) dX9_clear_20 rfl rfl ?_
  refine g_iconst (pc := 21) (v := (0 : Int32)) dX9_clear_21 rfl ?_
  obtain ⟨I_5, e_I_5, hF⟩ := am_let_el hF
  refine n_putI (pc := 22) (k := 1) e_I_5 kf_X9_27 rfl rfl (hPl.lt (by decide)) dX9_clear_22 ?_
  refine g_aload_n (pc := 25) dX9_clear_25 rfl rfl ?_
  refine g_getR (pc := 26) (k := 1) (r := 2) kf_X9_30.r rfl rfl (hPl.get (by decide) rfl) (hPl.lt (by decide)) dX9_clear_26 ?_
  refine g_iconst (pc := 29) (v := (0 : Int32)) dX9_clear_29 rfl ?_
  obtain ⟨I_7, h_6, hF⟩ := am_b1_el hF
  refine g_cSv (pc := 30) (As := [.ref 2, .int (0 : Int32)]) (st := []) ky_J7_fill_53178 kl_X9_79 (s_J7_fill_53178_2 (d := 1) (hPl) (Nat.le_refl _) h_6) rfl rfl (Nat.le_trans (by decide) hd) (Nat.le_of_ble_eq_true rfl) (Nat.le_refl _) (Nat.le_refl _) dX9_clear_30 ?_
  refine g_aload_n (pc := 33) dX9_clear_33 rfl rfl ?_
  refine g_getR (pc := 34) (k := 1) (r := 5) kf_X9_40.r rfl rfl (hPl.get (by decide) rfl) (hPl.lt (by decide)) dX9_clear_34 ?_
  refine g_iconst (pc := 37) (v := (0 : Int32)) dX9_clear_37 rfl ?_
  obtain ⟨I_9, h_8, hF⟩ := am_b1_el hF
  refine g_cSv (pc := 38) (As := [.ref 5, .int (0 : Int32)]) (st := []) ky_J7_fill_53178 kl_X9_79 (s_J7_fill_53178_5 (d := 1) (hPl) (Nat.le_refl _) h_8) rfl rfl (Nat.le_trans (by decide) hd) (Nat.le_of_ble_eq_true rfl) (Nat.le_refl _) (Nat.le_refl _) dX9_clear_38 ?_
  refine g_aload_n (pc := 41) dX9_clear_41 rfl rfl ?_
  refine g_getR (pc := 42) (k := 1) (r := 7) kf_X9_46.r rfl rfl (hPl.get (by decide) rfl) (hPl.lt (by decide)) dX9_clear_42 ?_
  refine g_iconst (pc := 45) (v := (0 : Int32)) dX9_clear_45 rfl ?_
  obtain ⟨I_11, h_10, hF⟩ := am_b1_el hF
  refine g_cSv (pc := 46) (As := [.ref 7, .int (0 : Int32)]) (st := []) ky_J7_fill_53178 kl_X9_79 (s_J7_fill_53178_7 (d := 1) (hPl) (Nat.le_refl _) h_10) rfl rfl (Nat.le_trans (by decide) hd) (Nat.le_of_ble_eq_true rfl) (Nat.le_refl _) (Nat.le_refl _) dX9_clear_46 ?_
  refine g_aload_n (pc := 49) dX9_clear_49 rfl rfl ?_
  refine g_getR (pc := 50) (k := 1) (r := 8) kf_X9_49.r rfl rfl (hPl.get (by decide) rfl) (hPl.lt (by decide)) dX9_clear_50 ?_
  refine g_iconst (pc := 53) (v := (0 : Int32)) dX9_clear_53 rfl ?_
  obtain ⟨I_13, h_12, hF⟩ := am_b1_el hF
  refine g_cSv (pc := 54) (As := [.ref 8, .int (0 : Int32)]) (st := []) ky_J7_fill_53178 kl_X9_79 (s_J7_fill_53178_8 (d := 1) (hPl) (Nat.le_refl _) h_12) rfl rfl (Nat.le_trans (by decide) hd) (Nat.le_of_ble_eq_true rfl) (Nat.le_refl _) (Nat.le_refl _) dX9_clear_54 ?_
  refine g_aload_n (pc := 57) dX9_clear_57 rfl rfl ?_
  refine g_getR (pc := 58) (k := 1) (r := 9) kf_X9_52.r rfl rfl (hPl.get (by decide) rfl) (hPl.lt (by decide)) dX9_clear_58 ?_
  refine g_iconst (pc := 61) (v := (0 : Int32)) dX9_clear_61 rfl ?_
  obtain ⟨I_15, h_14, hF⟩ := am_b1_el hF
  refine g_cSv (pc := 62) (As := [.ref 9, .int (0 : Int32)]) (st := []) ky_J7_fill_53178 kl_X9_79 (s_J7_fill_53178_9 (d := 1) (hPl) (Nat.le_refl _) h_14) rfl rfl (Nat.le_trans (by decide) hd) (Nat.le_of_ble_eq_true rfl) (Nat.le_refl _) (Nat.le_refl _) dX9_clear_62 ?_
  refine g_aload_n (pc := 65) dX9_clear_65 rfl rfl ?_
  refine g_getR (pc := 66) (k := 1) (r := 10) kf_X9_55.r rfl rfl (hPl.get (by decide) rfl) (hPl.lt (by decide)) dX9_clear_66 ?_
  refine g_iconst (pc := 69) (v := (0 : Int32)) dX9_clear_69 rfl ?_
  obtain ⟨I_17, h_16, hF⟩ := am_b1_el hF
  refine g_cSv (pc := 70) (As := [.ref 10, .int (0 : Int32)]) (st := []) ky_J7_fill_53178 kl_X9_79 (s_J7_fill_53178_10 (d := 1) (hPl) (Nat.le_refl _) h_16) rfl rfl (Nat.le_trans (by decide) hd) (Nat.le_of_ble_eq_true rfl) (Nat.le_refl _) (Nat.le_refl _) dX9_clear_70 ?_
  refine g_aload_n (pc := 73) dX9_clear_73 rfl rfl ?_
  refine g_getR (pc := 74) (k := 1) (r := 11) kf_X9_61.r rfl rfl (hPl.get (by decide) rfl) (hPl.lt (by decide)) dX9_clear_74 ?_
  obtain ⟨I_19, h_18, hF⟩ := am_b1_el hF
  refine g_cVv (pc := 77) (k := 11) (As := []) (st := []) ky_X6_clear kl_X9_85 (s_X6_clear_11 (d := 1) (hPl) (Nat.le_refl _) h_18) rfl rfl rfl (hPl.lt (by decide)) (Nat.le_trans (by decide) hd) (Nat.le_of_ble_eq_true rfl) (Nat.le_refl _) (Nat.le_refl _) dX9_clear_77 ?_
  refine g_aload_n (pc := 80) dX9_clear_80 rfl rfl ?_
  refine g_getR (pc := 81) (k := 1) (r := 15) kf_X9_68.r rfl rfl (hPl.get (by decide) rfl) (hPl.lt (by decide)) dX9_clear_81 ?_
  obtain ⟨I_21, h_20, hF⟩ := am_b1_el hF
  refine g_cVv (pc := 84) (k := 15) (As := []) (st := []) ky_X1_clear kl_X9_88 (s_X1_clear_15 (d := 2) (hPl) (Nat.le_refl _) h_20) rfl rfl rfl (hPl.lt (by decide)) (Nat.le_trans (by decide) hd) (Nat.le_of_ble_eq_true rfl) (Nat.le_refl _) (Nat.le_refl _) dX9_clear_84 ?_
  refine g_aload_n (pc := 87) dX9_clear_87 rfl rfl ?_
  refine g_getR (pc := 88) (k := 1) (r := 18) kf_X9_75.r rfl rfl (hPl.get (by decide) rfl) (hPl.lt (by decide)) dX9_clear_88 ?_
  obtain ⟨I_23, h_22, hF⟩ := am_b1_el hF
  refine g_cVv (pc := 91) (k := 18) (As := []) (st := []) ky_X5_clear kl_X9_89 (s_X5_clear_18 (d := 2) (hPl) (Nat.le_refl _) h_22) rfl rfl rfl (hPl.lt (by decide)) (Nat.le_trans (by decide) hd) (Nat.le_of_ble_eq_true rfl) (Nat.le_refl _) (Nat.le_refl _) dX9_clear_91 ?_
  cases hF
  exact g_vret (pc := 94) rfl (Nat.le_refl _) (Nat.le_refl _) dX9_clear_94 ⟨rfl, rfl, rfl, rfl⟩
def F_X11_colours_0 (I : am_IT) (a1 : Int32) : Option (Int32 × am_IT) := if a1 < (2 : Int32) then (some ((0 : Int32), I)) else (if a1 ≤ (4 : Int32) then (am_b1 (F_X9_clear_1 I a1) (fun (I_4 : am_IT) => some ((1 : Int32), I_4))) else (some ((0 : Int32), I)))
set_option maxRecDepth 100000 in
set_option maxHeartbeats 4000000 in
theorem s_X11_colours_0 {l : Launch} {d N : Nat} {P : am_PT} (hPl : am_Pl 94 N P) (hd : 4 ≤ d) {I : am_IT} {a1 : Int32} {r : Int32} {I2 : am_IT} (hF : F_X11_colours_0 I a1 = some (r, I2)) : am_C l d 0 0 mX11_colours [.ref 0, .int a1] N P I (am_qz r N P I2) := by
  refine am_body (sc := am_sc0) (n := 0) (by decide +kernel) (by decide) rfl ?_
  change G am_sc0 l d 0 0 mX11_colours (am_qz r N P I2) 0 [.ref 0, .int a1] [] N P I 0 0
  unfold F_X11_colours_0 at hF
  refine g_iload_n (pc := 0) dX11_colours_0 rfl rfl ?_
  refine g_iconst (pc := 1) (v := (2 : Int32)) dX11_colours_1 rfl ?_
  refine g_icmp_lt (pc := 2) (tgt := 10) dX11_colours_2 rfl (fun c_1 => ?_) (fun c_1 => ?_)
  · replace hF := am_yes c_1 hF
    refine g_iconst (pc := 10) (v := (0 : Int32)) dX11_colours_10 rfl ?_
    cases hF
    exact g_zret (pc := 11) rfl (Or.inl rfl) (Nat.le_refl _) (Nat.le_refl _) dX11_colours_11 ⟨(Or.inl rfl), rfl, rfl, rfl, rfl⟩
  · replace hF := am_no c_1 hF
    refine g_iload_n (pc := 5) dX11_colours_5 rfl rfl ?_
    refine g_iconst (pc := 6) (v := (4 : Int32)) dX11_colours_6 rfl ?_
    refine g_icmp_le (pc := 7) (tgt := 12) dX11_colours_7 rfl (fun c_2 => ?_) (fun c_2 => ?_)
    · replace hF := am_yes c_2 hF
      refine g_aload_n (pc := 12) dX11_colours_12 rfl rfl ?_
      refine g_getR (pc := 13) (k := 0) (r := 1) kf_X11_12.r rfl rfl (hPl.get (by decide) rfl) (hPl.lt (by decide)) dX11_colours_13 ?_
      refine g_iload_n (pc := 16) dX11_colours_16 rfl rfl ?_
      obtain ⟨I_4, h_3, hF⟩ := am_b1_el hF
      refine g_cVv (pc := 17) (k := 1) (As := [.int a1]) (st := []) ky_X9_clear kl_X11_89 (s_X9_clear_1 (d := 3) (hPl) (Nat.le_refl _) h_3) rfl rfl rfl (hPl.lt (by decide)) (Nat.le_trans (by decide) hd) (Nat.le_of_ble_eq_true rfl) (Nat.le_refl _) (Nat.le_refl _) dX11_colours_17 ?_
      refine g_iconst (pc := 20) (v := (1 : Int32)) dX11_colours_20 rfl ?_
      cases hF
      exact g_zret (pc := 21) rfl (Or.inr rfl) (Nat.le_refl _) (Nat.le_refl _) dX11_colours_21 ⟨(Or.inr rfl), rfl, rfl, rfl, rfl⟩
    · replace hF := am_no c_2 hF
      refine g_iconst (pc := 10) (v := (0 : Int32)) dX11_colours_10 rfl ?_
      cases hF
      exact g_zret (pc := 11) rfl (Or.inl rfl) (Nat.le_refl _) (Nat.le_refl _) dX11_colours_11 ⟨(Or.inl rfl), rfl, rfl, rfl, rfl⟩
def F_X9_hasColour_1 (I : am_IT) (a1 : Int32) : Option (Int32) := if a1 < 0 then (some (0 : Int32)) else (if (I 1 0) ≤ a1 then (some (0 : Int32)) else (some (1 : Int32)))
set_option maxRecDepth 100000 in
set_option maxHeartbeats 4000000 in
theorem s_X9_hasColour_1 {l : Launch} {d N : Nat} {P : am_PT} (hPl : am_Pl 94 N P) (hd : 1 ≤ d) {I : am_IT} {a1 : Int32} {r : Int32} (hF : F_X9_hasColour_1 I a1 = some (r)) : am_C l d 0 0 mX9_hasColour [.ref 1, .int a1] N P I (am_qz r N P I) := by
  refine am_body (sc := am_sc0) (n := 0) (by decide +kernel) (by decide) rfl ?_
  change G am_sc0 l d 0 0 mX9_hasColour (am_qz r N P I) 0 [.ref 1, .int a1] [] N P I 0 0
  unfold F_X9_hasColour_1 at hF
  refine g_iload_n (pc := 0) dX9_hasColour_0 rfl rfl ?_
  refine g_if_lt (pc := 1) (tgt := 16) dX9_hasColour_1 rfl (fun c_1 => ?_) (fun c_1 => ?_)
  · replace hF := am_yes c_1 hF
    refine g_iconst (pc := 16) (v := (0 : Int32)) dX9_hasColour_16 rfl ?_
    cases hF
    exact g_zret (pc := 17) rfl (Or.inl rfl) (Nat.le_refl _) (Nat.le_refl _) dX9_hasColour_17 ⟨(Or.inl rfl), rfl, rfl, rfl, rfl⟩
  · replace hF := am_no c_1 hF
    refine g_iload_n (pc := 4) dX9_hasColour_4 rfl rfl ?_
    refine g_aload_n (pc := 5) dX9_hasColour_5 rfl rfl ?_
    refine g_getI (pc := 6) (k := 1) kf_X9_9.r rfl rfl (hPl.lt (by decide)) dX9_hasColour_6 ?_
    refine g_icmp_ge (pc := 9) (tgt := 16) dX9_hasColour_9 rfl (fun c_2 => ?_) (fun c_2 => ?_)
    · replace hF := am_yes c_2 hF
      refine g_iconst (pc := 16) (v := (0 : Int32)) dX9_hasColour_16 rfl ?_
      cases hF
      exact g_zret (pc := 17) rfl (Or.inl rfl) (Nat.le_refl _) (Nat.le_refl _) dX9_hasColour_17 ⟨(Or.inl rfl), rfl, rfl, rfl, rfl⟩
    · replace hF := am_no c_2 hF
      refine g_iconst (pc := 12) (v := (1 : Int32)) dX9_hasColour_12 rfl ?_
      refine g_goto (pc := 13) (tgt := 17) dX9_hasColour_13 rfl ?_
      cases hF
      exact g_zret (pc := 17) rfl (Or.inr rfl) (Nat.le_refl _) (Nat.le_refl _) dX9_hasColour_17 ⟨(Or.inr rfl), rfl, rfl, rfl, rfl⟩
def F_X11_isWithin (I : am_IT) (a1 : Int32) (a2 : Int32) (a3 : Int32) : Option (Int32) := if a1 < a2 then (some (0 : Int32)) else (if a3 < a1 then (some (0 : Int32)) else (some (1 : Int32)))
set_option maxRecDepth 100000 in
set_option maxHeartbeats 4000000 in
theorem s_X11_isWithin {l : Launch} {d N : Nat} {P : am_PT} (hPl : am_Pl 94 N P) (hd : 1 ≤ d) {I : am_IT} {a1 : Int32} {a2 : Int32} {a3 : Int32} {r : Int32} (hF : F_X11_isWithin I a1 a2 a3 = some (r)) : am_C l d 0 0 mX11_isWithin [.int a1, .int a2, .int a3] N P I (am_qz r N P I) := by
  refine am_body (sc := am_sc0) (n := 0) (by decide +kernel) (by decide) rfl ?_
  change G am_sc0 l d 0 0 mX11_isWithin (am_qz r N P I) 0 [.int a1, .int a2, .int a3] [] N P I 0 0
  unfold F_X11_isWithin at hF
  refine g_iload_n (pc := 0) dX11_isWithin_0 rfl rfl ?_
  refine g_iload_n (pc := 1) dX11_isWithin_1 rfl rfl ?_
  refine g_icmp_lt (pc := 2) (tgt := 14) dX11_isWithin_2 rfl (fun c_1 => ?_) (fun c_1 => ?_)
  · replace hF := am_yes c_1 hF
    refine g_iconst (pc := 14) (v := (0 : Int32)) dX11_isWithin_14 rfl ?_
    cases hF
    exact g_zret (pc := 15) rfl (Or.inl rfl) (Nat.le_refl _) (Nat.le_refl _) dX11_isWithin_15 ⟨(Or.inl rfl), rfl, rfl, rfl, rfl⟩
  · replace hF := am_no c_1 hF
    refine g_iload_n (pc := 5) dX11_isWithin_5 rfl rfl ?_
    refine g_iload_n (pc := 6) dX11_isWithin_6 rfl rfl ?_
    refine g_icmp_gt (pc := 7) (tgt := 14) dX11_isWithin_7 rfl (fun c_2 => ?_) (fun c_2 => ?_)
    · replace hF := am_yes c_2 hF
      refine g_iconst (pc := 14) (v := (0 : Int32)) dX11_isWithin_14 rfl ?_
      cases hF
      exact g_zret (pc := 15) rfl (Or.inl rfl) (Nat.le_refl _) (Nat.le_refl _) dX11_isWithin_15 ⟨(Or.inl rfl), rfl, rfl, rfl, rfl⟩
    · replace hF := am_no c_2 hF
      refine g_iconst (pc := 10) (v := (1 : Int32)) dX11_isWithin_10 rfl ?_
      refine g_goto (pc := 11) (tgt := 15) dX11_isWithin_11 rfl ?_
      cases hF
      exact g_zret (pc := 15) rfl (Or.inr rfl) (Nat.le_refl _) (Nat.le_refl _) dX11_isWithin_15 ⟨(Or.inr rfl), rfl, rfl, rfl, rfl⟩
def F_X11_pot_0 (I : am_IT) (a1 : Int32) (a2 : Int32) : Option (Int32 × am_IT) := am_b1 (F_X9_hasColour_1 I a1) (fun (r_2 : Int32) => if r_2 = 0 then (some ((0 : Int32), I)) else (am_b1 (F_X11_isWithin I a2 (0 : Int32) (999 : Int32)) (fun (r_6 : Int32) => if r_6 = 0 then (some ((0 : Int32), I)) else (if am_ix a1 4 = true then (am_let (up2 I 2 a1.toNatClampNeg a2) (fun (I_10 : am_IT) => some ((1 : Int32), I_10))) else none))))
set_option maxRecDepth 100000 in
set_option maxHeartbeats 4000000 in
theorem s_X11_pot_0 {l : Launch} {d N : Nat} {P : am_PT} (hPl : am_Pl 94 N P) (hd : 2 ≤ d) {I : am_IT} {a1 : Int32} {a2 : Int32} {r : Int32} {I2 : am_IT} (hF : F_X11_pot_0 I a1 a2 = some (r, I2)) : am_C l d 0 0 mX11_pot [.ref 0, .int a1, .int a2] N P I (am_qz r N P I2) := by
  refine am_body (sc := am_sc0) (n := 0) (by decide +kernel) (by decide) rfl ?_
  change G am_sc0 l d 0 0 mX11_pot (am_qz r N P I2) 0 [.ref 0, .int a1, .int a2] [] N P I 0 0
  unfold F_X11_pot_0 at hF
  refine g_aload_n (pc := 0) dX11_pot_0 rfl rfl ?_
  refine g_getR (pc := 1) (k := 0) (r := 1) kf_X11_12.r rfl rfl (hPl.get (by decide) rfl) (hPl.lt (by decide)) dX11_pot_1 ?_
  refine g_iload_n (pc := 4) dX11_pot_4 rfl rfl ?_
  obtain ⟨r_2, h_1, hF⟩ := am_b1_el hF
  refine g_cVz (pc := 5) (k := 1) (As := [.int a1]) (st := []) ky_X9_hasColour kl_X11_93 (s_X9_hasColour_1 (d := 1) (hPl) (Nat.le_refl _) h_1) rfl rfl rfl (hPl.lt (by decide)) (Nat.le_trans (by decide) hd) (Nat.le_of_ble_eq_true rfl) (Nat.le_refl _) (Nat.le_refl _) dX11_pot_5 ?_
  intro z_3
  refine g_if_eq (pc := 8) (tgt := 22) dX11_pot_8 rfl (fun c_4 => ?_) (fun c_4 => ?_)
  · replace hF := am_yes c_4 hF
    refine g_iconst (pc := 22) (v := (0 : Int32)) dX11_pot_22 rfl ?_
    cases hF
    exact g_zret (pc := 23) rfl (Or.inl rfl) (Nat.le_refl _) (Nat.le_refl _) dX11_pot_23 ⟨(Or.inl rfl), rfl, rfl, rfl, rfl⟩
  · replace hF := am_no c_4 hF
    refine g_iload_n (pc := 11) dX11_pot_11 rfl rfl ?_
    refine g_iconst (pc := 12) (v := (0 : Int32)) dX11_pot_12 rfl ?_
    refine g_sipush (pc := 13) (v := (999 : Int32)) dX11_pot_13 rfl ?_
    obtain ⟨r_6, h_5, hF⟩ := am_b1_el hF
    refine g_cSz (pc := 16) (As := [.int a2, .int (0 : Int32), .int (999 : Int32)]) (st := []) ky_X11_isWithin kl_X11_97 (s_X11_isWithin (d := 1) (hPl) (Nat.le_refl _) h_5) rfl rfl (Nat.le_trans (by decide) hd) (Nat.le_of_ble_eq_true rfl) (Nat.le_refl _) (Nat.le_refl _) dX11_pot_16 ?_
    intro z_7
    refine g_if_ne (pc := 19) (tgt := 24) dX11_pot_19 rfl (fun c_8 => ?_) (fun c_8 => ?_)
    · replace hF := am_no c_8 hF
      refine g_aload_n (pc := 24) dX11_pot_24 rfl rfl ?_
      refine g_getR (pc := 25) (k := 0) (r := 1) kf_X11_12.r rfl rfl (hPl.get (by decide) rfl) (hPl.lt (by decide)) dX11_pot_25 ?_
      refine g_getR (pc := 28) (k := 1) (r := 2) kf_X11_101 rfl rfl (hPl.get (by decide) rfl) (hPl.lt (by decide)) dX11_pot_28 ?_
      refine g_iload_n (pc := 31) dX11_pot_31 rfl rfl ?_
      refine g_iload_n (pc := 32) dX11_pot_32 rfl rfl ?_
      obtain ⟨c_9, hF⟩ := am_gd hF
      obtain ⟨I_10, e_I_10, hF⟩ := am_let_el hF
      refine n_iast (pc := 33) (k := 2) e_I_10 rfl (hPl.lt (by decide)) (am_ix_use c_9) dX11_pot_33 ?_
      refine g_iconst (pc := 34) (v := (1 : Int32)) dX11_pot_34 rfl ?_
      cases hF
      exact g_zret (pc := 35) rfl (Or.inr rfl) (Nat.le_refl _) (Nat.le_refl _) dX11_pot_35 ⟨(Or.inr rfl), rfl, rfl, rfl, rfl⟩
    · replace hF := am_yes c_8 hF
      refine g_iconst (pc := 22) (v := (0 : Int32)) dX11_pot_22 rfl ?_
      cases hF
      exact g_zret (pc := 23) rfl (Or.inl rfl) (Nat.le_refl _) (Nat.le_refl _) dX11_pot_23 ⟨(Or.inl rfl), rfl, rfl, rfl, rfl⟩
def F_X11_wall_0 (I : am_IT) (a1 : Int32) : Option (Int32 × am_IT) := am_b1 (F_X9_hasColour_1 I a1) (fun (r_2 : Int32) => if r_2 = 0 then (some ((-1 : Int32), I)) else (if (I 1 3) < (7 : Int32) then (if am_ix (I 1 3) 7 = true then (am_let (up2 I 3 (I 1 3).toNatClampNeg a1) (fun (I_7 : am_IT) => am_let (up2 I_7 1 3 ((I_7 1 3) + (1 : Int32))) (fun (I_8 : am_IT) => some ((I_8 1 3) - (1 : Int32), I_8)))) else none) else (some ((-1 : Int32), I))))
set_option maxRecDepth 100000 in
set_option maxHeartbeats 4000000 in
theorem s_X11_wall_0 {l : Launch} {d N : Nat} {P : am_PT} (hPl : am_Pl 94 N P) (hd : 2 ≤ d) {I : am_IT} {a1 : Int32} {r : Int32} {I2 : am_IT} (hF : F_X11_wall_0 I a1 = some (r, I2)) : am_C l d 0 0 mX11_wall [.ref 0, .int a1] N P I (am_qi r N P I2) := by
  refine am_body (sc := am_sc0) (n := 0) (by decide +kernel) (by decide) rfl ?_
  change G am_sc0 l d 0 0 mX11_wall (am_qi r N P I2) 0 [.ref 0, .int a1] [] N P I 0 0
  unfold F_X11_wall_0 at hF
  refine g_aload_n (pc := 0) dX11_wall_0 rfl rfl ?_
  refine g_getR (pc := 1) (k := 0) (r := 1) kf_X11_12.r rfl rfl (hPl.get (by decide) rfl) (hPl.lt (by decide)) dX11_wall_1 ?_
  refine g_iload_n (pc := 4) dX11_wall_4 rfl rfl ?_
  obtain ⟨r_2, h_1, hF⟩ := am_b1_el hF
  refine g_cVz (pc := 5) (k := 1) (As := [.int a1]) (st := []) ky_X9_hasColour kl_X11_93 (s_X9_hasColour_1 (d := 1) (hPl) (Nat.le_refl _) h_1) rfl rfl rfl (hPl.lt (by decide)) (Nat.le_trans (by decide) hd) (Nat.le_of_ble_eq_true rfl) (Nat.le_refl _) (Nat.le_refl _) dX11_wall_5 ?_
  intro z_3
  refine g_if_eq (pc := 8) (tgt := 23) dX11_wall_8 rfl (fun c_4 => ?_) (fun c_4 => ?_)
  · replace hF := am_yes c_4 hF
    refine g_iconst (pc := 23) (v := (-1 : Int32)) dX11_wall_23 (by decide) ?_
    cases hF
    exact g_iret (pc := 24) rfl (Nat.le_refl _) (Nat.le_refl _) dX11_wall_24 ⟨rfl, rfl, rfl, rfl⟩
  · replace hF := am_no c_4 hF
    refine g_aload_n (pc := 11) dX11_wall_11 rfl rfl ?_
    refine g_getR (pc := 12) (k := 0) (r := 1) kf_X11_12.r rfl rfl (hPl.get (by decide) rfl) (hPl.lt (by decide)) dX11_wall_12 ?_
    refine g_getI (pc := 15) (k := 1) kf_X11_104.r rfl rfl (hPl.lt (by decide)) dX11_wall_15 ?_
    refine g_bipush (pc := 18) (v := (7 : Int32)) dX11_wall_18 rfl ?_
    refine g_icmp_lt (pc := 20) (tgt := 25) dX11_wall_20 rfl (fun c_5 => ?_) (fun c_5 => ?_)
    · replace hF := am_yes c_5 hF
      refine g_aload_n (pc := 25) dX11_wall_25 rfl rfl ?_
      refine g_getR (pc := 26) (k := 0) (r := 1) kf_X11_12.r rfl rfl (hPl.get (by decide) rfl) (hPl.lt (by decide)) dX11_wall_26 ?_
      refine g_getR (pc := 29) (k := 1) (r := 3) kf_X11_107 rfl rfl (hPl.get (by decide) rfl) (hPl.lt (by decide)) dX11_wall_29 ?_
      refine g_aload_n (pc := 32) dX11_wall_32 rfl rfl ?_
      refine g_getR (pc := 33) (k := 0) (r := 1) kf_X11_12.r rfl rfl (hPl.get (by decide) rfl) (hPl.lt (by decide)) dX11_wall_33 ?_
      refine g_getI (pc := 36) (k := 1) kf_X11_104.r rfl rfl (hPl.lt (by decide)) dX11_wall_36 ?_
      refine g_iload_n (pc := 39) dX11_wall_39 rfl rfl ?_
      obtain ⟨c_6, hF⟩ := am_gd hF
      obtain ⟨I_7, e_I_7, hF⟩ := am_let_el hF
      refine n_iast (pc := 40) (k := 3) e_I_7 rfl (hPl.lt (by decide)) (am_ix_use c_6) dX11_wall_40 ?_
      refine g_aload_n (pc := 41) dX11_wall_41 rfl rfl ?_
      refine g_getR (pc := 42) (k := 0) (r := 1) kf_X11_12.r rfl rfl (hPl.get (by decide) rfl) (hPl.lt (by decide)) dX11_wall_42 ?_
      refine g_dup (pc := 45) dX11_wall_45 ?_
      refine g_getI (pc := 46) (k := 1) kf_X11_104.r rfl rfl (hPl.lt (by decide)) dX11_wall_46 ?_
      refine g_iconst (pc := 49) (v := (1 : Int32)) dX11_wall_49 rfl ?_
      refine g_iadd (pc := 50) dX11_wall_50 ?_
      obtain ⟨I_8, e_I_8, hF⟩ := am_let_el hF
      refine n_putI (pc := 51) (k := 1) e_I_8 kf_X11_104 rfl rfl (hPl.lt (by decide)) dX11_wall_51 ?_
      refine g_aload_n (pc := 54) dX11_wall_54 rfl rfl ?_
      refine g_getR (pc := 55) (k := 0) (r := 1) kf_X11_12.r rfl rfl (hPl.get (by decide) rfl) (hPl.lt (by decide)) dX11_wall_55 ?_
      refine g_getI (pc := 58) (k := 1) kf_X11_104.r rfl rfl (hPl.lt (by decide)) dX11_wall_58 ?_
      refine g_iconst (pc := 61) (v := (1 : Int32)) dX11_wall_61 rfl ?_
      refine g_isub (pc := 62) dX11_wall_62 ?_
      cases hF
      exact g_iret (pc := 63) rfl (Nat.le_refl _) (Nat.le_refl _) dX11_wall_63 ⟨rfl, rfl, rfl, rfl⟩
    · replace hF := am_no c_5 hF
      refine g_iconst (pc := 23) (v := (-1 : Int32)) dX11_wall_23 (by decide) ?_
      cases hF
      exact g_iret (pc := 24) rfl (Nat.le_refl _) (Nat.le_refl _) dX11_wall_24 ⟨rfl, rfl, rfl, rfl⟩
def F_X11_isHouse (I : am_IT) (a1 : Int32) : Option (Int32) := am_b1 (F_X11_isWithin I a1 (0 : Int32) (7 : Int32)) (fun (r_2 : Int32) => some r_2)
set_option maxRecDepth 100000 in
set_option maxHeartbeats 4000000 in
theorem s_X11_isHouse {l : Launch} {d N : Nat} {P : am_PT} (hPl : am_Pl 94 N P) (hd : 2 ≤ d) {I : am_IT} {a1 : Int32} {r : Int32} (hF : F_X11_isHouse I a1 = some (r)) : am_C l d 0 0 mX11_isHouse [.int a1] N P I (am_qz r N P I) := by
  refine am_body (sc := am_sc0) (n := 0) (by decide +kernel) (by decide) rfl ?_
  change G am_sc0 l d 0 0 mX11_isHouse (am_qz r N P I) 0 [.int a1] [] N P I 0 0
  unfold F_X11_isHouse at hF
  refine g_iload_n (pc := 0) dX11_isHouse_0 rfl rfl ?_
  refine g_iconst (pc := 1) (v := (0 : Int32)) dX11_isHouse_1 rfl ?_
  refine g_bipush (pc := 2) (v := (7 : Int32)) dX11_isHouse_2 rfl ?_
  obtain ⟨r_2, h_1, hF⟩ := am_b1_el hF
  refine g_cSz (pc := 4) (As := [.int a1, .int (0 : Int32), .int (7 : Int32)]) (st := []) ky_X11_isWithin kl_X11_97 (s_X11_isWithin (d := 1) (hPl) (Nat.le_refl _) h_1) rfl rfl (Nat.le_trans (by decide) hd) (Nat.le_of_ble_eq_true rfl) (Nat.le_refl _) (Nat.le_refl _) dX11_isHouse_4 ?_
  intro z_3
  cases hF
  exact g_zret (pc := 7) rfl z_3 (Nat.le_refl _) (Nat.le_refl _) dX11_isHouse_7 ⟨z_3, rfl, rfl, rfl, rfl⟩
def F_X9_livingIn_1 (I : am_IT) (a1 : Int32) : Option (Int32) := am_lr (am_it am_fu (fun (l2_1 : Int32) => if (I 1 4) ≤ l2_1 then (some (.inr (.inl ((0 : Int32))))) else (if am_ix l2_1 7 = true then (if (I 4 l2_1.toNatClampNeg) = a1 then (some (.inr (.inr l2_1))) else (am_let (l2_1 + (1 : Int32)) (fun (l2_11 : Int32) => some (.inl (l2_11))))) else none)) (0 : Int32)) (fun (u_2 : Int32) => some (-1 : Int32))
set_option maxRecDepth 100000 in
set_option maxHeartbeats 4000000 in
theorem s_X9_livingIn_1 {l : Launch} {d N : Nat} {P : am_PT} (hPl : am_Pl 94 N P) (hd : 1 ≤ d) {I : am_IT} {a1 : Int32} {r : Int32} (hF : F_X9_livingIn_1 I a1 = some (r)) : am_C l d 0 0 mX9_livingIn [.ref 1, .int a1] N P I (am_qi r N P I) := by
  refine am_body (sc := am_sc0) (n := 1) (by decide +kernel) (by decide) rfl ?_
  change G am_sc0 l d 0 0 mX9_livingIn (am_qi r N P I) 0 [.ref 1, .int a1, .null] [] N P I 0 0
  unfold F_X9_livingIn_1 at hF
  refine g_iconst (pc := 0) (v := (0 : Int32)) dX9_livingIn_0 rfl ?_
  refine n_istore_n (pc := 1) (ls2 := [.ref 1, .int a1, .int (0 : Int32)]) rfl rfl dX9_livingIn_1 rfl (Nat.le_of_ble_eq_true rfl) ?_
  obtain ⟨x_13, hL_6, hF⟩ := am_lr_el hF
  have hX_3 : ∀ (u_2 : Int32), x_13 = .inl u_2 → G am_sc0 l d 0 0 mX9_livingIn (am_qi r N P I) 28 [.ref 1, .int a1, .null] [] N P I 0 0 := by
    intro u_2 q
    subst q
    refine g_iconst (pc := 28) (v := (-1 : Int32)) dX9_livingIn_28 (by decide) ?_
    cases hF
    exact g_iret (pc := 29) rfl (Nat.le_refl _) (Nat.le_refl _) dX9_livingIn_29 ⟨rfl, rfl, rfl, rfl⟩
  have hZ_7 : ∀ y, x_13 = .inr y → y = _ := fun y q => by subst q; exact hF
  clear hF
  have hC := am_loop (C := fun x => G am_sc0 l d 0 0 mX9_livingIn (am_qi r N P I) 2 [.ref 1, .int a1, .int x] [] N P I 0 0) (by
    intro l2_1 rr hF ih_4 hE_5
    refine g_iload_n (pc := 2) dX9_livingIn_2 rfl rfl ?_
    refine g_aload_n (pc := 3) dX9_livingIn_3 rfl rfl ?_
    refine g_getI (pc := 4) (k := 1) kf_X9_24.r rfl rfl (hPl.lt (by decide)) dX9_livingIn_4 ?_
    refine g_icmp_ge (pc := 7) (tgt := 28) dX9_livingIn_7 rfl (fun c_8 => ?_) (fun c_8 => ?_)
    · replace hF := am_yes c_8 hF
      cases hF
      exact g_weak (hX_3 _ (hE_5 _ rfl).symm) ⟨Or.inr rfl, Or.inr rfl, Or.inl rfl, trivial⟩
    · replace hF := am_no c_8 hF
      refine g_aload_n (pc := 10) dX9_livingIn_10 rfl rfl ?_
      refine g_getR (pc := 11) (k := 1) (r := 4) kf_X9_37.r rfl rfl (hPl.get (by decide) rfl) (hPl.lt (by decide)) dX9_livingIn_11 ?_
      refine g_iload_n (pc := 14) dX9_livingIn_14 rfl rfl ?_
      obtain ⟨c_9, hF⟩ := am_gd hF
      refine g_iald (pc := 15) (k := 4) rfl (hPl.lt (by decide)) (am_ix_use c_9) dX9_livingIn_15 ?_
      refine g_iload_n (pc := 16) dX9_livingIn_16 rfl rfl ?_
      refine g_icmp_ne (pc := 17) (tgt := 22) dX9_livingIn_17 rfl (fun c_10 => ?_) (fun c_10 => ?_)
      · replace hF := am_no c_10 hF
        obtain ⟨l2_11, e_l2_11, hF⟩ := am_let_el hF
        refine n_iinc (pc := 22) (ls2 := [.ref 1, .int a1, .int l2_11]) e_l2_11 rfl rfl rfl dX9_livingIn_22 (Nat.le_of_ble_eq_true rfl) ?_
        refine g_goto (pc := 25) (tgt := 2) dX9_livingIn_25 rfl ?_
        cases hF
        exact ih_4 (l2_11) rfl
      · replace hF := am_yes c_10 hF
        refine g_iload_n (pc := 20) dX9_livingIn_20 rfl rfl ?_
        cases hF
        have q_12 := hZ_7 _ (hE_5 _ rfl).symm
        cases q_12
        exact g_iret (pc := 21) rfl (Nat.le_refl _) (Nat.le_refl _) dX9_livingIn_21 ⟨rfl, rfl, rfl, rfl⟩
    ) _ _ hL_6
  exact hC
def F_X11_person_0 (I : am_IT) (a1 : Int32) : Option (Int32 × am_IT) := am_b1 (F_X11_isHouse I a1) (fun (r_2 : Int32) => if r_2 = 0 then (some ((-1 : Int32), I)) else (if (7 : Int32) ≤ (I 1 4) then (some ((-1 : Int32), I)) else (am_b1 (F_X9_livingIn_1 I a1) (fun (r_7 : Int32) => if r_7 = (-1 : Int32) then (if am_ix (I 1 4) 7 = true then (am_let (up2 I 4 (I 1 4).toNatClampNeg a1) (fun (I_10 : am_IT) => am_let (up2 I_10 1 4 ((I_10 1 4) + (1 : Int32))) (fun (I_11 : am_IT) => some ((I_11 1 4) - (1 : Int32), I_11)))) else none) else (some ((-1 : Int32), I))))))
set_option maxRecDepth 100000 in
set_option maxHeartbeats 4000000 in
theorem s_X11_person_0 {l : Launch} {d N : Nat} {P : am_PT} (hPl : am_Pl 94 N P) (hd : 3 ≤ d) {I : am_IT} {a1 : Int32} {r : Int32} {I2 : am_IT} (hF : F_X11_person_0 I a1 = some (r, I2)) : am_C l d 0 0 mX11_person [.ref 0, .int a1] N P I (am_qi r N P I2) := by
  refine am_body (sc := am_sc0) (n := 0) (by decide +kernel) (by decide) rfl ?_
  change G am_sc0 l d 0 0 mX11_person (am_qi r N P I2) 0 [.ref 0, .int a1] [] N P I 0 0
  unfold F_X11_person_0 at hF
  refine g_iload_n (pc := 0) dX11_person_0 rfl rfl ?_
  obtain ⟨r_2, h_1, hF⟩ := am_b1_el hF
  refine g_cSz (pc := 1) (As := [.int a1]) (st := []) ky_X11_isHouse kl_X11_110 (s_X11_isHouse (d := 2) (hPl) (Nat.le_refl _) h_1) rfl rfl (Nat.le_trans (by decide) hd) (Nat.le_of_ble_eq_true rfl) (Nat.le_refl _) (Nat.le_refl _) dX11_person_1 ?_
  intro z_3
  refine g_if_eq (pc := 4) (tgt := 31) dX11_person_4 rfl (fun c_4 => ?_) (fun c_4 => ?_)
  · replace hF := am_yes c_4 hF
    refine g_iconst (pc := 31) (v := (-1 : Int32)) dX11_person_31 (by decide) ?_
    cases hF
    exact g_iret (pc := 32) rfl (Nat.le_refl _) (Nat.le_refl _) dX11_person_32 ⟨rfl, rfl, rfl, rfl⟩
  · replace hF := am_no c_4 hF
    refine g_aload_n (pc := 7) dX11_person_7 rfl rfl ?_
    refine g_getR (pc := 8) (k := 0) (r := 1) kf_X11_12.r rfl rfl (hPl.get (by decide) rfl) (hPl.lt (by decide)) dX11_person_8 ?_
    refine g_getI (pc := 11) (k := 1) kf_X11_113.r rfl rfl (hPl.lt (by decide)) dX11_person_11 ?_
    refine g_bipush (pc := 14) (v := (7 : Int32)) dX11_person_14 rfl ?_
    refine g_icmp_ge (pc := 16) (tgt := 31) dX11_person_16 rfl (fun c_5 => ?_) (fun c_5 => ?_)
    · replace hF := am_yes c_5 hF
      refine g_iconst (pc := 31) (v := (-1 : Int32)) dX11_person_31 (by decide) ?_
      cases hF
      exact g_iret (pc := 32) rfl (Nat.le_refl _) (Nat.le_refl _) dX11_person_32 ⟨rfl, rfl, rfl, rfl⟩
    · replace hF := am_no c_5 hF
      refine g_aload_n (pc := 19) dX11_person_19 rfl rfl ?_
      refine g_getR (pc := 20) (k := 0) (r := 1) kf_X11_12.r rfl rfl (hPl.get (by decide) rfl) (hPl.lt (by decide)) dX11_person_20 ?_
      refine g_iload_n (pc := 23) dX11_person_23 rfl rfl ?_
      obtain ⟨r_7, h_6, hF⟩ := am_b1_el hF
      refine g_cVi (pc := 24) (k := 1) (As := [.int a1]) (st := []) ky_X9_livingIn kl_X11_116 (s_X9_livingIn_1 (d := 1) (hPl) (Nat.le_refl _) h_6) rfl rfl rfl (hPl.lt (by decide)) (Nat.le_trans (by decide) hd) (Nat.le_of_ble_eq_true rfl) (Nat.le_refl _) (Nat.le_refl _) dX11_person_24 ?_
      refine g_iconst (pc := 27) (v := (-1 : Int32)) dX11_person_27 (by decide) ?_
      refine g_icmp_eq (pc := 28) (tgt := 33) dX11_person_28 rfl (fun c_8 => ?_) (fun c_8 => ?_)
      · replace hF := am_yes c_8 hF
        refine g_aload_n (pc := 33) dX11_person_33 rfl rfl ?_
        refine g_getR (pc := 34) (k := 0) (r := 1) kf_X11_12.r rfl rfl (hPl.get (by decide) rfl) (hPl.lt (by decide)) dX11_person_34 ?_
        refine g_getR (pc := 37) (k := 1) (r := 4) kf_X11_120 rfl rfl (hPl.get (by decide) rfl) (hPl.lt (by decide)) dX11_person_37 ?_
        refine g_aload_n (pc := 40) dX11_person_40 rfl rfl ?_
        refine g_getR (pc := 41) (k := 0) (r := 1) kf_X11_12.r rfl rfl (hPl.get (by decide) rfl) (hPl.lt (by decide)) dX11_person_41 ?_
        refine g_getI (pc := 44) (k := 1) kf_X11_113.r rfl rfl (hPl.lt (by decide)) dX11_person_44 ?_
        refine g_iload_n (pc := 47) dX11_person_47 rfl rfl ?_
        obtain ⟨c_9, hF⟩ := am_gd hF
        obtain ⟨I_10, e_I_10, hF⟩ := am_let_el hF
        refine n_iast (pc := 48) (k := 4) e_I_10 rfl (hPl.lt (by decide)) (am_ix_use c_9) dX11_person_48 ?_
        refine g_aload_n (pc := 49) dX11_person_49 rfl rfl ?_
        refine g_getR (pc := 50) (k := 0) (r := 1) kf_X11_12.r rfl rfl (hPl.get (by decide) rfl) (hPl.lt (by decide)) dX11_person_50 ?_
        refine g_dup (pc := 53) dX11_person_53 ?_
        refine g_getI (pc := 54) (k := 1) kf_X11_113.r rfl rfl (hPl.lt (by decide)) dX11_person_54 ?_
        refine g_iconst (pc := 57) (v := (1 : Int32)) dX11_person_57 rfl ?_
        refine g_iadd (pc := 58) dX11_person_58 ?_
        obtain ⟨I_11, e_I_11, hF⟩ := am_let_el hF
        refine n_putI (pc := 59) (k := 1) e_I_11 kf_X11_113 rfl rfl (hPl.lt (by decide)) dX11_person_59 ?_
        refine g_aload_n (pc := 62) dX11_person_62 rfl rfl ?_
        refine g_getR (pc := 63) (k := 0) (r := 1) kf_X11_12.r rfl rfl (hPl.get (by decide) rfl) (hPl.lt (by decide)) dX11_person_63 ?_
        refine g_getI (pc := 66) (k := 1) kf_X11_113.r rfl rfl (hPl.lt (by decide)) dX11_person_66 ?_
        refine g_iconst (pc := 69) (v := (1 : Int32)) dX11_person_69 rfl ?_
        refine g_isub (pc := 70) dX11_person_70 ?_
        cases hF
        exact g_iret (pc := 71) rfl (Nat.le_refl _) (Nat.le_refl _) dX11_person_71 ⟨rfl, rfl, rfl, rfl⟩
      · replace hF := am_no c_8 hF
        refine g_iconst (pc := 31) (v := (-1 : Int32)) dX11_person_31 (by decide) ?_
        cases hF
        exact g_iret (pc := 32) rfl (Nat.le_refl _) (Nat.le_refl _) dX11_person_32 ⟨rfl, rfl, rfl, rfl⟩
def F_X9_hasPerson_1 (I : am_IT) (a1 : Int32) : Option (Int32) := if a1 < 0 then (some (0 : Int32)) else (if (I 1 4) ≤ a1 then (some (0 : Int32)) else (some (1 : Int32)))
set_option maxRecDepth 100000 in
set_option maxHeartbeats 4000000 in
theorem s_X9_hasPerson_1 {l : Launch} {d N : Nat} {P : am_PT} (hPl : am_Pl 94 N P) (hd : 1 ≤ d) {I : am_IT} {a1 : Int32} {r : Int32} (hF : F_X9_hasPerson_1 I a1 = some (r)) : am_C l d 0 0 mX9_hasPerson [.ref 1, .int a1] N P I (am_qz r N P I) := by
  refine am_body (sc := am_sc0) (n := 0) (by decide +kernel) (by decide) rfl ?_
  change G am_sc0 l d 0 0 mX9_hasPerson (am_qz r N P I) 0 [.ref 1, .int a1] [] N P I 0 0
  unfold F_X9_hasPerson_1 at hF
  refine g_iload_n (pc := 0) dX9_hasPerson_0 rfl rfl ?_
  refine g_if_lt (pc := 1) (tgt := 16) dX9_hasPerson_1 rfl (fun c_1 => ?_) (fun c_1 => ?_)
  · replace hF := am_yes c_1 hF
    refine g_iconst (pc := 16) (v := (0 : Int32)) dX9_hasPerson_16 rfl ?_
    cases hF
    exact g_zret (pc := 17) rfl (Or.inl rfl) (Nat.le_refl _) (Nat.le_refl _) dX9_hasPerson_17 ⟨(Or.inl rfl), rfl, rfl, rfl, rfl⟩
  · replace hF := am_no c_1 hF
    refine g_iload_n (pc := 4) dX9_hasPerson_4 rfl rfl ?_
    refine g_aload_n (pc := 5) dX9_hasPerson_5 rfl rfl ?_
    refine g_getI (pc := 6) (k := 1) kf_X9_24.r rfl rfl (hPl.lt (by decide)) dX9_hasPerson_6 ?_
    refine g_icmp_ge (pc := 9) (tgt := 16) dX9_hasPerson_9 rfl (fun c_2 => ?_) (fun c_2 => ?_)
    · replace hF := am_yes c_2 hF
      refine g_iconst (pc := 16) (v := (0 : Int32)) dX9_hasPerson_16 rfl ?_
      cases hF
      exact g_zret (pc := 17) rfl (Or.inl rfl) (Nat.le_refl _) (Nat.le_refl _) dX9_hasPerson_17 ⟨(Or.inl rfl), rfl, rfl, rfl, rfl⟩
    · replace hF := am_no c_2 hF
      refine g_iconst (pc := 12) (v := (1 : Int32)) dX9_hasPerson_12 rfl ?_
      refine g_goto (pc := 13) (tgt := 17) dX9_hasPerson_13 rfl ?_
      cases hF
      exact g_zret (pc := 17) rfl (Or.inr rfl) (Nat.le_refl _) (Nat.le_refl _) dX9_hasPerson_17 ⟨(Or.inr rfl), rfl, rfl, rfl, rfl⟩
def F_X11_move_0 (I : am_IT) (a1 : Int32) (a2 : Int32) : Option (Int32 × am_IT) := am_b1 (F_X9_hasPerson_1 I a1) (fun (r_2 : Int32) => if r_2 = 0 then (some ((0 : Int32), I)) else (am_b1 (F_X11_isHouse I a2) (fun (r_6 : Int32) => if r_6 = 0 then (some ((0 : Int32), I)) else (am_b1 (F_X9_livingIn_1 I a2) (fun (r_10 : Int32) => am_b1 (if r_10 = (-1 : Int32) then (some (I)) else (if am_ix a1 7 = true then (if am_ix r_10 7 = true then (am_let (up2 I 4 r_10.toNatClampNeg (I 4 a1.toNatClampNeg)) (fun (I_17 : am_IT) => some (I_17))) else none) else none)) (fun (I_12 : am_IT) => if am_ix a1 7 = true then (am_let (up2 I_12 4 a1.toNatClampNeg a2) (fun (I_19 : am_IT) => some ((1 : Int32), I_19))) else none))))))
set_option maxRecDepth 100000 in
set_option maxHeartbeats 4000000 in
theorem s_X11_move_0 {l : Launch} {d N : Nat} {P : am_PT} (hPl : am_Pl 94 N P) (hd : 3 ≤ d) {I : am_IT} {a1 : Int32} {a2 : Int32} {r : Int32} {I2 : am_IT} (hF : F_X11_move_0 I a1 a2 = some (r, I2)) : am_C l d 0 0 mX11_move [.ref 0, .int a1, .int a2] N P I (am_qz r N P I2) := by
  refine am_body (sc := am_sc0) (n := 1) (by decide +kernel) (by decide) rfl ?_
  change G am_sc0 l d 0 0 mX11_move (am_qz r N P I2) 0 [.ref 0, .int a1, .int a2, .null] [] N P I 0 0
  unfold F_X11_move_0 at hF
  refine g_aload_n (pc := 0) dX11_move_0 rfl rfl ?_
  refine g_getR (pc := 1) (k := 0) (r := 1) kf_X11_12.r rfl rfl (hPl.get (by decide) rfl) (hPl.lt (by decide)) dX11_move_1 ?_
  refine g_iload_n (pc := 4) dX11_move_4 rfl rfl ?_
  obtain ⟨r_2, h_1, hF⟩ := am_b1_el hF
  refine g_cVz (pc := 5) (k := 1) (As := [.int a1]) (st := []) ky_X9_hasPerson kl_X11_123 (s_X9_hasPerson_1 (d := 1) (hPl) (Nat.le_refl _) h_1) rfl rfl rfl (hPl.lt (by decide)) (Nat.le_trans (by decide) hd) (Nat.le_of_ble_eq_true rfl) (Nat.le_refl _) (Nat.le_refl _) dX11_move_5 ?_
  intro z_3
  refine g_if_eq (pc := 8) (tgt := 18) dX11_move_8 rfl (fun c_4 => ?_) (fun c_4 => ?_)
  · replace hF := am_yes c_4 hF
    refine g_iconst (pc := 18) (v := (0 : Int32)) dX11_move_18 rfl ?_
    cases hF
    exact g_zret (pc := 19) rfl (Or.inl rfl) (Nat.le_refl _) (Nat.le_refl _) dX11_move_19 ⟨(Or.inl rfl), rfl, rfl, rfl, rfl⟩
  · replace hF := am_no c_4 hF
    refine g_iload_n (pc := 11) dX11_move_11 rfl rfl ?_
    obtain ⟨r_6, h_5, hF⟩ := am_b1_el hF
    refine g_cSz (pc := 12) (As := [.int a2]) (st := []) ky_X11_isHouse kl_X11_110 (s_X11_isHouse (d := 2) (hPl) (Nat.le_refl _) h_5) rfl rfl (Nat.le_trans (by decide) hd) (Nat.le_of_ble_eq_true rfl) (Nat.le_refl _) (Nat.le_refl _) dX11_move_12 ?_
    intro z_7
    refine g_if_ne (pc := 15) (tgt := 20) dX11_move_15 rfl (fun c_8 => ?_) (fun c_8 => ?_)
    · replace hF := am_no c_8 hF
      refine g_aload_n (pc := 20) dX11_move_20 rfl rfl ?_
      refine g_getR (pc := 21) (k := 0) (r := 1) kf_X11_12.r rfl rfl (hPl.get (by decide) rfl) (hPl.lt (by decide)) dX11_move_21 ?_
      refine g_iload_n (pc := 24) dX11_move_24 rfl rfl ?_
      obtain ⟨r_10, h_9, hF⟩ := am_b1_el hF
      refine g_cVi (pc := 25) (k := 1) (As := [.int a2]) (st := []) ky_X9_livingIn kl_X11_116 (s_X9_livingIn_1 (d := 1) (hPl) (Nat.le_refl _) h_9) rfl rfl rfl (hPl.lt (by decide)) (Nat.le_trans (by decide) hd) (Nat.le_of_ble_eq_true rfl) (Nat.le_refl _) (Nat.le_refl _) dX11_move_25 ?_
      refine n_istore_n (pc := 28) (ls2 := [.ref 0, .int a1, .int a2, .int r_10]) rfl rfl dX11_move_28 rfl (Nat.le_of_ble_eq_true rfl) ?_
      refine g_iload_n (pc := 29) dX11_move_29 rfl rfl ?_
      refine g_iconst (pc := 30) (v := (-1 : Int32)) dX11_move_30 (by decide) ?_
      obtain ⟨I_12, hR_13, hF⟩ := am_b1_el hF
      have hJ_14 : G am_sc0 l d 0 0 mX11_move (am_qz r N P I2) 52 [.ref 0, .int a1, .int a2, .int r_10] [] N P I_12 0 0 := by
        refine g_aload_n (pc := 52) dX11_move_52 rfl rfl ?_
        refine g_getR (pc := 53) (k := 0) (r := 1) kf_X11_12.r rfl rfl (hPl.get (by decide) rfl) (hPl.lt (by decide)) dX11_move_53 ?_
        refine g_getR (pc := 56) (k := 1) (r := 4) kf_X11_120 rfl rfl (hPl.get (by decide) rfl) (hPl.lt (by decide)) dX11_move_56 ?_
        refine g_iload_n (pc := 59) dX11_move_59 rfl rfl ?_
        refine g_iload_n (pc := 60) dX11_move_60 rfl rfl ?_
        obtain ⟨c_18, hF⟩ := am_gd hF
        obtain ⟨I_19, e_I_19, hF⟩ := am_let_el hF
        refine n_iast (pc := 61) (k := 4) e_I_19 rfl (hPl.lt (by decide)) (am_ix_use c_18) dX11_move_61 ?_
        refine g_iconst (pc := 62) (v := (1 : Int32)) dX11_move_62 rfl ?_
        cases hF
        exact g_zret (pc := 63) rfl (Or.inr rfl) (Nat.le_refl _) (Nat.le_refl _) dX11_move_63 ⟨(Or.inr rfl), rfl, rfl, rfl, rfl⟩
      clear hF
      have hF := hR_13
      clear hR_13
      refine g_icmp_eq (pc := 31) (tgt := 52) dX11_move_31 rfl (fun c_11 => ?_) (fun c_11 => ?_)
      · replace hF := am_yes c_11 hF
        cases hF
        exact hJ_14
      · replace hF := am_no c_11 hF
        refine g_aload_n (pc := 34) dX11_move_34 rfl rfl ?_
        refine g_getR (pc := 35) (k := 0) (r := 1) kf_X11_12.r rfl rfl (hPl.get (by decide) rfl) (hPl.lt (by decide)) dX11_move_35 ?_
        refine g_getR (pc := 38) (k := 1) (r := 4) kf_X11_120 rfl rfl (hPl.get (by decide) rfl) (hPl.lt (by decide)) dX11_move_38 ?_
        refine g_iload_n (pc := 41) dX11_move_41 rfl rfl ?_
        refine g_aload_n (pc := 42) dX11_move_42 rfl rfl ?_
        refine g_getR (pc := 43) (k := 0) (r := 1) kf_X11_12.r rfl rfl (hPl.get (by decide) rfl) (hPl.lt (by decide)) dX11_move_43 ?_
        refine g_getR (pc := 46) (k := 1) (r := 4) kf_X11_120 rfl rfl (hPl.get (by decide) rfl) (hPl.lt (by decide)) dX11_move_46 ?_
        refine g_iload_n (pc := 49) dX11_move_49 rfl rfl ?_
        obtain ⟨c_15, hF⟩ := am_gd hF
        refine g_iald (pc := 50) (k := 4) rfl (hPl.lt (by decide)) (am_ix_use c_15) dX11_move_50 ?_
        obtain ⟨c_16, hF⟩ := am_gd hF
        obtain ⟨I_17, e_I_17, hF⟩ := am_let_el hF
        refine n_iast (pc := 51) (k := 4) e_I_17 rfl (hPl.lt (by decide)) (am_ix_use c_16) dX11_move_51 ?_
        cases hF
        exact hJ_14
    · replace hF := am_yes c_8 hF
      refine g_iconst (pc := 18) (v := (0 : Int32)) dX11_move_18 rfl ?_
      cases hF
      exact g_zret (pc := 19) rfl (Or.inl rfl) (Nat.le_refl _) (Nat.le_refl _) dX11_move_19 ⟨(Or.inl rfl), rfl, rfl, rfl, rfl⟩
def F_X9_hasWall_1 (I : am_IT) (a1 : Int32) : Option (Int32) := if a1 < 0 then (some (0 : Int32)) else (if (I 1 3) ≤ a1 then (some (0 : Int32)) else (some (1 : Int32)))
set_option maxRecDepth 100000 in
set_option maxHeartbeats 4000000 in
theorem s_X9_hasWall_1 {l : Launch} {d N : Nat} {P : am_PT} (hPl : am_Pl 94 N P) (hd : 1 ≤ d) {I : am_IT} {a1 : Int32} {r : Int32} (hF : F_X9_hasWall_1 I a1 = some (r)) : am_C l d 0 0 mX9_hasWall [.ref 1, .int a1] N P I (am_qz r N P I) := by
  refine am_body (sc := am_sc0) (n := 0) (by decide +kernel) (by decide) rfl ?_
  change G am_sc0 l d 0 0 mX9_hasWall (am_qz r N P I) 0 [.ref 1, .int a1] [] N P I 0 0
  unfold F_X9_hasWall_1 at hF
  refine g_iload_n (pc := 0) dX9_hasWall_0 rfl rfl ?_
  refine g_if_lt (pc := 1) (tgt := 16) dX9_hasWall_1 rfl (fun c_1 => ?_) (fun c_1 => ?_)
  · replace hF := am_yes c_1 hF
    refine g_iconst (pc := 16) (v := (0 : Int32)) dX9_hasWall_16 rfl ?_
    cases hF
    exact g_zret (pc := 17) rfl (Or.inl rfl) (Nat.le_refl _) (Nat.le_refl _) dX9_hasWall_17 ⟨(Or.inl rfl), rfl, rfl, rfl, rfl⟩
  · replace hF := am_no c_1 hF
    refine g_iload_n (pc := 4) dX9_hasWall_4 rfl rfl ?_
    refine g_aload_n (pc := 5) dX9_hasWall_5 rfl rfl ?_
    refine g_getI (pc := 6) (k := 1) kf_X9_21.r rfl rfl (hPl.lt (by decide)) dX9_hasWall_6 ?_
    refine g_icmp_ge (pc := 9) (tgt := 16) dX9_hasWall_9 rfl (fun c_2 => ?_) (fun c_2 => ?_)
    · replace hF := am_yes c_2 hF
      refine g_iconst (pc := 16) (v := (0 : Int32)) dX9_hasWall_16 rfl ?_
      cases hF
      exact g_zret (pc := 17) rfl (Or.inl rfl) (Nat.le_refl _) (Nat.le_refl _) dX9_hasWall_17 ⟨(Or.inl rfl), rfl, rfl, rfl, rfl⟩
    · replace hF := am_no c_2 hF
      refine g_iconst (pc := 12) (v := (1 : Int32)) dX9_hasWall_12 rfl ?_
      refine g_goto (pc := 13) (tgt := 17) dX9_hasWall_13 rfl ?_
      cases hF
      exact g_zret (pc := 17) rfl (Or.inr rfl) (Nat.le_refl _) (Nat.le_refl _) dX9_hasWall_17 ⟨(Or.inr rfl), rfl, rfl, rfl, rfl⟩
def F_X11_view_0 (I : am_IT) (a1 : Int32) (a2 : Int32) (a3 : Int32) : Option (Int32 × am_IT) := am_b1 (F_X11_isHouse I a1) (fun (r_2 : Int32) => if r_2 = 0 then (some ((0 : Int32), I)) else (am_b1 (F_X9_hasWall_1 I a2) (fun (r_6 : Int32) => if r_6 = 0 then (some ((0 : Int32), I)) else (am_b1 (F_X11_isWithin I a3 (0 : Int32) (99 : Int32)) (fun (r_10 : Int32) => if r_10 = 0 then (some ((0 : Int32), I)) else (if am_ix ((a1 * (7 : Int32)) + a2) 56 = true then (am_let (up2 I 5 ((a1 * (7 : Int32)) + a2).toNatClampNeg a3) (fun (I_14 : am_IT) => some ((1 : Int32), I_14))) else none))))))
set_option maxRecDepth 100000 in
set_option maxHeartbeats 4000000 in
theorem s_X11_view_0 {l : Launch} {d N : Nat} {P : am_PT} (hPl : am_Pl 94 N P) (hd : 3 ≤ d) {I : am_IT} {a1 : Int32} {a2 : Int32} {a3 : Int32} {r : Int32} {I2 : am_IT} (hF : F_X11_view_0 I a1 a2 a3 = some (r, I2)) : am_C l d 0 0 mX11_view [.ref 0, .int a1, .int a2, .int a3] N P I (am_qz r N P I2) := by
  refine am_body (sc := am_sc0) (n := 0) (by decide +kernel) (by decide) rfl ?_
  change G am_sc0 l d 0 0 mX11_view (am_qz r N P I2) 0 [.ref 0, .int a1, .int a2, .int a3] [] N P I 0 0
  unfold F_X11_view_0 at hF
  refine g_iload_n (pc := 0) dX11_view_0 rfl rfl ?_
  obtain ⟨r_2, h_1, hF⟩ := am_b1_el hF
  refine g_cSz (pc := 1) (As := [.int a1]) (st := []) ky_X11_isHouse kl_X11_110 (s_X11_isHouse (d := 2) (hPl) (Nat.le_refl _) h_1) rfl rfl (Nat.le_trans (by decide) hd) (Nat.le_of_ble_eq_true rfl) (Nat.le_refl _) (Nat.le_refl _) dX11_view_1 ?_
  intro z_3
  refine g_if_eq (pc := 4) (tgt := 28) dX11_view_4 rfl (fun c_4 => ?_) (fun c_4 => ?_)
  · replace hF := am_yes c_4 hF
    refine g_iconst (pc := 28) (v := (0 : Int32)) dX11_view_28 rfl ?_
    cases hF
    exact g_zret (pc := 29) rfl (Or.inl rfl) (Nat.le_refl _) (Nat.le_refl _) dX11_view_29 ⟨(Or.inl rfl), rfl, rfl, rfl, rfl⟩
  · replace hF := am_no c_4 hF
    refine g_aload_n (pc := 7) dX11_view_7 rfl rfl ?_
    refine g_getR (pc := 8) (k := 0) (r := 1) kf_X11_12.r rfl rfl (hPl.get (by decide) rfl) (hPl.lt (by decide)) dX11_view_8 ?_
    refine g_iload_n (pc := 11) dX11_view_11 rfl rfl ?_
    obtain ⟨r_6, h_5, hF⟩ := am_b1_el hF
    refine g_cVz (pc := 12) (k := 1) (As := [.int a2]) (st := []) ky_X9_hasWall kl_X11_126 (s_X9_hasWall_1 (d := 1) (hPl) (Nat.le_refl _) h_5) rfl rfl rfl (hPl.lt (by decide)) (Nat.le_trans (by decide) hd) (Nat.le_of_ble_eq_true rfl) (Nat.le_refl _) (Nat.le_refl _) dX11_view_12 ?_
    intro z_7
    refine g_if_eq (pc := 15) (tgt := 28) dX11_view_15 rfl (fun c_8 => ?_) (fun c_8 => ?_)
    · replace hF := am_yes c_8 hF
      refine g_iconst (pc := 28) (v := (0 : Int32)) dX11_view_28 rfl ?_
      cases hF
      exact g_zret (pc := 29) rfl (Or.inl rfl) (Nat.le_refl _) (Nat.le_refl _) dX11_view_29 ⟨(Or.inl rfl), rfl, rfl, rfl, rfl⟩
    · replace hF := am_no c_8 hF
      refine g_iload_n (pc := 18) dX11_view_18 rfl rfl ?_
      refine g_iconst (pc := 19) (v := (0 : Int32)) dX11_view_19 rfl ?_
      refine g_bipush (pc := 20) (v := (99 : Int32)) dX11_view_20 rfl ?_
      obtain ⟨r_10, h_9, hF⟩ := am_b1_el hF
      refine g_cSz (pc := 22) (As := [.int a3, .int (0 : Int32), .int (99 : Int32)]) (st := []) ky_X11_isWithin kl_X11_97 (s_X11_isWithin (d := 1) (hPl) (Nat.le_refl _) h_9) rfl rfl (Nat.le_trans (by decide) hd) (Nat.le_of_ble_eq_true rfl) (Nat.le_refl _) (Nat.le_refl _) dX11_view_22 ?_
      intro z_11
      refine g_if_ne (pc := 25) (tgt := 30) dX11_view_25 rfl (fun c_12 => ?_) (fun c_12 => ?_)
      · replace hF := am_no c_12 hF
        refine g_aload_n (pc := 30) dX11_view_30 rfl rfl ?_
        refine g_getR (pc := 31) (k := 0) (r := 1) kf_X11_12.r rfl rfl (hPl.get (by decide) rfl) (hPl.lt (by decide)) dX11_view_31 ?_
        refine g_getR (pc := 34) (k := 1) (r := 5) kf_X11_129 rfl rfl (hPl.get (by decide) rfl) (hPl.lt (by decide)) dX11_view_34 ?_
        refine g_iload_n (pc := 37) dX11_view_37 rfl rfl ?_
        refine g_bipush (pc := 38) (v := (7 : Int32)) dX11_view_38 rfl ?_
        refine g_imul (pc := 40) dX11_view_40 ?_
        refine g_iload_n (pc := 41) dX11_view_41 rfl rfl ?_
        refine g_iadd (pc := 42) dX11_view_42 ?_
        refine g_iload_n (pc := 43) dX11_view_43 rfl rfl ?_
        obtain ⟨c_13, hF⟩ := am_gd hF
        obtain ⟨I_14, e_I_14, hF⟩ := am_let_el hF
        refine n_iast (pc := 44) (k := 5) e_I_14 rfl (hPl.lt (by decide)) (am_ix_use c_13) dX11_view_44 ?_
        refine g_iconst (pc := 45) (v := (1 : Int32)) dX11_view_45 rfl ?_
        cases hF
        exact g_zret (pc := 46) rfl (Or.inr rfl) (Nat.le_refl _) (Nat.le_refl _) dX11_view_46 ⟨(Or.inr rfl), rfl, rfl, rfl, rfl⟩
      · replace hF := am_yes c_12 hF
        refine g_iconst (pc := 28) (v := (0 : Int32)) dX11_view_28 rfl ?_
        cases hF
        exact g_zret (pc := 29) rfl (Or.inl rfl) (Nat.le_refl _) (Nat.le_refl _) dX11_view_29 ⟨(Or.inl rfl), rfl, rfl, rfl, rfl⟩
def F_X11_tree_0 (I : am_IT) (a1 : Int32) (a2 : Int32) (a3 : Int32) : Option (Int32 × am_IT) := am_b1 (F_X11_isHouse I a1) (fun (r_2 : Int32) => if r_2 = 0 then (some ((-1 : Int32), I)) else (am_b1 (F_X9_hasWall_1 I a2) (fun (r_6 : Int32) => if r_6 = 0 then (some ((-1 : Int32), I)) else (am_b1 (F_X11_isWithin I a3 (0 : Int32) (99 : Int32)) (fun (r_10 : Int32) => if r_10 = 0 then (some ((-1 : Int32), I)) else (if (I 1 5) < (20 : Int32) then (am_let ((I 1 5) * (3 : Int32)) (fun (l4_14 : Int32) => if am_ix (l4_14 + (0 : Int32)) 60 = true then (am_let (up2 I 6 (l4_14 + (0 : Int32)).toNatClampNeg ((a1 * (7 : Int32)) + a2)) (fun (I_16 : am_IT) => if am_ix (l4_14 + (1 : Int32)) 60 = true then (am_let (up2 I_16 6 (l4_14 + (1 : Int32)).toNatClampNeg a3) (fun (I_18 : am_IT) => if am_ix (l4_14 + (2 : Int32)) 60 = true then (am_let (up2 I_18 6 (l4_14 + (2 : Int32)).toNatClampNeg (I_18 1 2)) (fun (I_20 : am_IT) => am_let (up2 I_20 1 5 ((I_20 1 5) + (1 : Int32))) (fun (I_21 : am_IT) => some ((I_21 1 5) - (1 : Int32), I_21)))) else none)) else none)) else none)) else (some ((-1 : Int32), I))))))))
set_option maxRecDepth 100000 in
set_option maxHeartbeats 4000000 in
theorem s_X11_tree_0 {l : Launch} {d N : Nat} {P : am_PT} (hPl : am_Pl 94 N P) (hd : 3 ≤ d) {I : am_IT} {a1 : Int32} {a2 : Int32} {a3 : Int32} {r : Int32} {I2 : am_IT} (hF : F_X11_tree_0 I a1 a2 a3 = some (r, I2)) : am_C l d 0 0 mX11_tree [.ref 0, .int a1, .int a2, .int a3] N P I (am_qi r N P I2) := by
  refine am_body (sc := am_sc0) (n := 1) (by decide +kernel) (by decide) rfl ?_
  change G am_sc0 l d 0 0 mX11_tree (am_qi r N P I2) 0 [.ref 0, .int a1, .int a2, .int a3, .null] [] N P I 0 0
  unfold F_X11_tree_0 at hF
  refine g_iload_n (pc := 0) dX11_tree_0 rfl rfl ?_
  obtain ⟨r_2, h_1, hF⟩ := am_b1_el hF
  refine g_cSz (pc := 1) (As := [.int a1]) (st := []) ky_X11_isHouse kl_X11_110 (s_X11_isHouse (d := 2) (hPl) (Nat.le_refl _) h_1) rfl rfl (Nat.le_trans (by decide) hd) (Nat.le_of_ble_eq_true rfl) (Nat.le_refl _) (Nat.le_refl _) dX11_tree_1 ?_
  intro z_3
  refine g_if_eq (pc := 4) (tgt := 28) dX11_tree_4 rfl (fun c_4 => ?_) (fun c_4 => ?_)
  · replace hF := am_yes c_4 hF
    refine g_iconst (pc := 28) (v := (-1 : Int32)) dX11_tree_28 (by decide) ?_
    cases hF
    exact g_iret (pc := 29) rfl (Nat.le_refl _) (Nat.le_refl _) dX11_tree_29 ⟨rfl, rfl, rfl, rfl⟩
  · replace hF := am_no c_4 hF
    refine g_aload_n (pc := 7) dX11_tree_7 rfl rfl ?_
    refine g_getR (pc := 8) (k := 0) (r := 1) kf_X11_12.r rfl rfl (hPl.get (by decide) rfl) (hPl.lt (by decide)) dX11_tree_8 ?_
    refine g_iload_n (pc := 11) dX11_tree_11 rfl rfl ?_
    obtain ⟨r_6, h_5, hF⟩ := am_b1_el hF
    refine g_cVz (pc := 12) (k := 1) (As := [.int a2]) (st := []) ky_X9_hasWall kl_X11_126 (s_X9_hasWall_1 (d := 1) (hPl) (Nat.le_refl _) h_5) rfl rfl rfl (hPl.lt (by decide)) (Nat.le_trans (by decide) hd) (Nat.le_of_ble_eq_true rfl) (Nat.le_refl _) (Nat.le_refl _) dX11_tree_12 ?_
    intro z_7
    refine g_if_eq (pc := 15) (tgt := 28) dX11_tree_15 rfl (fun c_8 => ?_) (fun c_8 => ?_)
    · replace hF := am_yes c_8 hF
      refine g_iconst (pc := 28) (v := (-1 : Int32)) dX11_tree_28 (by decide) ?_
      cases hF
      exact g_iret (pc := 29) rfl (Nat.le_refl _) (Nat.le_refl _) dX11_tree_29 ⟨rfl, rfl, rfl, rfl⟩
    · replace hF := am_no c_8 hF
      refine g_iload_n (pc := 18) dX11_tree_18 rfl rfl ?_
      refine g_iconst (pc := 19) (v := (0 : Int32)) dX11_tree_19 rfl ?_
      refine g_bipush (pc := 20) (v := (99 : Int32)) dX11_tree_20 rfl ?_
      obtain ⟨r_10, h_9, hF⟩ := am_b1_el hF
      refine g_cSz (pc := 22) (As := [.int a3, .int (0 : Int32), .int (99 : Int32)]) (st := []) ky_X11_isWithin kl_X11_97 (s_X11_isWithin (d := 1) (hPl) (Nat.le_refl _) h_9) rfl rfl (Nat.le_trans (by decide) hd) (Nat.le_of_ble_eq_true rfl) (Nat.le_refl _) (Nat.le_refl _) dX11_tree_22 ?_
      intro z_11
      refine g_if_ne (pc := 25) (tgt := 30) dX11_tree_25 rfl (fun c_12 => ?_) (fun c_12 => ?_)
      · replace hF := am_no c_12 hF
        refine g_aload_n (pc := 30) dX11_tree_30 rfl rfl ?_
        refine g_getR (pc := 31) (k := 0) (r := 1) kf_X11_12.r rfl rfl (hPl.get (by decide) rfl) (hPl.lt (by decide)) dX11_tree_31 ?_
        refine g_getI (pc := 34) (k := 1) kf_X11_132.r rfl rfl (hPl.lt (by decide)) dX11_tree_34 ?_
        refine g_bipush (pc := 37) (v := (20 : Int32)) dX11_tree_37 rfl ?_
        refine g_icmp_lt (pc := 39) (tgt := 44) dX11_tree_39 rfl (fun c_13 => ?_) (fun c_13 => ?_)
        · replace hF := am_yes c_13 hF
          refine g_aload_n (pc := 44) dX11_tree_44 rfl rfl ?_
          refine g_getR (pc := 45) (k := 0) (r := 1) kf_X11_12.r rfl rfl (hPl.get (by decide) rfl) (hPl.lt (by decide)) dX11_tree_45 ?_
          refine g_getI (pc := 48) (k := 1) kf_X11_132.r rfl rfl (hPl.lt (by decide)) dX11_tree_48 ?_
          refine g_iconst (pc := 51) (v := (3 : Int32)) dX11_tree_51 rfl ?_
          refine g_imul (pc := 52) dX11_tree_52 ?_
          obtain ⟨l4_14, e_l4_14, hF⟩ := am_let_el hF
          refine n_istore (pc := 53) (ls2 := [.ref 0, .int a1, .int a2, .int a3, .int l4_14]) e_l4_14 rfl dX11_tree_53 (Nat.le_of_ble_eq_true rfl) ?_
          refine g_aload_n (pc := 55) dX11_tree_55 rfl rfl ?_
          refine g_getR (pc := 56) (k := 0) (r := 1) kf_X11_12.r rfl rfl (hPl.get (by decide) rfl) (hPl.lt (by decide)) dX11_tree_56 ?_
          refine g_getR (pc := 59) (k := 1) (r := 6) kf_X11_135 rfl rfl (hPl.get (by decide) rfl) (hPl.lt (by decide)) dX11_tree_59 ?_
          refine g_iload (pc := 62) dX11_tree_62 rfl ?_
          refine g_iconst (pc := 64) (v := (0 : Int32)) dX11_tree_64 rfl ?_
          refine g_iadd (pc := 65) dX11_tree_65 ?_
          refine g_iload_n (pc := 66) dX11_tree_66 rfl rfl ?_
          refine g_bipush (pc := 67) (v := (7 : Int32)) dX11_tree_67 rfl ?_
          refine g_imul (pc := 69) dX11_tree_69 ?_
          refine g_iload_n (pc := 70) dX11_tree_70 rfl rfl ?_
          refine g_iadd (pc := 71) dX11_tree_71 ?_
          obtain ⟨c_15, hF⟩ := am_gd hF
          obtain ⟨I_16, e_I_16, hF⟩ := am_let_el hF
          refine n_iast (pc := 72) (k := 6) e_I_16 rfl (hPl.lt (by decide)) (am_ix_use c_15) dX11_tree_72 ?_
          refine g_aload_n (pc := 73) dX11_tree_73 rfl rfl ?_
          refine g_getR (pc := 74) (k := 0) (r := 1) kf_X11_12.r rfl rfl (hPl.get (by decide) rfl) (hPl.lt (by decide)) dX11_tree_74 ?_
          refine g_getR (pc := 77) (k := 1) (r := 6) kf_X11_135 rfl rfl (hPl.get (by decide) rfl) (hPl.lt (by decide)) dX11_tree_77 ?_
          refine g_iload (pc := 80) dX11_tree_80 rfl ?_
          refine g_iconst (pc := 82) (v := (1 : Int32)) dX11_tree_82 rfl ?_
          refine g_iadd (pc := 83) dX11_tree_83 ?_
          refine g_iload_n (pc := 84) dX11_tree_84 rfl rfl ?_
          obtain ⟨c_17, hF⟩ := am_gd hF
          obtain ⟨I_18, e_I_18, hF⟩ := am_let_el hF
          refine n_iast (pc := 85) (k := 6) e_I_18 rfl (hPl.lt (by decide)) (am_ix_use c_17) dX11_tree_85 ?_
          refine g_aload_n (pc := 86) dX11_tree_86 rfl rfl ?_
          refine g_getR (pc := 87) (k := 0) (r := 1) kf_X11_12.r rfl rfl (hPl.get (by decide) rfl) (hPl.lt (by decide)) dX11_tree_87 ?_
          refine g_getR (pc := 90) (k := 1) (r := 6) kf_X11_135 rfl rfl (hPl.get (by decide) rfl) (hPl.lt (by decide)) dX11_tree_90 ?_
          refine g_iload (pc := 93) dX11_tree_93 rfl ?_
          refine g_iconst (pc := 95) (v := (2 : Int32)) dX11_tree_95 rfl ?_
          refine g_iadd (pc := 96) dX11_tree_96 ?_
          refine g_aload_n (pc := 97) dX11_tree_97 rfl rfl ?_
          refine g_getR (pc := 98) (k := 0) (r := 1) kf_X11_12.r rfl rfl (hPl.get (by decide) rfl) (hPl.lt (by decide)) dX11_tree_98 ?_
          refine g_getI (pc := 101) (k := 1) kf_X11_138.r rfl rfl (hPl.lt (by decide)) dX11_tree_101 ?_
          obtain ⟨c_19, hF⟩ := am_gd hF
          obtain ⟨I_20, e_I_20, hF⟩ := am_let_el hF
          refine n_iast (pc := 104) (k := 6) e_I_20 rfl (hPl.lt (by decide)) (am_ix_use c_19) dX11_tree_104 ?_
          refine g_aload_n (pc := 105) dX11_tree_105 rfl rfl ?_
          refine g_getR (pc := 106) (k := 0) (r := 1) kf_X11_12.r rfl rfl (hPl.get (by decide) rfl) (hPl.lt (by decide)) dX11_tree_106 ?_
          refine g_dup (pc := 109) dX11_tree_109 ?_
          refine g_getI (pc := 110) (k := 1) kf_X11_132.r rfl rfl (hPl.lt (by decide)) dX11_tree_110 ?_
          refine g_iconst (pc := 113) (v := (1 : Int32)) dX11_tree_113 rfl ?_
          refine g_iadd (pc := 114) dX11_tree_114 ?_
          obtain ⟨I_21, e_I_21, hF⟩ := am_let_el hF
          refine n_putI (pc := 115) (k := 1) e_I_21 kf_X11_132 rfl rfl (hPl.lt (by decide)) dX11_tree_115 ?_
          refine g_aload_n (pc := 118) dX11_tree_118 rfl rfl ?_
          refine g_getR (pc := 119) (k := 0) (r := 1) kf_X11_12.r rfl rfl (hPl.get (by decide) rfl) (hPl.lt (by decide)) dX11_tree_119 ?_
          refine g_getI (pc := 122) (k := 1) kf_X11_132.r rfl rfl (hPl.lt (by decide)) dX11_tree_122 ?_
          refine g_iconst (pc := 125) (v := (1 : Int32)) dX11_tree_125 rfl ?_
          refine g_isub (pc := 126) dX11_tree_126 ?_
          cases hF
          exact g_iret (pc := 127) rfl (Nat.le_refl _) (Nat.le_refl _) dX11_tree_127 ⟨rfl, rfl, rfl, rfl⟩
        · replace hF := am_no c_13 hF
          refine g_iconst (pc := 42) (v := (-1 : Int32)) dX11_tree_42 (by decide) ?_
          cases hF
          exact g_iret (pc := 43) rfl (Nat.le_refl _) (Nat.le_refl _) dX11_tree_43 ⟨rfl, rfl, rfl, rfl⟩
      · replace hF := am_yes c_12 hF
        refine g_iconst (pc := 28) (v := (-1 : Int32)) dX11_tree_28 (by decide) ?_
        cases hF
        exact g_iret (pc := 29) rfl (Nat.le_refl _) (Nat.le_refl _) dX11_tree_29 ⟨rfl, rfl, rfl, rfl⟩
def F_X11_tell_0 (I : am_IT) (a1 : Int32) (a2 : Int32) (a3 : Int32) (a4 : Int32) : Option (Int32 × am_IT) := am_b1 (F_X9_hasPerson_1 I a1) (fun (r_2 : Int32) => if r_2 = 0 then (some ((0 : Int32), I)) else (am_b1 (F_X11_isWithin I a4 (-9 : Int32) (9 : Int32)) (fun (r_6 : Int32) => if r_6 = 0 then (some ((0 : Int32), I)) else (if a2 = (2 : Int32) then (if am_ix a1 7 = true then (am_let (up2 I 9 a1.toNatClampNeg a4) (fun (I_37 : am_IT) => some ((1 : Int32), I_37))) else none) else (if a2 = 0 then (am_b1 (F_X9_hasColour_1 I a3) (fun (r_12 : Int32) => if r_12 = 0 then (some ((0 : Int32), I)) else (am_b1 (if a2 = 0 then (if am_ix ((a1 * (4 : Int32)) + a3) 28 = true then (am_let (up2 I 7 ((a1 * (4 : Int32)) + a3).toNatClampNeg a4) (fun (I_20 : am_IT) => some (I_20))) else none) else (some (I))) (fun (I_16 : am_IT) => if am_ix ((a1 * (4 : Int32)) + a3) 28 = true then (am_let (up2 I_16 8 ((a1 * (4 : Int32)) + a3).toNatClampNeg a4) (fun (I_22 : am_IT) => some ((1 : Int32), I_22))) else none)))) else (if a2 = (1 : Int32) then (am_b1 (F_X9_hasColour_1 I a3) (fun (r_25 : Int32) => if r_25 = 0 then (some ((0 : Int32), I)) else (am_b1 (if a2 = 0 then (if am_ix ((a1 * (4 : Int32)) + a3) 28 = true then (am_let (up2 I 7 ((a1 * (4 : Int32)) + a3).toNatClampNeg a4) (fun (I_33 : am_IT) => some (I_33))) else none) else (some (I))) (fun (I_29 : am_IT) => if am_ix ((a1 * (4 : Int32)) + a3) 28 = true then (am_let (up2 I_29 8 ((a1 * (4 : Int32)) + a3).toNatClampNeg a4) (fun (I_35 : am_IT) => some ((1 : Int32), I_35))) else none)))) else (some ((0 : Int32), I))))))))
set_option maxRecDepth 100000 in
set_option maxHeartbeats 4000000 in
theorem s_X11_tell_0 {l : Launch} {d N : Nat} {P : am_PT} (hPl : am_Pl 94 N P) (hd : 2 ≤ d) {I : am_IT} {a1 : Int32} {a2 : Int32} {a3 : Int32} {a4 : Int32} {r : Int32} {I2 : am_IT} (hF : F_X11_tell_0 I a1 a2 a3 a4 = some (r, I2)) : am_C l d 0 0 mX11_tell [.ref 0, .int a1, .int a2, .int a3, .int a4] N P I (am_qz r N P I2) := by
  refine am_body (sc := am_sc0) (n := 0) (by decide +kernel) (by decide) rfl ?_
  change G am_sc0 l d 0 0 mX11_tell (am_qz r N P I2) 0 [.ref 0, .int a1, .int a2, .int a3, .int a4] [] N P I 0 0
  unfold F_X11_tell_0 at hF
  refine g_aload_n (pc := 0) dX11_tell_0 rfl rfl ?_
  refine g_getR (pc := 1) (k := 0) (r := 1) kf_X11_12.r rfl rfl (hPl.get (by decide) rfl) (hPl.lt (by decide)) dX11_tell_1 ?_
  refine g_iload_n (pc := 4) dX11_tell_4 rfl rfl ?_
  obtain ⟨r_2, h_1, hF⟩ := am_b1_el hF
  refine g_cVz (pc := 5) (k := 1) (As := [.int a1]) (st := []) ky_X9_hasPerson kl_X11_123 (s_X9_hasPerson_1 (d := 1) (hPl) (Nat.le_refl _) h_1) rfl rfl rfl (hPl.lt (by decide)) (Nat.le_trans (by decide) hd) (Nat.le_of_ble_eq_true rfl) (Nat.le_refl _) (Nat.le_refl _) dX11_tell_5 ?_
  intro z_3
  refine g_if_eq (pc := 8) (tgt := 23) dX11_tell_8 rfl (fun c_4 => ?_) (fun c_4 => ?_)
  · replace hF := am_yes c_4 hF
    refine g_iconst (pc := 23) (v := (0 : Int32)) dX11_tell_23 rfl ?_
    cases hF
    exact g_zret (pc := 24) rfl (Or.inl rfl) (Nat.le_refl _) (Nat.le_refl _) dX11_tell_24 ⟨(Or.inl rfl), rfl, rfl, rfl, rfl⟩
  · replace hF := am_no c_4 hF
    refine g_iload (pc := 11) dX11_tell_11 rfl ?_
    refine g_bipush (pc := 13) (v := (-9 : Int32)) dX11_tell_13 (by decide) ?_
    refine g_bipush (pc := 15) (v := (9 : Int32)) dX11_tell_15 rfl ?_
    obtain ⟨r_6, h_5, hF⟩ := am_b1_el hF
    refine g_cSz (pc := 17) (As := [.int a4, .int (-9 : Int32), .int (9 : Int32)]) (st := []) ky_X11_isWithin kl_X11_97 (s_X11_isWithin (d := 1) (hPl) (Nat.le_refl _) h_5) rfl rfl (Nat.le_trans (by decide) hd) (Nat.le_of_ble_eq_true rfl) (Nat.le_refl _) (Nat.le_refl _) dX11_tell_17 ?_
    intro z_7
    refine g_if_ne (pc := 20) (tgt := 25) dX11_tell_20 rfl (fun c_8 => ?_) (fun c_8 => ?_)
    · replace hF := am_no c_8 hF
      refine g_iload_n (pc := 25) dX11_tell_25 rfl rfl ?_
      refine g_iconst (pc := 26) (v := (2 : Int32)) dX11_tell_26 rfl ?_
      refine g_icmp_ne (pc := 27) (tgt := 43) dX11_tell_27 rfl (fun c_9 => ?_) (fun c_9 => ?_)
      · replace hF := am_no c_9 hF
        refine g_iload_n (pc := 43) dX11_tell_43 rfl rfl ?_
        refine g_if_eq (pc := 44) (tgt := 52) dX11_tell_44 rfl (fun c_10 => ?_) (fun c_10 => ?_)
        · replace hF := am_yes c_10 hF
          refine g_aload_n (pc := 52) dX11_tell_52 rfl rfl ?_
          refine g_getR (pc := 53) (k := 0) (r := 1) kf_X11_12.r rfl rfl (hPl.get (by decide) rfl) (hPl.lt (by decide)) dX11_tell_53 ?_
          refine g_iload_n (pc := 56) dX11_tell_56 rfl rfl ?_
          obtain ⟨r_12, h_11, hF⟩ := am_b1_el hF
          refine g_cVz (pc := 57) (k := 1) (As := [.int a3]) (st := []) ky_X9_hasColour kl_X11_93 (s_X9_hasColour_1 (d := 1) (hPl) (Nat.le_refl _) h_11) rfl rfl rfl (hPl.lt (by decide)) (Nat.le_trans (by decide) hd) (Nat.le_of_ble_eq_true rfl) (Nat.le_refl _) (Nat.le_refl _) dX11_tell_57 ?_
          intro z_13
          refine g_if_ne (pc := 60) (tgt := 65) dX11_tell_60 rfl (fun c_14 => ?_) (fun c_14 => ?_)
          · replace hF := am_no c_14 hF
            refine g_iload_n (pc := 65) dX11_tell_65 rfl rfl ?_
            obtain ⟨I_16, hR_17, hF⟩ := am_b1_el hF
            have hJ_18 : G am_sc0 l d 0 0 mX11_tell (am_qz r N P I2) 84 [.ref 0, .int a1, .int a2, .int a3, .int a4] [] N P I_16 0 0 := by
              refine g_aload_n (pc := 84) dX11_tell_84 rfl rfl ?_
              refine g_getR (pc := 85) (k := 0) (r := 1) kf_X11_12.r rfl rfl (hPl.get (by decide) rfl) (hPl.lt (by decide)) dX11_tell_85 ?_
              refine g_getR (pc := 88) (k := 1) (r := 8) kf_X11_147 rfl rfl (hPl.get (by decide) rfl) (hPl.lt (by decide)) dX11_tell_88 ?_
              refine g_iload_n (pc := 91) dX11_tell_91 rfl rfl ?_
              refine g_iconst (pc := 92) (v := (4 : Int32)) dX11_tell_92 rfl ?_
              refine g_imul (pc := 93) dX11_tell_93 ?_
              refine g_iload_n (pc := 94) dX11_tell_94 rfl rfl ?_
              refine g_iadd (pc := 95) dX11_tell_95 ?_
              refine g_iload (pc := 96) dX11_tell_96 rfl ?_
              obtain ⟨c_21, hF⟩ := am_gd hF
              obtain ⟨I_22, e_I_22, hF⟩ := am_let_el hF
              refine n_iast (pc := 98) (k := 8) e_I_22 rfl (hPl.lt (by decide)) (am_ix_use c_21) dX11_tell_98 ?_
              refine g_iconst (pc := 99) (v := (1 : Int32)) dX11_tell_99 rfl ?_
              cases hF
              exact g_zret (pc := 100) rfl (Or.inr rfl) (Nat.le_refl _) (Nat.le_refl _) dX11_tell_100 ⟨(Or.inr rfl), rfl, rfl, rfl, rfl⟩
            clear hF
            have hF := hR_17
            clear hR_17
            refine g_if_ne (pc := 66) (tgt := 84) dX11_tell_66 rfl (fun c_15 => ?_) (fun c_15 => ?_)
            · replace hF := am_no c_15 hF
              cases hF
              exact hJ_18
            · replace hF := am_yes c_15 hF
              refine g_aload_n (pc := 69) dX11_tell_69 rfl rfl ?_
              refine g_getR (pc := 70) (k := 0) (r := 1) kf_X11_12.r rfl rfl (hPl.get (by decide) rfl) (hPl.lt (by decide)) dX11_tell_70 ?_
              refine g_getR (pc := 73) (k := 1) (r := 7) kf_X11_144 rfl rfl (hPl.get (by decide) rfl) (hPl.lt (by decide)) dX11_tell_73 ?_
              refine g_iload_n (pc := 76) dX11_tell_76 rfl rfl ?_
              refine g_iconst (pc := 77) (v := (4 : Int32)) dX11_tell_77 rfl ?_
              refine g_imul (pc := 78) dX11_tell_78 ?_
              refine g_iload_n (pc := 79) dX11_tell_79 rfl rfl ?_
              refine g_iadd (pc := 80) dX11_tell_80 ?_
              refine g_iload (pc := 81) dX11_tell_81 rfl ?_
              obtain ⟨c_19, hF⟩ := am_gd hF
              obtain ⟨I_20, e_I_20, hF⟩ := am_let_el hF
              refine n_iast (pc := 83) (k := 7) e_I_20 rfl (hPl.lt (by decide)) (am_ix_use c_19) dX11_tell_83 ?_
              cases hF
              exact hJ_18
          · replace hF := am_yes c_14 hF
            refine g_iconst (pc := 63) (v := (0 : Int32)) dX11_tell_63 rfl ?_
            cases hF
            exact g_zret (pc := 64) rfl (Or.inl rfl) (Nat.le_refl _) (Nat.le_refl _) dX11_tell_64 ⟨(Or.inl rfl), rfl, rfl, rfl, rfl⟩
        · replace hF := am_no c_10 hF
          refine g_iload_n (pc := 47) dX11_tell_47 rfl rfl ?_
          refine g_iconst (pc := 48) (v := (1 : Int32)) dX11_tell_48 rfl ?_
          refine g_icmp_ne (pc := 49) (tgt := 63) dX11_tell_49 rfl (fun c_23 => ?_) (fun c_23 => ?_)
          · replace hF := am_no c_23 hF
            refine g_iconst (pc := 63) (v := (0 : Int32)) dX11_tell_63 rfl ?_
            cases hF
            exact g_zret (pc := 64) rfl (Or.inl rfl) (Nat.le_refl _) (Nat.le_refl _) dX11_tell_64 ⟨(Or.inl rfl), rfl, rfl, rfl, rfl⟩
          · replace hF := am_yes c_23 hF
            refine g_aload_n (pc := 52) dX11_tell_52 rfl rfl ?_
            refine g_getR (pc := 53) (k := 0) (r := 1) kf_X11_12.r rfl rfl (hPl.get (by decide) rfl) (hPl.lt (by decide)) dX11_tell_53 ?_
            refine g_iload_n (pc := 56) dX11_tell_56 rfl rfl ?_
            obtain ⟨r_25, h_24, hF⟩ := am_b1_el hF
            refine g_cVz (pc := 57) (k := 1) (As := [.int a3]) (st := []) ky_X9_hasColour kl_X11_93 (s_X9_hasColour_1 (d := 1) (hPl) (Nat.le_refl _) h_24) rfl rfl rfl (hPl.lt (by decide)) (Nat.le_trans (by decide) hd) (Nat.le_of_ble_eq_true rfl) (Nat.le_refl _) (Nat.le_refl _) dX11_tell_57 ?_
            intro z_26
            refine g_if_ne (pc := 60) (tgt := 65) dX11_tell_60 rfl (fun c_27 => ?_) (fun c_27 => ?_)
            · replace hF := am_no c_27 hF
              refine g_iload_n (pc := 65) dX11_tell_65 rfl rfl ?_
              obtain ⟨I_29, hR_30, hF⟩ := am_b1_el hF
              have hJ_31 : G am_sc0 l d 0 0 mX11_tell (am_qz r N P I2) 84 [.ref 0, .int a1, .int a2, .int a3, .int a4] [] N P I_29 0 0 := by
                refine g_aload_n (pc := 84) dX11_tell_84 rfl rfl ?_
                refine g_getR (pc := 85) (k := 0) (r := 1) kf_X11_12.r rfl rfl (hPl.get (by decide) rfl) (hPl.lt (by decide)) dX11_tell_85 ?_
                refine g_getR (pc := 88) (k := 1) (r := 8) kf_X11_147 rfl rfl (hPl.get (by decide) rfl) (hPl.lt (by decide)) dX11_tell_88 ?_
                refine g_iload_n (pc := 91) dX11_tell_91 rfl rfl ?_
                refine g_iconst (pc := 92) (v := (4 : Int32)) dX11_tell_92 rfl ?_
                refine g_imul (pc := 93) dX11_tell_93 ?_
                refine g_iload_n (pc := 94) dX11_tell_94 rfl rfl ?_
                refine g_iadd (pc := 95) dX11_tell_95 ?_
                refine g_iload (pc := 96) dX11_tell_96 rfl ?_
                obtain ⟨c_34, hF⟩ := am_gd hF
                obtain ⟨I_35, e_I_35, hF⟩ := am_let_el hF
                refine n_iast (pc := 98) (k := 8) e_I_35 rfl (hPl.lt (by decide)) (am_ix_use c_34) dX11_tell_98 ?_
                refine g_iconst (pc := 99) (v := (1 : Int32)) dX11_tell_99 rfl ?_
                cases hF
                exact g_zret (pc := 100) rfl (Or.inr rfl) (Nat.le_refl _) (Nat.le_refl _) dX11_tell_100 ⟨(Or.inr rfl), rfl, rfl, rfl, rfl⟩
              clear hF
              have hF := hR_30
              clear hR_30
              refine g_if_ne (pc := 66) (tgt := 84) dX11_tell_66 rfl (fun c_28 => ?_) (fun c_28 => ?_)
              · replace hF := am_no c_28 hF
                cases hF
                exact hJ_31
              · replace hF := am_yes c_28 hF
                refine g_aload_n (pc := 69) dX11_tell_69 rfl rfl ?_
                refine g_getR (pc := 70) (k := 0) (r := 1) kf_X11_12.r rfl rfl (hPl.get (by decide) rfl) (hPl.lt (by decide)) dX11_tell_70 ?_
                refine g_getR (pc := 73) (k := 1) (r := 7) kf_X11_144 rfl rfl (hPl.get (by decide) rfl) (hPl.lt (by decide)) dX11_tell_73 ?_
                refine g_iload_n (pc := 76) dX11_tell_76 rfl rfl ?_
                refine g_iconst (pc := 77) (v := (4 : Int32)) dX11_tell_77 rfl ?_
                refine g_imul (pc := 78) dX11_tell_78 ?_
                refine g_iload_n (pc := 79) dX11_tell_79 rfl rfl ?_
                refine g_iadd (pc := 80) dX11_tell_80 ?_
                refine g_iload (pc := 81) dX11_tell_81 rfl ?_
                obtain ⟨c_32, hF⟩ := am_gd hF
                obtain ⟨I_33, e_I_33, hF⟩ := am_let_el hF
                refine n_iast (pc := 83) (k := 7) e_I_33 rfl (hPl.lt (by decide)) (am_ix_use c_32) dX11_tell_83 ?_
                cases hF
                exact hJ_31
            · replace hF := am_yes c_27 hF
              refine g_iconst (pc := 63) (v := (0 : Int32)) dX11_tell_63 rfl ?_
              cases hF
              exact g_zret (pc := 64) rfl (Or.inl rfl) (Nat.le_refl _) (Nat.le_refl _) dX11_tell_64 ⟨(Or.inl rfl), rfl, rfl, rfl, rfl⟩
      · replace hF := am_yes c_9 hF
        refine g_aload_n (pc := 30) dX11_tell_30 rfl rfl ?_
        refine g_getR (pc := 31) (k := 0) (r := 1) kf_X11_12.r rfl rfl (hPl.get (by decide) rfl) (hPl.lt (by decide)) dX11_tell_31 ?_
        refine g_getR (pc := 34) (k := 1) (r := 9) kf_X11_141 rfl rfl (hPl.get (by decide) rfl) (hPl.lt (by decide)) dX11_tell_34 ?_
        refine g_iload_n (pc := 37) dX11_tell_37 rfl rfl ?_
        refine g_iload (pc := 38) dX11_tell_38 rfl ?_
        obtain ⟨c_36, hF⟩ := am_gd hF
        obtain ⟨I_37, e_I_37, hF⟩ := am_let_el hF
        refine n_iast (pc := 40) (k := 9) e_I_37 rfl (hPl.lt (by decide)) (am_ix_use c_36) dX11_tell_40 ?_
        refine g_iconst (pc := 41) (v := (1 : Int32)) dX11_tell_41 rfl ?_
        cases hF
        exact g_zret (pc := 42) rfl (Or.inr rfl) (Nat.le_refl _) (Nat.le_refl _) dX11_tell_42 ⟨(Or.inr rfl), rfl, rfl, rfl, rfl⟩
    · replace hF := am_yes c_8 hF
      refine g_iconst (pc := 23) (v := (0 : Int32)) dX11_tell_23 rfl ?_
      cases hF
      exact g_zret (pc := 24) rfl (Or.inl rfl) (Nat.le_refl _) (Nat.le_refl _) dX11_tell_24 ⟨(Or.inl rfl), rfl, rfl, rfl, rfl⟩
def F_X11_beside_0 (I : am_IT) (a1 : Int32) (a2 : Int32) (a3 : Int32) : Option (Int32 × am_IT) := am_b1 (F_X9_hasWall_1 I a1) (fun (r_2 : Int32) => if r_2 = 0 then (some ((0 : Int32), I)) else (am_b1 (F_X9_hasWall_1 I a2) (fun (r_6 : Int32) => if r_6 = 0 then (some ((0 : Int32), I)) else (if a1 = a2 then (some ((0 : Int32), I)) else (am_b1 (if a3 = 0 then (some ((0 : Int32))) else (some ((1 : Int32)))) (fun (v_11 : Int32) => if am_ix ((a1 * (7 : Int32)) + a2) 49 = true then (am_let (up2 I 10 ((a1 * (7 : Int32)) + a2).toNatClampNeg v_11) (fun (I_15 : am_IT) => if a3 = 0 then (if am_ix ((a2 * (7 : Int32)) + a1) 49 = true then (am_let (up2 I_15 10 ((a2 * (7 : Int32)) + a1).toNatClampNeg (0 : Int32)) (fun (I_18 : am_IT) => some ((1 : Int32), I_18))) else none) else (if am_ix ((a2 * (7 : Int32)) + a1) 49 = true then (am_let (up2 I_15 10 ((a2 * (7 : Int32)) + a1).toNatClampNeg (1 : Int32)) (fun (I_20 : am_IT) => some ((1 : Int32), I_20))) else none))) else none))))))
set_option maxRecDepth 100000 in
set_option maxHeartbeats 4000000 in
theorem s_X11_beside_0 {l : Launch} {d N : Nat} {P : am_PT} (hPl : am_Pl 94 N P) (hd : 2 ≤ d) {I : am_IT} {a1 : Int32} {a2 : Int32} {a3 : Int32} {r : Int32} {I2 : am_IT} (hF : F_X11_beside_0 I a1 a2 a3 = some (r, I2)) : am_C l d 0 0 mX11_beside [.ref 0, .int a1, .int a2, .int a3] N P I (am_qz r N P I2) := by
  refine am_body (sc := am_sc0) (n := 0) (by decide +kernel) (by decide) rfl ?_
  change G am_sc0 l d 0 0 mX11_beside (am_qz r N P I2) 0 [.ref 0, .int a1, .int a2, .int a3] [] N P I 0 0
  unfold F_X11_beside_0 at hF
  refine g_aload_n (pc := 0) dX11_beside_0 rfl rfl ?_
  refine g_getR (pc := 1) (k := 0) (r := 1) kf_X11_12.r rfl rfl (hPl.get (by decide) rfl) (hPl.lt (by decide)) dX11_beside_1 ?_
  refine g_iload_n (pc := 4) dX11_beside_4 rfl rfl ?_
  obtain ⟨r_2, h_1, hF⟩ := am_b1_el hF
  refine g_cVz (pc := 5) (k := 1) (As := [.int a1]) (st := []) ky_X9_hasWall kl_X11_126 (s_X9_hasWall_1 (d := 1) (hPl) (Nat.le_refl _) h_1) rfl rfl rfl (hPl.lt (by decide)) (Nat.le_trans (by decide) hd) (Nat.le_of_ble_eq_true rfl) (Nat.le_refl _) (Nat.le_refl _) dX11_beside_5 ?_
  intro z_3
  refine g_if_eq (pc := 8) (tgt := 27) dX11_beside_8 rfl (fun c_4 => ?_) (fun c_4 => ?_)
  · replace hF := am_yes c_4 hF
    refine g_iconst (pc := 27) (v := (0 : Int32)) dX11_beside_27 rfl ?_
    cases hF
    exact g_zret (pc := 28) rfl (Or.inl rfl) (Nat.le_refl _) (Nat.le_refl _) dX11_beside_28 ⟨(Or.inl rfl), rfl, rfl, rfl, rfl⟩
  · replace hF := am_no c_4 hF
    refine g_aload_n (pc := 11) dX11_beside_11 rfl rfl ?_
    refine g_getR (pc := 12) (k := 0) (r := 1) kf_X11_12.r rfl rfl (hPl.get (by decide) rfl) (hPl.lt (by decide)) dX11_beside_12 ?_
    refine g_iload_n (pc := 15) dX11_beside_15 rfl rfl ?_
    obtain ⟨r_6, h_5, hF⟩ := am_b1_el hF
    refine g_cVz (pc := 16) (k := 1) (As := [.int a2]) (st := []) ky_X9_hasWall kl_X11_126 (s_X9_hasWall_1 (d := 1) (hPl) (Nat.le_refl _) h_5) rfl rfl rfl (hPl.lt (by decide)) (Nat.le_trans (by decide) hd) (Nat.le_of_ble_eq_true rfl) (Nat.le_refl _) (Nat.le_refl _) dX11_beside_16 ?_
    intro z_7
    refine g_if_eq (pc := 19) (tgt := 27) dX11_beside_19 rfl (fun c_8 => ?_) (fun c_8 => ?_)
    · replace hF := am_yes c_8 hF
      refine g_iconst (pc := 27) (v := (0 : Int32)) dX11_beside_27 rfl ?_
      cases hF
      exact g_zret (pc := 28) rfl (Or.inl rfl) (Nat.le_refl _) (Nat.le_refl _) dX11_beside_28 ⟨(Or.inl rfl), rfl, rfl, rfl, rfl⟩
    · replace hF := am_no c_8 hF
      refine g_iload_n (pc := 22) dX11_beside_22 rfl rfl ?_
      refine g_iload_n (pc := 23) dX11_beside_23 rfl rfl ?_
      refine g_icmp_ne (pc := 24) (tgt := 29) dX11_beside_24 rfl (fun c_9 => ?_) (fun c_9 => ?_)
      · replace hF := am_no c_9 hF
        refine g_aload_n (pc := 29) dX11_beside_29 rfl rfl ?_
        refine g_getR (pc := 30) (k := 0) (r := 1) kf_X11_12.r rfl rfl (hPl.get (by decide) rfl) (hPl.lt (by decide)) dX11_beside_30 ?_
        refine g_getR (pc := 33) (k := 1) (r := 10) kf_X11_150 rfl rfl (hPl.get (by decide) rfl) (hPl.lt (by decide)) dX11_beside_33 ?_
        refine g_iload_n (pc := 36) dX11_beside_36 rfl rfl ?_
        refine g_bipush (pc := 37) (v := (7 : Int32)) dX11_beside_37 rfl ?_
        refine g_imul (pc := 39) dX11_beside_39 ?_
        refine g_iload_n (pc := 40) dX11_beside_40 rfl rfl ?_
        refine g_iadd (pc := 41) dX11_beside_41 ?_
        refine g_iload_n (pc := 42) dX11_beside_42 rfl rfl ?_
        obtain ⟨v_11, hR_12, hF⟩ := am_b1_el hF
        have hJ_13 : G am_sc0 l d 0 0 mX11_beside (am_qz r N P I2) 51 [.ref 0, .int a1, .int a2, .int a3] [.int v_11, .int ((a1 * (7 : Int32)) + a2), .ref 10] N P I 0 0 := by
          obtain ⟨c_14, hF⟩ := am_gd hF
          obtain ⟨I_15, e_I_15, hF⟩ := am_let_el hF
          refine n_iast (pc := 51) (k := 10) e_I_15 rfl (hPl.lt (by decide)) (am_ix_use c_14) dX11_beside_51 ?_
          refine g_aload_n (pc := 52) dX11_beside_52 rfl rfl ?_
          refine g_getR (pc := 53) (k := 0) (r := 1) kf_X11_12.r rfl rfl (hPl.get (by decide) rfl) (hPl.lt (by decide)) dX11_beside_53 ?_
          refine g_getR (pc := 56) (k := 1) (r := 10) kf_X11_150 rfl rfl (hPl.get (by decide) rfl) (hPl.lt (by decide)) dX11_beside_56 ?_
          refine g_iload_n (pc := 59) dX11_beside_59 rfl rfl ?_
          refine g_bipush (pc := 60) (v := (7 : Int32)) dX11_beside_60 rfl ?_
          refine g_imul (pc := 62) dX11_beside_62 ?_
          refine g_iload_n (pc := 63) dX11_beside_63 rfl rfl ?_
          refine g_iadd (pc := 64) dX11_beside_64 ?_
          refine g_iload_n (pc := 65) dX11_beside_65 rfl rfl ?_
          refine g_if_eq (pc := 66) (tgt := 73) dX11_beside_66 rfl (fun c_16 => ?_) (fun c_16 => ?_)
          · replace hF := am_yes c_16 hF
            refine g_iconst (pc := 73) (v := (0 : Int32)) dX11_beside_73 rfl ?_
            obtain ⟨c_17, hF⟩ := am_gd hF
            obtain ⟨I_18, e_I_18, hF⟩ := am_let_el hF
            refine n_iast (pc := 74) (k := 10) e_I_18 rfl (hPl.lt (by decide)) (am_ix_use c_17) dX11_beside_74 ?_
            refine g_iconst (pc := 75) (v := (1 : Int32)) dX11_beside_75 rfl ?_
            cases hF
            exact g_zret (pc := 76) rfl (Or.inr rfl) (Nat.le_refl _) (Nat.le_refl _) dX11_beside_76 ⟨(Or.inr rfl), rfl, rfl, rfl, rfl⟩
          · replace hF := am_no c_16 hF
            refine g_iconst (pc := 69) (v := (1 : Int32)) dX11_beside_69 rfl ?_
            refine g_goto (pc := 70) (tgt := 74) dX11_beside_70 rfl ?_
            obtain ⟨c_19, hF⟩ := am_gd hF
            obtain ⟨I_20, e_I_20, hF⟩ := am_let_el hF
            refine n_iast (pc := 74) (k := 10) e_I_20 rfl (hPl.lt (by decide)) (am_ix_use c_19) dX11_beside_74 ?_
            refine g_iconst (pc := 75) (v := (1 : Int32)) dX11_beside_75 rfl ?_
            cases hF
            exact g_zret (pc := 76) rfl (Or.inr rfl) (Nat.le_refl _) (Nat.le_refl _) dX11_beside_76 ⟨(Or.inr rfl), rfl, rfl, rfl, rfl⟩
        clear hF
        have hF := hR_12
        clear hR_12
        refine g_if_eq (pc := 43) (tgt := 50) dX11_beside_43 rfl (fun c_10 => ?_) (fun c_10 => ?_)
        · replace hF := am_yes c_10 hF
          refine g_iconst (pc := 50) (v := (0 : Int32)) dX11_beside_50 rfl ?_
          cases hF
          exact hJ_13
        · replace hF := am_no c_10 hF
          refine g_iconst (pc := 46) (v := (1 : Int32)) dX11_beside_46 rfl ?_
          refine g_goto (pc := 47) (tgt := 51) dX11_beside_47 rfl ?_
          cases hF
          exact hJ_13
      · replace hF := am_yes c_9 hF
        refine g_iconst (pc := 27) (v := (0 : Int32)) dX11_beside_27 rfl ?_
        cases hF
        exact g_zret (pc := 28) rfl (Or.inl rfl) (Nat.le_refl _) (Nat.le_refl _) dX11_beside_28 ⟨(Or.inl rfl), rfl, rfl, rfl, rfl⟩
def F_X11_paint_0 (I : am_IT) (a1 : Int32) (a2 : Int32) : Option (Int32 × am_IT) := am_b1 (F_X9_hasWall_1 I a1) (fun (r_2 : Int32) => if r_2 = 0 then (some ((0 : Int32), I)) else (am_b1 (F_X9_hasColour_1 I a2) (fun (r_6 : Int32) => if r_6 = 0 then (some ((0 : Int32), I)) else (if am_ix a1 7 = true then (am_let (up2 I 3 a1.toNatClampNeg a2) (fun (I_10 : am_IT) => some ((1 : Int32), I_10))) else none))))
set_option maxRecDepth 100000 in
set_option maxHeartbeats 4000000 in
theorem s_X11_paint_0 {l : Launch} {d N : Nat} {P : am_PT} (hPl : am_Pl 94 N P) (hd : 2 ≤ d) {I : am_IT} {a1 : Int32} {a2 : Int32} {r : Int32} {I2 : am_IT} (hF : F_X11_paint_0 I a1 a2 = some (r, I2)) : am_C l d 0 0 mX11_paint [.ref 0, .int a1, .int a2] N P I (am_qz r N P I2) := by
  refine am_body (sc := am_sc0) (n := 0) (by decide +kernel) (by decide) rfl ?_
  change G am_sc0 l d 0 0 mX11_paint (am_qz r N P I2) 0 [.ref 0, .int a1, .int a2] [] N P I 0 0
  unfold F_X11_paint_0 at hF
  refine g_aload_n (pc := 0) dX11_paint_0 rfl rfl ?_
  refine g_getR (pc := 1) (k := 0) (r := 1) kf_X11_12.r rfl rfl (hPl.get (by decide) rfl) (hPl.lt (by decide)) dX11_paint_1 ?_
  refine g_iload_n (pc := 4) dX11_paint_4 rfl rfl ?_
  obtain ⟨r_2, h_1, hF⟩ := am_b1_el hF
  refine g_cVz (pc := 5) (k := 1) (As := [.int a1]) (st := []) ky_X9_hasWall kl_X11_126 (s_X9_hasWall_1 (d := 1) (hPl) (Nat.le_refl _) h_1) rfl rfl rfl (hPl.lt (by decide)) (Nat.le_trans (by decide) hd) (Nat.le_of_ble_eq_true rfl) (Nat.le_refl _) (Nat.le_refl _) dX11_paint_5 ?_
  intro z_3
  refine g_if_eq (pc := 8) (tgt := 22) dX11_paint_8 rfl (fun c_4 => ?_) (fun c_4 => ?_)
  · replace hF := am_yes c_4 hF
    refine g_iconst (pc := 22) (v := (0 : Int32)) dX11_paint_22 rfl ?_
    cases hF
    exact g_zret (pc := 23) rfl (Or.inl rfl) (Nat.le_refl _) (Nat.le_refl _) dX11_paint_23 ⟨(Or.inl rfl), rfl, rfl, rfl, rfl⟩
  · replace hF := am_no c_4 hF
    refine g_aload_n (pc := 11) dX11_paint_11 rfl rfl ?_
    refine g_getR (pc := 12) (k := 0) (r := 1) kf_X11_12.r rfl rfl (hPl.get (by decide) rfl) (hPl.lt (by decide)) dX11_paint_12 ?_
    refine g_iload_n (pc := 15) dX11_paint_15 rfl rfl ?_
    obtain ⟨r_6, h_5, hF⟩ := am_b1_el hF
    refine g_cVz (pc := 16) (k := 1) (As := [.int a2]) (st := []) ky_X9_hasColour kl_X11_93 (s_X9_hasColour_1 (d := 1) (hPl) (Nat.le_refl _) h_5) rfl rfl rfl (hPl.lt (by decide)) (Nat.le_trans (by decide) hd) (Nat.le_of_ble_eq_true rfl) (Nat.le_refl _) (Nat.le_refl _) dX11_paint_16 ?_
    intro z_7
    refine g_if_ne (pc := 19) (tgt := 24) dX11_paint_19 rfl (fun c_8 => ?_) (fun c_8 => ?_)
    · replace hF := am_no c_8 hF
      refine g_aload_n (pc := 24) dX11_paint_24 rfl rfl ?_
      refine g_getR (pc := 25) (k := 0) (r := 1) kf_X11_12.r rfl rfl (hPl.get (by decide) rfl) (hPl.lt (by decide)) dX11_paint_25 ?_
      refine g_getR (pc := 28) (k := 1) (r := 3) kf_X11_107 rfl rfl (hPl.get (by decide) rfl) (hPl.lt (by decide)) dX11_paint_28 ?_
      refine g_iload_n (pc := 31) dX11_paint_31 rfl rfl ?_
      refine g_iload_n (pc := 32) dX11_paint_32 rfl rfl ?_
      obtain ⟨c_9, hF⟩ := am_gd hF
      obtain ⟨I_10, e_I_10, hF⟩ := am_let_el hF
      refine n_iast (pc := 33) (k := 3) e_I_10 rfl (hPl.lt (by decide)) (am_ix_use c_9) dX11_paint_33 ?_
      refine g_iconst (pc := 34) (v := (1 : Int32)) dX11_paint_34 rfl ?_
      cases hF
      exact g_zret (pc := 35) rfl (Or.inr rfl) (Nat.le_refl _) (Nat.le_refl _) dX11_paint_35 ⟨(Or.inr rfl), rfl, rfl, rfl, rfl⟩
    · replace hF := am_yes c_8 hF
      refine g_iconst (pc := 22) (v := (0 : Int32)) dX11_paint_22 rfl ?_
      cases hF
      exact g_zret (pc := 23) rfl (Or.inl rfl) (Nat.le_refl _) (Nat.le_refl _) dX11_paint_23 ⟨(Or.inl rfl), rfl, rfl, rfl, rfl⟩
def F_X11_putNumber_0 (I : am_IT) (a1 : Int32) : Option (am_IT) := am_b1 (am_it am_fu (am_u2 (fun (l2_1 : Int32) (I_2 : am_IT) => if l2_1 < 0 then (some (.inr (I_2))) else (if (400 : Int32) ≤ (I_2 0 9) then (am_let (l2_1 + (-8 : Int32)) (fun (l2_11 : Int32) => some (.inl (l2_11, I_2)))) else (if am_ix (I_2 0 9) 400 = true then (am_let (up2 I_2 54 (I_2 0 9).toNatClampNeg (((a1.toUInt32 >>> (l2_1.toUInt32 &&& Int32.toUInt32 31)).toInt32) &&& (255 : Int32))) (fun (I_13 : am_IT) => am_let (up2 I_13 0 9 ((I_13 0 9) + (1 : Int32))) (fun (I_14 : am_IT) => am_let (l2_1 + (-8 : Int32)) (fun (l2_15 : Int32) => some (.inl (l2_15, I_14)))))) else none)))) ((24 : Int32), I)) (fun (I_3 : am_IT) => some I_3)
set_option maxRecDepth 100000 in
set_option maxHeartbeats 4000000 in
theorem s_X11_putNumber_0 {l : Launch} {d N : Nat} {P : am_PT} (hPl : am_Pl 94 N P) (hd : 1 ≤ d) {I : am_IT} {a1 : Int32} {I2 : am_IT} (hF : F_X11_putNumber_0 I a1 = some (I2)) : am_C l d 0 0 mX11_putNumber [.ref 0, .int a1] N P I (am_qv N P I2) := by
  refine am_body (sc := am_sc0) (n := 1) (by decide +kernel) (by decide) rfl ?_
  change G am_sc0 l d 0 0 mX11_putNumber (am_qv N P I2) 0 [.ref 0, .int a1, .null] [] N P I 0 0
  unfold F_X11_putNumber_0 at hF
  refine g_bipush (pc := 0) (v := (24 : Int32)) dX11_putNumber_0 rfl ?_
  refine n_istore_n (pc := 2) (ls2 := [.ref 0, .int a1, .int (24 : Int32)]) rfl rfl dX11_putNumber_2 rfl (Nat.le_of_ble_eq_true rfl) ?_
  obtain ⟨I_3, hL_7, hF⟩ := am_b1_el hF
  have hX_4 : G am_sc0 l d 0 0 mX11_putNumber (am_qv N P I2) 51 [.ref 0, .int a1, .null] [] N P I_3 0 0 := by
    cases hF
    exact g_vret (pc := 51) rfl (Nat.le_refl _) (Nat.le_refl _) dX11_putNumber_51 ⟨rfl, rfl, rfl, rfl⟩
  clear hF
  have hC := am_loop (C := fun x => G am_sc0 l d 0 0 mX11_putNumber (am_qv N P I2) 3 [.ref 0, .int a1, .int x.1] [] N P x.2 0 0) (by
    rintro ⟨l2_1, I_2⟩ rr hF ih_5 hE_6
    replace hF := am_u2_ap hF
    change G am_sc0 l d 0 0 mX11_putNumber (am_qv N P I2) 3 [.ref 0, .int a1, .int l2_1] [] N P I_2 0 0
    refine g_iload_n (pc := 3) dX11_putNumber_3 rfl rfl ?_
    refine g_if_lt (pc := 4) (tgt := 51) dX11_putNumber_4 rfl (fun c_9 => ?_) (fun c_9 => ?_)
    · replace hF := am_yes c_9 hF
      cases hF
      cases hE_6 _ rfl
      exact g_weak hX_4 ⟨Or.inr rfl, Or.inr rfl, Or.inl rfl, trivial⟩
    · replace hF := am_no c_9 hF
      refine g_aload_n (pc := 7) dX11_putNumber_7 rfl rfl ?_
      refine g_getI (pc := 8) (k := 0) kf_X11_73.r rfl rfl (hPl.lt (by decide)) dX11_putNumber_8 ?_
      refine g_aload_n (pc := 11) dX11_putNumber_11 rfl rfl ?_
      refine g_getR (pc := 12) (k := 0) (r := 54) kf_X11_69.r rfl rfl (hPl.get (by decide) rfl) (hPl.lt (by decide)) dX11_putNumber_12 ?_
      refine g_alen (pc := 15) (k := 54) (v := 400) rfl (hPl.lt (by decide)) rfl dX11_putNumber_15 ?_
      refine g_icmp_ge (pc := 16) (tgt := 45) dX11_putNumber_16 rfl (fun c_10 => ?_) (fun c_10 => ?_)
      · replace hF := am_yes c_10 hF
        obtain ⟨l2_11, e_l2_11, hF⟩ := am_let_el hF
        refine n_iinc (pc := 45) (ls2 := [.ref 0, .int a1, .int l2_11]) e_l2_11 (by rw [show Int32.ofInt (-8) = (-8 : Int32) from by decide]) rfl rfl dX11_putNumber_45 (Nat.le_of_ble_eq_true rfl) ?_
        refine g_goto (pc := 48) (tgt := 3) dX11_putNumber_48 rfl ?_
        cases hF
        exact ih_5 (l2_11, I_2) rfl
      · replace hF := am_no c_10 hF
        refine g_aload_n (pc := 19) dX11_putNumber_19 rfl rfl ?_
        refine g_getR (pc := 20) (k := 0) (r := 54) kf_X11_69.r rfl rfl (hPl.get (by decide) rfl) (hPl.lt (by decide)) dX11_putNumber_20 ?_
        refine g_aload_n (pc := 23) dX11_putNumber_23 rfl rfl ?_
        refine g_getI (pc := 24) (k := 0) kf_X11_73.r rfl rfl (hPl.lt (by decide)) dX11_putNumber_24 ?_
        refine g_iload_n (pc := 27) dX11_putNumber_27 rfl rfl ?_
        refine g_iload_n (pc := 28) dX11_putNumber_28 rfl rfl ?_
        refine g_iushr (pc := 29) dX11_putNumber_29 ?_
        refine g_sipush (pc := 30) (v := (255 : Int32)) dX11_putNumber_30 rfl ?_
        refine g_iand (pc := 33) dX11_putNumber_33 ?_
        obtain ⟨c_12, hF⟩ := am_gd hF
        obtain ⟨I_13, e_I_13, hF⟩ := am_let_el hF
        refine n_iast (pc := 34) (k := 54) e_I_13 rfl (hPl.lt (by decide)) (am_ix_use c_12) dX11_putNumber_34 ?_
        refine g_aload_n (pc := 35) dX11_putNumber_35 rfl rfl ?_
        refine g_dup (pc := 36) dX11_putNumber_36 ?_
        refine g_getI (pc := 37) (k := 0) kf_X11_73.r rfl rfl (hPl.lt (by decide)) dX11_putNumber_37 ?_
        refine g_iconst (pc := 40) (v := (1 : Int32)) dX11_putNumber_40 rfl ?_
        refine g_iadd (pc := 41) dX11_putNumber_41 ?_
        obtain ⟨I_14, e_I_14, hF⟩ := am_let_el hF
        refine n_putI (pc := 42) (k := 0) e_I_14 kf_X11_73 rfl rfl (hPl.lt (by decide)) dX11_putNumber_42 ?_
        obtain ⟨l2_15, e_l2_15, hF⟩ := am_let_el hF
        refine n_iinc (pc := 45) (ls2 := [.ref 0, .int a1, .int l2_15]) e_l2_15 (by rw [show Int32.ofInt (-8) = (-8 : Int32) from by decide]) rfl rfl dX11_putNumber_45 (Nat.le_of_ble_eq_true rfl) ?_
        refine g_goto (pc := 48) (tgt := 3) dX11_putNumber_48 rfl ?_
        cases hF
        exact ih_5 (l2_15, I_14) rfl
    ) _ _ hL_7
  exact hC
def F_X11_feed_0 (I : am_IT) (a1 : Int32) (a2 : Int32) (a3 : Int32) (a4 : Int32) (a5 : Int32) : Option (Int32 × am_IT) := if ((I 0 9) + (20 : Int32)) ≤ (400 : Int32) then (am_b1 (F_X11_putNumber_0 I a1) (fun (I_3 : am_IT) => am_b1 (F_X11_putNumber_0 I_3 a2) (fun (I_5 : am_IT) => am_b1 (F_X11_putNumber_0 I_5 a3) (fun (I_7 : am_IT) => am_b1 (F_X11_putNumber_0 I_7 a4) (fun (I_9 : am_IT) => am_b1 (F_X11_putNumber_0 I_9 a5) (fun (I_11 : am_IT) => some (I_11 0 9, I_11))))))) else (some ((-1 : Int32), I))
set_option maxRecDepth 100000 in
set_option maxHeartbeats 4000000 in
theorem s_X11_feed_0 {l : Launch} {d N : Nat} {P : am_PT} (hPl : am_Pl 94 N P) (hd : 2 ≤ d) {I : am_IT} {a1 : Int32} {a2 : Int32} {a3 : Int32} {a4 : Int32} {a5 : Int32} {r : Int32} {I2 : am_IT} (hF : F_X11_feed_0 I a1 a2 a3 a4 a5 = some (r, I2)) : am_C l d 0 0 mX11_feed [.ref 0, .int a1, .int a2, .int a3, .int a4, .int a5] N P I (am_qi r N P I2) := by
  refine am_body (sc := am_sc0) (n := 0) (by decide +kernel) (by decide) rfl ?_
  change G am_sc0 l d 0 0 mX11_feed (am_qi r N P I2) 0 [.ref 0, .int a1, .int a2, .int a3, .int a4, .int a5] [] N P I 0 0
  unfold F_X11_feed_0 at hF
  refine g_aload_n (pc := 0) dX11_feed_0 rfl rfl ?_
  refine g_getI (pc := 1) (k := 0) kf_X11_73.r rfl rfl (hPl.lt (by decide)) dX11_feed_1 ?_
  refine g_bipush (pc := 4) (v := (20 : Int32)) dX11_feed_4 rfl ?_
  refine g_iadd (pc := 6) dX11_feed_6 ?_
  refine g_sipush (pc := 7) (v := (400 : Int32)) dX11_feed_7 rfl ?_
  refine g_icmp_le (pc := 10) (tgt := 15) dX11_feed_10 rfl (fun c_1 => ?_) (fun c_1 => ?_)
  · replace hF := am_yes c_1 hF
    refine g_aload_n (pc := 15) dX11_feed_15 rfl rfl ?_
    refine g_iload_n (pc := 16) dX11_feed_16 rfl rfl ?_
    obtain ⟨I_3, h_2, hF⟩ := am_b1_el hF
    refine g_cVv (pc := 17) (k := 0) (As := [.int a1]) (st := []) ky_X11_putNumber kl_X11_153 (s_X11_putNumber_0 (d := 1) (hPl) (Nat.le_refl _) h_2) rfl rfl rfl (hPl.lt (by decide)) (Nat.le_trans (by decide) hd) (Nat.le_of_ble_eq_true rfl) (Nat.le_refl _) (Nat.le_refl _) dX11_feed_17 ?_
    refine g_aload_n (pc := 20) dX11_feed_20 rfl rfl ?_
    refine g_iload_n (pc := 21) dX11_feed_21 rfl rfl ?_
    obtain ⟨I_5, h_4, hF⟩ := am_b1_el hF
    refine g_cVv (pc := 22) (k := 0) (As := [.int a2]) (st := []) ky_X11_putNumber kl_X11_153 (s_X11_putNumber_0 (d := 1) (hPl) (Nat.le_refl _) h_4) rfl rfl rfl (hPl.lt (by decide)) (Nat.le_trans (by decide) hd) (Nat.le_of_ble_eq_true rfl) (Nat.le_refl _) (Nat.le_refl _) dX11_feed_22 ?_
    refine g_aload_n (pc := 25) dX11_feed_25 rfl rfl ?_
    refine g_iload_n (pc := 26) dX11_feed_26 rfl rfl ?_
    obtain ⟨I_7, h_6, hF⟩ := am_b1_el hF
    refine g_cVv (pc := 27) (k := 0) (As := [.int a3]) (st := []) ky_X11_putNumber kl_X11_153 (s_X11_putNumber_0 (d := 1) (hPl) (Nat.le_refl _) h_6) rfl rfl rfl (hPl.lt (by decide)) (Nat.le_trans (by decide) hd) (Nat.le_of_ble_eq_true rfl) (Nat.le_refl _) (Nat.le_refl _) dX11_feed_27 ?_
    refine g_aload_n (pc := 30) dX11_feed_30 rfl rfl ?_
    refine g_iload (pc := 31) dX11_feed_31 rfl ?_
    obtain ⟨I_9, h_8, hF⟩ := am_b1_el hF
    refine g_cVv (pc := 33) (k := 0) (As := [.int a4]) (st := []) ky_X11_putNumber kl_X11_153 (s_X11_putNumber_0 (d := 1) (hPl) (Nat.le_refl _) h_8) rfl rfl rfl (hPl.lt (by decide)) (Nat.le_trans (by decide) hd) (Nat.le_of_ble_eq_true rfl) (Nat.le_refl _) (Nat.le_refl _) dX11_feed_33 ?_
    refine g_aload_n (pc := 36) dX11_feed_36 rfl rfl ?_
    refine g_iload (pc := 37) dX11_feed_37 rfl ?_
    obtain ⟨I_11, h_10, hF⟩ := am_b1_el hF
    refine g_cVv (pc := 39) (k := 0) (As := [.int a5]) (st := []) ky_X11_putNumber kl_X11_153 (s_X11_putNumber_0 (d := 1) (hPl) (Nat.le_refl _) h_10) rfl rfl rfl (hPl.lt (by decide)) (Nat.le_trans (by decide) hd) (Nat.le_of_ble_eq_true rfl) (Nat.le_refl _) (Nat.le_refl _) dX11_feed_39 ?_
    refine g_aload_n (pc := 42) dX11_feed_42 rfl rfl ?_
    refine g_getI (pc := 43) (k := 0) kf_X11_73.r rfl rfl (hPl.lt (by decide)) dX11_feed_43 ?_
    cases hF
    exact g_iret (pc := 46) rfl (Nat.le_refl _) (Nat.le_refl _) dX11_feed_46 ⟨rfl, rfl, rfl, rfl⟩
  · replace hF := am_no c_1 hF
    refine g_iconst (pc := 13) (v := (-1 : Int32)) dX11_feed_13 (by decide) ?_
    cases hF
    exact g_iret (pc := 14) rfl (Nat.le_refl _) (Nat.le_refl _) dX11_feed_14 ⟨rfl, rfl, rfl, rfl⟩
def F_X11_end_0 (I : am_IT) (a1 : Int32) : Option (Int32 × am_IT) := am_b1 (F_X11_isWithin I a1 (0 : Int32) (I 0 9)) (fun (r_2 : Int32) => if r_2 = 0 then (some ((0 : Int32), I)) else (am_let (up2 I 0 9 a1) (fun (I_5 : am_IT) => some ((1 : Int32), I_5))))
set_option maxRecDepth 100000 in
set_option maxHeartbeats 4000000 in
theorem s_X11_end_0 {l : Launch} {d N : Nat} {P : am_PT} (hPl : am_Pl 94 N P) (hd : 2 ≤ d) {I : am_IT} {a1 : Int32} {r : Int32} {I2 : am_IT} (hF : F_X11_end_0 I a1 = some (r, I2)) : am_C l d 0 0 mX11_end [.ref 0, .int a1] N P I (am_qz r N P I2) := by
  refine am_body (sc := am_sc0) (n := 0) (by decide +kernel) (by decide) rfl ?_
  change G am_sc0 l d 0 0 mX11_end (am_qz r N P I2) 0 [.ref 0, .int a1] [] N P I 0 0
  unfold F_X11_end_0 at hF
  refine g_iload_n (pc := 0) dX11_end_0 rfl rfl ?_
  refine g_iconst (pc := 1) (v := (0 : Int32)) dX11_end_1 rfl ?_
  refine g_aload_n (pc := 2) dX11_end_2 rfl rfl ?_
  refine g_getI (pc := 3) (k := 0) kf_X11_73.r rfl rfl (hPl.lt (by decide)) dX11_end_3 ?_
  obtain ⟨r_2, h_1, hF⟩ := am_b1_el hF
  refine g_cSz (pc := 6) (As := [.int a1, .int (0 : Int32), .int (I 0 9)]) (st := []) ky_X11_isWithin kl_X11_97 (s_X11_isWithin (d := 1) (hPl) (Nat.le_refl _) h_1) rfl rfl (Nat.le_trans (by decide) hd) (Nat.le_of_ble_eq_true rfl) (Nat.le_refl _) (Nat.le_refl _) dX11_end_6 ?_
  intro z_3
  refine g_if_ne (pc := 9) (tgt := 14) dX11_end_9 rfl (fun c_4 => ?_) (fun c_4 => ?_)
  · replace hF := am_no c_4 hF
    refine g_aload_n (pc := 14) dX11_end_14 rfl rfl ?_
    refine g_iload_n (pc := 15) dX11_end_15 rfl rfl ?_
    obtain ⟨I_5, e_I_5, hF⟩ := am_let_el hF
    refine n_putI (pc := 16) (k := 0) e_I_5 kf_X11_73 rfl rfl (hPl.lt (by decide)) dX11_end_16 ?_
    refine g_iconst (pc := 19) (v := (1 : Int32)) dX11_end_19 rfl ?_
    cases hF
    exact g_zret (pc := 20) rfl (Or.inr rfl) (Nat.le_refl _) (Nat.le_refl _) dX11_end_20 ⟨(Or.inr rfl), rfl, rfl, rfl, rfl⟩
  · replace hF := am_yes c_4 hF
    refine g_iconst (pc := 12) (v := (0 : Int32)) dX11_end_12 rfl ?_
    cases hF
    exact g_zret (pc := 13) rfl (Or.inl rfl) (Nat.le_refl _) (Nat.le_refl _) dX11_end_13 ⟨(Or.inl rfl), rfl, rfl, rfl, rfl⟩
def F_X6_clear_48 (I : am_IT) : Option (am_IT) := am_let (up2 I 48 0 (0 : Int32)) (fun (I_1 : am_IT) => am_let (up2 I_1 48 1 (0 : Int32)) (fun (I_2 : am_IT) => some I_2))
set_option maxRecDepth 100000 in
set_option maxHeartbeats 4000000 in
theorem s_X6_clear_48 {l : Launch} {d N : Nat} {P : am_PT} (hPl : am_Pl 94 N P) (hd : 1 ≤ d) {I : am_IT} {I2 : am_IT} (hF : F_X6_clear_48 I = some (I2)) : am_C l d 0 0 mX6_clear [.ref 48] N P I (am_qv N P I2) := by
  refine am_body (sc := am_sc0) (n := 0) (by decide +kernel) (by decide) rfl ?_
  change G am_sc0 l d 0 0 mX6_clear (am_qv N P I2) 0 [.ref 48] [] N P I 0 0
  unfold F_X6_clear_48 at hF
  refine g_aload_n (pc := 0) dX6_clear_0 rfl rfl ?_
  refine g_iconst (pc := 1) (v := (0 : Int32)) dX6_clear_1 rfl ?_
  obtain ⟨I_1, e_I_1, hF⟩ := am_let_el hF
  refine n_putI (pc := 2) (k := 48) e_I_1 kf_X6_9 rfl rfl (hPl.lt (by decide)) dX6_clear_2 ?_
  refine g_aload_n (pc := 5) dX6_clear_5 rfl rfl ?_
  refine g_iconst (pc := 6) (v := (0 : Int32)) dX6_clear_6 rfl ?_
  obtain ⟨I_2, e_I_2, hF⟩ := am_let_el hF
  refine n_putI (pc := 7) (k := 48) e_I_2 kf_X6_15 rfl rfl (hPl.lt (by decide)) dX6_clear_7 ?_
  cases hF
  exact g_vret (pc := 10) rfl (Nat.le_refl _) (Nat.le_refl _) dX6_clear_10 ⟨rfl, rfl, rfl, rfl⟩
def F_X7_kindOf (I : am_IT) (a1 : Int32) : Option (Int32) := if a1 = (32 : Int32) then (some (1 : Int32)) else (if a1 = (10 : Int32) then (some (1 : Int32)) else (if a1 < (97 : Int32) then (if a1 < (65 : Int32) then (if a1 < (48 : Int32) then (some (0 : Int32)) else (if (57 : Int32) < a1 then (some (0 : Int32)) else (some (3 : Int32)))) else (if (90 : Int32) < a1 then (if a1 < (48 : Int32) then (some (0 : Int32)) else (if (57 : Int32) < a1 then (some (0 : Int32)) else (some (3 : Int32)))) else (some (2 : Int32)))) else (if a1 ≤ (122 : Int32) then (some (2 : Int32)) else (if a1 < (65 : Int32) then (if a1 < (48 : Int32) then (some (0 : Int32)) else (if (57 : Int32) < a1 then (some (0 : Int32)) else (some (3 : Int32)))) else (if (90 : Int32) < a1 then (if a1 < (48 : Int32) then (some (0 : Int32)) else (if (57 : Int32) < a1 then (some (0 : Int32)) else (some (3 : Int32)))) else (some (2 : Int32)))))))
set_option maxRecDepth 100000 in
set_option maxHeartbeats 4000000 in
theorem s_X7_kindOf {l : Launch} {d N : Nat} {P : am_PT} (hPl : am_Pl 94 N P) (hd : 1 ≤ d) {I : am_IT} {a1 : Int32} {r : Int32} (hF : F_X7_kindOf I a1 = some (r)) : am_C l d 0 0 mX7_kindOf [.int a1] N P I (am_qi r N P I) := by
  refine am_body (sc := am_sc0) (n := 0) (by decide +kernel) (by decide) rfl ?_
  change G am_sc0 l d 0 0 mX7_kindOf (am_qi r N P I) 0 [.int a1] [] N P I 0 0
  unfold F_X7_kindOf at hF
  refine g_iload_n (pc := 0) dX7_kindOf_0 rfl rfl ?_
  refine g_bipush (pc := 1) (v := (32 : Int32)) dX7_kindOf_1 rfl ?_
  refine g_icmp_eq (pc := 3) (tgt := 12) dX7_kindOf_3 rfl (fun c_1 => ?_) (fun c_1 => ?_)
  · replace hF := am_yes c_1 hF
    refine g_iconst (pc := 12) (v := (1 : Int32)) dX7_kindOf_12 rfl ?_
    cases hF
    exact g_iret (pc := 13) rfl (Nat.le_refl _) (Nat.le_refl _) dX7_kindOf_13 ⟨rfl, rfl, rfl, rfl⟩
  · replace hF := am_no c_1 hF
    refine g_iload_n (pc := 6) dX7_kindOf_6 rfl rfl ?_
    refine g_bipush (pc := 7) (v := (10 : Int32)) dX7_kindOf_7 rfl ?_
    refine g_icmp_ne (pc := 9) (tgt := 14) dX7_kindOf_9 rfl (fun c_2 => ?_) (fun c_2 => ?_)
    · replace hF := am_no c_2 hF
      refine g_iload_n (pc := 14) dX7_kindOf_14 rfl rfl ?_
      refine g_bipush (pc := 15) (v := (97 : Int32)) dX7_kindOf_15 rfl ?_
      refine g_icmp_lt (pc := 17) (tgt := 26) dX7_kindOf_17 rfl (fun c_3 => ?_) (fun c_3 => ?_)
      · replace hF := am_yes c_3 hF
        refine g_iload_n (pc := 26) dX7_kindOf_26 rfl rfl ?_
        refine g_bipush (pc := 27) (v := (65 : Int32)) dX7_kindOf_27 rfl ?_
        refine g_icmp_lt (pc := 29) (tgt := 40) dX7_kindOf_29 rfl (fun c_4 => ?_) (fun c_4 => ?_)
        · replace hF := am_yes c_4 hF
          refine g_iload_n (pc := 40) dX7_kindOf_40 rfl rfl ?_
          refine g_bipush (pc := 41) (v := (48 : Int32)) dX7_kindOf_41 rfl ?_
          refine g_icmp_lt (pc := 43) (tgt := 56) dX7_kindOf_43 rfl (fun c_5 => ?_) (fun c_5 => ?_)
          · replace hF := am_yes c_5 hF
            refine g_iconst (pc := 56) (v := (0 : Int32)) dX7_kindOf_56 rfl ?_
            cases hF
            exact g_iret (pc := 57) rfl (Nat.le_refl _) (Nat.le_refl _) dX7_kindOf_57 ⟨rfl, rfl, rfl, rfl⟩
          · replace hF := am_no c_5 hF
            refine g_iload_n (pc := 46) dX7_kindOf_46 rfl rfl ?_
            refine g_bipush (pc := 47) (v := (57 : Int32)) dX7_kindOf_47 rfl ?_
            refine g_icmp_gt (pc := 49) (tgt := 56) dX7_kindOf_49 rfl (fun c_6 => ?_) (fun c_6 => ?_)
            · replace hF := am_yes c_6 hF
              refine g_iconst (pc := 56) (v := (0 : Int32)) dX7_kindOf_56 rfl ?_
              cases hF
              exact g_iret (pc := 57) rfl (Nat.le_refl _) (Nat.le_refl _) dX7_kindOf_57 ⟨rfl, rfl, rfl, rfl⟩
            · replace hF := am_no c_6 hF
              refine g_iconst (pc := 52) (v := (3 : Int32)) dX7_kindOf_52 rfl ?_
              refine g_goto (pc := 53) (tgt := 57) dX7_kindOf_53 rfl ?_
              cases hF
              exact g_iret (pc := 57) rfl (Nat.le_refl _) (Nat.le_refl _) dX7_kindOf_57 ⟨rfl, rfl, rfl, rfl⟩
        · replace hF := am_no c_4 hF
          refine g_iload_n (pc := 32) dX7_kindOf_32 rfl rfl ?_
          refine g_bipush (pc := 33) (v := (90 : Int32)) dX7_kindOf_33 rfl ?_
          refine g_icmp_gt (pc := 35) (tgt := 40) dX7_kindOf_35 rfl (fun c_7 => ?_) (fun c_7 => ?_)
          · replace hF := am_yes c_7 hF
            refine g_iload_n (pc := 40) dX7_kindOf_40 rfl rfl ?_
            refine g_bipush (pc := 41) (v := (48 : Int32)) dX7_kindOf_41 rfl ?_
            refine g_icmp_lt (pc := 43) (tgt := 56) dX7_kindOf_43 rfl (fun c_8 => ?_) (fun c_8 => ?_)
            · replace hF := am_yes c_8 hF
              refine g_iconst (pc := 56) (v := (0 : Int32)) dX7_kindOf_56 rfl ?_
              cases hF
              exact g_iret (pc := 57) rfl (Nat.le_refl _) (Nat.le_refl _) dX7_kindOf_57 ⟨rfl, rfl, rfl, rfl⟩
            · replace hF := am_no c_8 hF
              refine g_iload_n (pc := 46) dX7_kindOf_46 rfl rfl ?_
              refine g_bipush (pc := 47) (v := (57 : Int32)) dX7_kindOf_47 rfl ?_
              refine g_icmp_gt (pc := 49) (tgt := 56) dX7_kindOf_49 rfl (fun c_9 => ?_) (fun c_9 => ?_)
              · replace hF := am_yes c_9 hF
                refine g_iconst (pc := 56) (v := (0 : Int32)) dX7_kindOf_56 rfl ?_
                cases hF
                exact g_iret (pc := 57) rfl (Nat.le_refl _) (Nat.le_refl _) dX7_kindOf_57 ⟨rfl, rfl, rfl, rfl⟩
              · replace hF := am_no c_9 hF
                refine g_iconst (pc := 52) (v := (3 : Int32)) dX7_kindOf_52 rfl ?_
                refine g_goto (pc := 53) (tgt := 57) dX7_kindOf_53 rfl ?_
                cases hF
                exact g_iret (pc := 57) rfl (Nat.le_refl _) (Nat.le_refl _) dX7_kindOf_57 ⟨rfl, rfl, rfl, rfl⟩
          · replace hF := am_no c_7 hF
            refine g_iconst (pc := 38) (v := (2 : Int32)) dX7_kindOf_38 rfl ?_
            cases hF
            exact g_iret (pc := 39) rfl (Nat.le_refl _) (Nat.le_refl _) dX7_kindOf_39 ⟨rfl, rfl, rfl, rfl⟩
      · replace hF := am_no c_3 hF
        refine g_iload_n (pc := 20) dX7_kindOf_20 rfl rfl ?_
        refine g_bipush (pc := 21) (v := (122 : Int32)) dX7_kindOf_21 rfl ?_
        refine g_icmp_le (pc := 23) (tgt := 38) dX7_kindOf_23 rfl (fun c_10 => ?_) (fun c_10 => ?_)
        · replace hF := am_yes c_10 hF
          refine g_iconst (pc := 38) (v := (2 : Int32)) dX7_kindOf_38 rfl ?_
          cases hF
          exact g_iret (pc := 39) rfl (Nat.le_refl _) (Nat.le_refl _) dX7_kindOf_39 ⟨rfl, rfl, rfl, rfl⟩
        · replace hF := am_no c_10 hF
          refine g_iload_n (pc := 26) dX7_kindOf_26 rfl rfl ?_
          refine g_bipush (pc := 27) (v := (65 : Int32)) dX7_kindOf_27 rfl ?_
          refine g_icmp_lt (pc := 29) (tgt := 40) dX7_kindOf_29 rfl (fun c_11 => ?_) (fun c_11 => ?_)
          · replace hF := am_yes c_11 hF
            refine g_iload_n (pc := 40) dX7_kindOf_40 rfl rfl ?_
            refine g_bipush (pc := 41) (v := (48 : Int32)) dX7_kindOf_41 rfl ?_
            refine g_icmp_lt (pc := 43) (tgt := 56) dX7_kindOf_43 rfl (fun c_12 => ?_) (fun c_12 => ?_)
            · replace hF := am_yes c_12 hF
              refine g_iconst (pc := 56) (v := (0 : Int32)) dX7_kindOf_56 rfl ?_
              cases hF
              exact g_iret (pc := 57) rfl (Nat.le_refl _) (Nat.le_refl _) dX7_kindOf_57 ⟨rfl, rfl, rfl, rfl⟩
            · replace hF := am_no c_12 hF
              refine g_iload_n (pc := 46) dX7_kindOf_46 rfl rfl ?_
              refine g_bipush (pc := 47) (v := (57 : Int32)) dX7_kindOf_47 rfl ?_
              refine g_icmp_gt (pc := 49) (tgt := 56) dX7_kindOf_49 rfl (fun c_13 => ?_) (fun c_13 => ?_)
              · replace hF := am_yes c_13 hF
                refine g_iconst (pc := 56) (v := (0 : Int32)) dX7_kindOf_56 rfl ?_
                cases hF
                exact g_iret (pc := 57) rfl (Nat.le_refl _) (Nat.le_refl _) dX7_kindOf_57 ⟨rfl, rfl, rfl, rfl⟩
              · replace hF := am_no c_13 hF
                refine g_iconst (pc := 52) (v := (3 : Int32)) dX7_kindOf_52 rfl ?_
                refine g_goto (pc := 53) (tgt := 57) dX7_kindOf_53 rfl ?_
                cases hF
                exact g_iret (pc := 57) rfl (Nat.le_refl _) (Nat.le_refl _) dX7_kindOf_57 ⟨rfl, rfl, rfl, rfl⟩
          · replace hF := am_no c_11 hF
            refine g_iload_n (pc := 32) dX7_kindOf_32 rfl rfl ?_
            refine g_bipush (pc := 33) (v := (90 : Int32)) dX7_kindOf_33 rfl ?_
            refine g_icmp_gt (pc := 35) (tgt := 40) dX7_kindOf_35 rfl (fun c_14 => ?_) (fun c_14 => ?_)
            · replace hF := am_yes c_14 hF
              refine g_iload_n (pc := 40) dX7_kindOf_40 rfl rfl ?_
              refine g_bipush (pc := 41) (v := (48 : Int32)) dX7_kindOf_41 rfl ?_
              refine g_icmp_lt (pc := 43) (tgt := 56) dX7_kindOf_43 rfl (fun c_15 => ?_) (fun c_15 => ?_)
              · replace hF := am_yes c_15 hF
                refine g_iconst (pc := 56) (v := (0 : Int32)) dX7_kindOf_56 rfl ?_
                cases hF
                exact g_iret (pc := 57) rfl (Nat.le_refl _) (Nat.le_refl _) dX7_kindOf_57 ⟨rfl, rfl, rfl, rfl⟩
              · replace hF := am_no c_15 hF
                refine g_iload_n (pc := 46) dX7_kindOf_46 rfl rfl ?_
                refine g_bipush (pc := 47) (v := (57 : Int32)) dX7_kindOf_47 rfl ?_
                refine g_icmp_gt (pc := 49) (tgt := 56) dX7_kindOf_49 rfl (fun c_16 => ?_) (fun c_16 => ?_)
                · replace hF := am_yes c_16 hF
                  refine g_iconst (pc := 56) (v := (0 : Int32)) dX7_kindOf_56 rfl ?_
                  cases hF
                  exact g_iret (pc := 57) rfl (Nat.le_refl _) (Nat.le_refl _) dX7_kindOf_57 ⟨rfl, rfl, rfl, rfl⟩
                · replace hF := am_no c_16 hF
                  refine g_iconst (pc := 52) (v := (3 : Int32)) dX7_kindOf_52 rfl ?_
                  refine g_goto (pc := 53) (tgt := 57) dX7_kindOf_53 rfl ?_
                  cases hF
                  exact g_iret (pc := 57) rfl (Nat.le_refl _) (Nat.le_refl _) dX7_kindOf_57 ⟨rfl, rfl, rfl, rfl⟩
            · replace hF := am_no c_14 hF
              refine g_iconst (pc := 38) (v := (2 : Int32)) dX7_kindOf_38 rfl ?_
              cases hF
              exact g_iret (pc := 39) rfl (Nat.le_refl _) (Nat.le_refl _) dX7_kindOf_39 ⟨rfl, rfl, rfl, rfl⟩
    · replace hF := am_yes c_2 hF
      refine g_iconst (pc := 12) (v := (1 : Int32)) dX7_kindOf_12 rfl ?_
      cases hF
      exact g_iret (pc := 13) rfl (Nat.le_refl _) (Nat.le_refl _) dX7_kindOf_13 ⟨rfl, rfl, rfl, rfl⟩
def F_J0_isLatin1_aae02_1000001 (I : am_IT) : Option (Int32) := if (1 : Int32) = 0 then (some (0 : Int32)) else (if (0 : Int32) = 0 then (some (1 : Int32)) else (some (0 : Int32)))
set_option maxRecDepth 100000 in
set_option maxHeartbeats 4000000 in
theorem s_J0_isLatin1_aae02_1000001 {l : Launch} {d N : Nat} {P : am_PT} (hPl : am_Pl 94 N P) (hd : 1 ≤ d) {I : am_IT} {r : Int32} (hF : F_J0_isLatin1_aae02_1000001 I = some (r)) : am_C l d 0 0 mJ0_isLatin1_aae02 [.ref 1000001] N P I (am_qz r N P I) := by
  refine am_body (sc := am_sc0) (n := 0) (by decide +kernel) (by decide) rfl ?_
  change G am_sc0 l d 0 0 mJ0_isLatin1_aae02 (am_qz r N P I) 0 [.ref 1000001] [] N P I 0 0
  unfold F_J0_isLatin1_aae02_1000001 at hF
  refine g_getsC (pc := 0) kf_J0_38 dJ0_isLatin1_aae02_0 ?_
  refine g_if_eq (pc := 3) (tgt := 17) dJ0_isLatin1_aae02_3 rfl (fun c_1 => ?_) (fun c_1 => ?_)
  · replace hF := am_yes c_1 hF
    refine g_iconst (pc := 17) (v := (0 : Int32)) dJ0_isLatin1_aae02_17 rfl ?_
    cases hF
    exact g_zret (pc := 18) rfl (Or.inl rfl) (Nat.le_refl _) (Nat.le_refl _) dJ0_isLatin1_aae02_18 ⟨(Or.inl rfl), rfl, rfl, rfl, rfl⟩
  · replace hF := am_no c_1 hF
    refine g_aload_n (pc := 6) dJ0_isLatin1_aae02_6 rfl rfl ?_
    refine g_strC (pc := 7) (i := 1) (k := 1000001) (by decide) rfl kf_J0_15 dJ0_isLatin1_aae02_7 ?_
    refine g_if_ne (pc := 10) (tgt := 17) dJ0_isLatin1_aae02_10 rfl (fun c_2 => ?_) (fun c_2 => ?_)
    · replace hF := am_no c_2 hF
      refine g_iconst (pc := 17) (v := (0 : Int32)) dJ0_isLatin1_aae02_17 rfl ?_
      cases hF
      exact g_zret (pc := 18) rfl (Or.inl rfl) (Nat.le_refl _) (Nat.le_refl _) dJ0_isLatin1_aae02_18 ⟨(Or.inl rfl), rfl, rfl, rfl, rfl⟩
    · replace hF := am_yes c_2 hF
      refine g_iconst (pc := 13) (v := (1 : Int32)) dJ0_isLatin1_aae02_13 rfl ?_
      refine g_goto (pc := 14) (tgt := 18) dJ0_isLatin1_aae02_14 rfl ?_
      cases hF
      exact g_zret (pc := 18) rfl (Or.inr rfl) (Nat.le_refl _) (Nat.le_refl _) dJ0_isLatin1_aae02_18 ⟨(Or.inr rfl), rfl, rfl, rfl, rfl⟩
def F_J0_coder_7d493_1000001 (I : am_IT) : Option (Int32) := if (1 : Int32) = 0 then (if narrow .byte (.int (1 : Int32)) = .int (1 : Int32) then (some (1 : Int32)) else none) else (if narrow .byte (.int (0 : Int32)) = .int (0 : Int32) then (some (0 : Int32)) else none)
set_option maxRecDepth 100000 in
set_option maxHeartbeats 4000000 in
theorem s_J0_coder_7d493_1000001 {l : Launch} {d N : Nat} {P : am_PT} (hPl : am_Pl 94 N P) (hd : 1 ≤ d) {I : am_IT} {r : Int32} (hF : F_J0_coder_7d493_1000001 I = some (r)) : am_C l d 0 0 mJ0_coder_7d493 [.ref 1000001] N P I (am_qi r N P I) := by
  refine am_body (sc := am_sc0) (n := 0) (by decide +kernel) (by decide) rfl ?_
  change G am_sc0 l d 0 0 mJ0_coder_7d493 (am_qi r N P I) 0 [.ref 1000001] [] N P I 0 0
  unfold F_J0_coder_7d493_1000001 at hF
  refine g_getsC (pc := 0) kf_J0_38 dJ0_coder_7d493_0 ?_
  refine g_if_eq (pc := 3) (tgt := 13) dJ0_coder_7d493_3 rfl (fun c_1 => ?_) (fun c_1 => ?_)
  · replace hF := am_yes c_1 hF
    refine g_iconst (pc := 13) (v := (1 : Int32)) dJ0_coder_7d493_13 rfl ?_
    obtain ⟨c_2, hF⟩ := am_gd hF
    cases hF
    exact g_xret (pc := 14) rfl c_2 (Nat.le_refl _) (Nat.le_refl _) dJ0_coder_7d493_14 ⟨rfl, rfl, rfl, rfl⟩
  · replace hF := am_no c_1 hF
    refine g_aload_n (pc := 6) dJ0_coder_7d493_6 rfl rfl ?_
    refine g_strC (pc := 7) (i := 1) (k := 1000001) (by decide) rfl kf_J0_15 dJ0_coder_7d493_7 ?_
    refine g_goto (pc := 10) (tgt := 14) dJ0_coder_7d493_10 rfl ?_
    obtain ⟨c_3, hF⟩ := am_gd hF
    cases hF
    exact g_xret (pc := 14) rfl c_3 (Nat.le_refl _) (Nat.le_refl _) dJ0_coder_7d493_14 ⟨rfl, rfl, rfl, rfl⟩
def F_J0_length_8abf5_1000001 (I : am_IT) : Option (Int32) := am_b1 (F_J0_coder_7d493_1000001 I) (fun (r_2 : Int32) => some ((10 : Int32) >>> (r_2 &&& 31)))
set_option maxRecDepth 100000 in
set_option maxHeartbeats 4000000 in
theorem s_J0_length_8abf5_1000001 {l : Launch} {d N : Nat} {P : am_PT} (hPl : am_Pl 94 N P) (hd : 2 ≤ d) {I : am_IT} {r : Int32} (hF : F_J0_length_8abf5_1000001 I = some (r)) : am_C l d 0 0 mJ0_length_8abf5 [.ref 1000001] N P I (am_qi r N P I) := by
  refine am_body (sc := am_sc0) (n := 0) (by decide +kernel) (by decide) rfl ?_
  change G am_sc0 l d 0 0 mJ0_length_8abf5 (am_qi r N P I) 0 [.ref 1000001] [] N P I 0 0
  unfold F_J0_length_8abf5_1000001 at hF
  refine g_aload_n (pc := 0) dJ0_length_8abf5_0 rfl rfl ?_
  refine g_strV (pc := 1) (i := 1) (k := 1000001) (k2 := 1000011) (by decide) rfl rfl kf_J0_9 dJ0_length_8abf5_1 ?_
  refine g_blen (pc := 4) (i := 1) (k := 1000011) (v := 10) (by decide) rfl rfl dJ0_length_8abf5_4 ?_
  refine g_aload_n (pc := 5) dJ0_length_8abf5_5 rfl rfl ?_
  obtain ⟨r_2, h_1, hF⟩ := am_b1_el hF
  refine g_cTi (pc := 6) (i := 1) (k := 1000001) (As := []) (st := [.int (10 : Int32)]) ky_J0_coder_7d493 (by decide) rfl kl_J0_335 (s_J0_coder_7d493_1000001 (d := 1) (hPl) (Nat.le_refl _) h_1) rfl rfl (Nat.le_trans (by decide) hd) (Nat.le_of_ble_eq_true rfl) (Nat.le_refl _) (Nat.le_refl _) dJ0_length_8abf5_6 ?_
  refine g_ishr (pc := 9) dJ0_length_8abf5_9 ?_
  cases hF
  exact g_iret (pc := 10) rfl (Nat.le_refl _) (Nat.le_refl _) dJ0_length_8abf5_10 ⟨rfl, rfl, rfl, rfl⟩
def F_J1_canEncode_9a6ad (I : am_IT) (a1 : Int32) : Option (Int32) := if a1 < 0 then (some (0 : Int32)) else (if (255 : Int32) < a1 then (some (0 : Int32)) else (some (1 : Int32)))
set_option maxRecDepth 100000 in
set_option maxHeartbeats 4000000 in
theorem s_J1_canEncode_9a6ad {l : Launch} {d N : Nat} {P : am_PT} (hPl : am_Pl 94 N P) (hd : 1 ≤ d) {I : am_IT} {a1 : Int32} {r : Int32} (hF : F_J1_canEncode_9a6ad I a1 = some (r)) : am_C l d 0 0 mJ1_canEncode_9a6ad [.int a1] N P I (am_qz r N P I) := by
  refine am_body (sc := am_sc0) (n := 0) (by decide +kernel) (by decide) rfl ?_
  change G am_sc0 l d 0 0 mJ1_canEncode_9a6ad (am_qz r N P I) 0 [.int a1] [] N P I 0 0
  unfold F_J1_canEncode_9a6ad at hF
  refine g_iload_n (pc := 0) dJ1_canEncode_9a6ad_0 rfl rfl ?_
  refine g_if_lt (pc := 1) (tgt := 15) dJ1_canEncode_9a6ad_1 rfl (fun c_1 => ?_) (fun c_1 => ?_)
  · replace hF := am_yes c_1 hF
    refine g_iconst (pc := 15) (v := (0 : Int32)) dJ1_canEncode_9a6ad_15 rfl ?_
    cases hF
    exact g_zret (pc := 16) rfl (Or.inl rfl) (Nat.le_refl _) (Nat.le_refl _) dJ1_canEncode_9a6ad_16 ⟨(Or.inl rfl), rfl, rfl, rfl, rfl⟩
  · replace hF := am_no c_1 hF
    refine g_iload_n (pc := 4) dJ1_canEncode_9a6ad_4 rfl rfl ?_
    refine g_sipush (pc := 5) (v := (255 : Int32)) dJ1_canEncode_9a6ad_5 rfl ?_
    refine g_icmp_gt (pc := 8) (tgt := 15) dJ1_canEncode_9a6ad_8 rfl (fun c_2 => ?_) (fun c_2 => ?_)
    · replace hF := am_yes c_2 hF
      refine g_iconst (pc := 15) (v := (0 : Int32)) dJ1_canEncode_9a6ad_15 rfl ?_
      cases hF
      exact g_zret (pc := 16) rfl (Or.inl rfl) (Nat.le_refl _) (Nat.le_refl _) dJ1_canEncode_9a6ad_16 ⟨(Or.inl rfl), rfl, rfl, rfl, rfl⟩
    · replace hF := am_no c_2 hF
      refine g_iconst (pc := 11) (v := (1 : Int32)) dJ1_canEncode_9a6ad_11 rfl ?_
      refine g_goto (pc := 12) (tgt := 16) dJ1_canEncode_9a6ad_12 rfl ?_
      cases hF
      exact g_zret (pc := 16) rfl (Or.inr rfl) (Nat.le_refl _) (Nat.le_refl _) dJ1_canEncode_9a6ad_16 ⟨(Or.inr rfl), rfl, rfl, rfl, rfl⟩
def F_J1_indexOfChar_4cfef_1000011 (I : am_IT) (a2 : Int32) (a3 : Int32) (a4 : Int32) : Option (Int32) := am_let (a2.toInt8.toInt32) (fun (l4_1 : Int32) => am_lr (am_it am_fu (fun (l5_2 : Int32) => if a4 ≤ l5_2 then (some (.inr (.inl ((0 : Int32))))) else (if am_ix l5_2 10 = true then (if (am_sc 1 l5_2.toNatClampNeg) = l4_1 then (some (.inr (.inr l5_2))) else (am_let (l5_2 + (1 : Int32)) (fun (l5_12 : Int32) => some (.inl (l5_12))))) else none)) a3) (fun (u_3 : Int32) => some (-1 : Int32)))
set_option maxRecDepth 100000 in
set_option maxHeartbeats 4000000 in
theorem s_J1_indexOfChar_4cfef_1000011 {l : Launch} {d N : Nat} {P : am_PT} (hPl : am_Pl 94 N P) (hd : 1 ≤ d) {I : am_IT} {a2 : Int32} {a3 : Int32} {a4 : Int32} {r : Int32} (hF : F_J1_indexOfChar_4cfef_1000011 I a2 a3 a4 = some (r)) : am_C l d 0 0 mJ1_indexOfChar_4cfef [.ref 1000011, .int a2, .int a3, .int a4] N P I (am_qi r N P I) := by
  refine am_body (sc := am_sc0) (n := 2) (by decide +kernel) (by decide) rfl ?_
  change G am_sc0 l d 0 0 mJ1_indexOfChar_4cfef (am_qi r N P I) 0 [.ref 1000011, .int a2, .int a3, .int a4, .null, .null] [] N P I 0 0
  unfold F_J1_indexOfChar_4cfef_1000011 at hF
  refine g_iload_n (pc := 0) dJ1_indexOfChar_4cfef_0 rfl rfl ?_
  refine g_i2b (pc := 1) dJ1_indexOfChar_4cfef_1 ?_
  obtain ⟨l4_1, e_l4_1, hF⟩ := am_let_el hF
  refine n_istore (pc := 2) (ls2 := [.ref 1000011, .int a2, .int a3, .int a4, .int l4_1, .null]) e_l4_1 rfl dJ1_indexOfChar_4cfef_2 (Nat.le_of_ble_eq_true rfl) ?_
  refine g_iload_n (pc := 4) dJ1_indexOfChar_4cfef_4 rfl rfl ?_
  refine n_istore (pc := 5) (ls2 := [.ref 1000011, .int a2, .int a3, .int a4, .int l4_1, .int a3]) rfl rfl dJ1_indexOfChar_4cfef_5 (Nat.le_of_ble_eq_true rfl) ?_
  obtain ⟨x_14, hL_7, hF⟩ := am_lr_el hF
  have hX_4 : ∀ (u_3 : Int32), x_14 = .inl u_3 → G am_sc0 l d 0 0 mJ1_indexOfChar_4cfef (am_qi r N P I) 31 [.ref 1000011, .int a2, .int a3, .int a4, .int l4_1, .null] [] N P I 0 0 := by
    intro u_3 q
    subst q
    refine g_iconst (pc := 31) (v := (-1 : Int32)) dJ1_indexOfChar_4cfef_31 (by decide) ?_
    cases hF
    exact g_iret (pc := 32) rfl (Nat.le_refl _) (Nat.le_refl _) dJ1_indexOfChar_4cfef_32 ⟨rfl, rfl, rfl, rfl⟩
  have hZ_8 : ∀ y, x_14 = .inr y → y = _ := fun y q => by subst q; exact hF
  clear hF
  have hC := am_loop (C := fun x => G am_sc0 l d 0 0 mJ1_indexOfChar_4cfef (am_qi r N P I) 7 [.ref 1000011, .int a2, .int a3, .int a4, .int l4_1, .int x] [] N P I 0 0) (by
    intro l5_2 rr hF ih_5 hE_6
    refine g_iload (pc := 7) dJ1_indexOfChar_4cfef_7 rfl ?_
    refine g_iload_n (pc := 9) dJ1_indexOfChar_4cfef_9 rfl rfl ?_
    refine g_icmp_ge (pc := 10) (tgt := 31) dJ1_indexOfChar_4cfef_10 rfl (fun c_9 => ?_) (fun c_9 => ?_)
    · replace hF := am_yes c_9 hF
      cases hF
      exact g_weak (hX_4 _ (hE_6 _ rfl).symm) ⟨Or.inr rfl, Or.inr rfl, Or.inr rfl, Or.inr rfl, Or.inr rfl, Or.inl rfl, trivial⟩
    · replace hF := am_no c_9 hF
      refine g_aload_n (pc := 13) dJ1_indexOfChar_4cfef_13 rfl rfl ?_
      refine g_iload (pc := 14) dJ1_indexOfChar_4cfef_14 rfl ?_
      obtain ⟨c_10, hF⟩ := am_gd hF
      refine g_bald (pc := 16) (i := 1) (k := 1000011) (n := 10) (by decide) rfl rfl (am_ix_use c_10) dJ1_indexOfChar_4cfef_16 ?_
      refine g_iload (pc := 17) dJ1_indexOfChar_4cfef_17 rfl ?_
      refine g_icmp_ne (pc := 19) (tgt := 25) dJ1_indexOfChar_4cfef_19 rfl (fun c_11 => ?_) (fun c_11 => ?_)
      · replace hF := am_no c_11 hF
        obtain ⟨l5_12, e_l5_12, hF⟩ := am_let_el hF
        refine n_iinc (pc := 25) (ls2 := [.ref 1000011, .int a2, .int a3, .int a4, .int l4_1, .int l5_12]) e_l5_12 rfl rfl rfl dJ1_indexOfChar_4cfef_25 (Nat.le_of_ble_eq_true rfl) ?_
        refine g_goto (pc := 28) (tgt := 7) dJ1_indexOfChar_4cfef_28 rfl ?_
        cases hF
        exact ih_5 (l5_12) rfl
      · replace hF := am_yes c_11 hF
        refine g_iload (pc := 22) dJ1_indexOfChar_4cfef_22 rfl ?_
        cases hF
        have q_13 := hZ_8 _ (hE_6 _ rfl).symm
        cases q_13
        exact g_iret (pc := 24) rfl (Nat.le_refl _) (Nat.le_refl _) dJ1_indexOfChar_4cfef_24 ⟨rfl, rfl, rfl, rfl⟩
    ) _ _ hL_7
  exact hC
def F_J1_indexOf_4cfef_1000011 (I : am_IT) (a2 : Int32) (a3 : Int32) (a4 : Int32) : Option (Int32) := am_b1 (F_J1_canEncode_9a6ad I a2) (fun (r_2 : Int32) => if r_2 = 0 then (some (-1 : Int32)) else (am_let (if a3 < (0 : Int32) then (0 : Int32) else a3) (fun (l2_5 : Int32) => am_let (if (10 : Int32) < a4 then (10 : Int32) else a4) (fun (l3_6 : Int32) => if l2_5 < l3_6 then (am_b1 (F_J1_indexOfChar_4cfef_1000011 I a2 l2_5 l3_6) (fun (r_9 : Int32) => some r_9)) else (some (-1 : Int32))))))
set_option maxRecDepth 100000 in
set_option maxHeartbeats 4000000 in
theorem s_J1_indexOf_4cfef_1000011 {l : Launch} {d N : Nat} {P : am_PT} (hPl : am_Pl 94 N P) (hd : 2 ≤ d) {I : am_IT} {a2 : Int32} {a3 : Int32} {a4 : Int32} {r : Int32} (hF : F_J1_indexOf_4cfef_1000011 I a2 a3 a4 = some (r)) : am_C l d 0 0 mJ1_indexOf_4cfef [.ref 1000011, .int a2, .int a3, .int a4] N P I (am_qi r N P I) := by
  refine am_body (sc := am_sc0) (n := 0) (by decide +kernel) (by decide) rfl ?_
  change G am_sc0 l d 0 0 mJ1_indexOf_4cfef (am_qi r N P I) 0 [.ref 1000011, .int a2, .int a3, .int a4] [] N P I 0 0
  unfold F_J1_indexOf_4cfef_1000011 at hF
  refine g_iload_n (pc := 0) dJ1_indexOf_4cfef_0 rfl rfl ?_
  obtain ⟨r_2, h_1, hF⟩ := am_b1_el hF
  refine g_cSz (pc := 1) (As := [.int a2]) (st := []) ky_J1_canEncode_9a6ad kl_J1_88 (s_J1_canEncode_9a6ad (d := 1) (hPl) (Nat.le_refl _) h_1) rfl rfl (Nat.le_trans (by decide) hd) (Nat.le_of_ble_eq_true rfl) (Nat.le_refl _) (Nat.le_refl _) dJ1_indexOf_4cfef_1 ?_
  intro z_3
  refine g_if_ne (pc := 4) (tgt := 9) dJ1_indexOf_4cfef_4 rfl (fun c_4 => ?_) (fun c_4 => ?_)
  · replace hF := am_no c_4 hF
    refine g_iload_n (pc := 9) dJ1_indexOf_4cfef_9 rfl rfl ?_
    refine g_iconst (pc := 10) (v := (0 : Int32)) dJ1_indexOf_4cfef_10 rfl ?_
    refine g_mmax (pc := 11) kl_J1_92 kz_maxs kz_mi kz_maxc (Nat.le_trans (by decide) hd) (Nat.le_of_ble_eq_true rfl) (Nat.le_refl _) (Nat.le_refl _) dJ1_indexOf_4cfef_11 ?_
    obtain ⟨l2_5, e_l2_5, hF⟩ := am_let_el hF
    refine n_istore_n (pc := 14) (ls2 := [.ref 1000011, .int a2, .int l2_5, .int a4]) e_l2_5 rfl dJ1_indexOf_4cfef_14 rfl (Nat.le_of_ble_eq_true rfl) ?_
    refine g_iload_n (pc := 15) dJ1_indexOf_4cfef_15 rfl rfl ?_
    refine g_aload_n (pc := 16) dJ1_indexOf_4cfef_16 rfl rfl ?_
    refine g_blen (pc := 17) (i := 1) (k := 1000011) (v := 10) (by decide) rfl rfl dJ1_indexOf_4cfef_17 ?_
    refine g_mmin (pc := 18) kl_J1_38 kz_mins kz_mi kz_minc (Nat.le_trans (by decide) hd) (Nat.le_of_ble_eq_true rfl) (Nat.le_refl _) (Nat.le_refl _) dJ1_indexOf_4cfef_18 ?_
    obtain ⟨l3_6, e_l3_6, hF⟩ := am_let_el hF
    refine n_istore_n (pc := 21) (ls2 := [.ref 1000011, .int a2, .int l2_5, .int l3_6]) e_l3_6 rfl dJ1_indexOf_4cfef_21 rfl (Nat.le_of_ble_eq_true rfl) ?_
    refine g_iload_n (pc := 22) dJ1_indexOf_4cfef_22 rfl rfl ?_
    refine g_iload_n (pc := 23) dJ1_indexOf_4cfef_23 rfl rfl ?_
    refine g_icmp_lt (pc := 24) (tgt := 29) dJ1_indexOf_4cfef_24 rfl (fun c_7 => ?_) (fun c_7 => ?_)
    · replace hF := am_yes c_7 hF
      refine g_aload_n (pc := 29) dJ1_indexOf_4cfef_29 rfl rfl ?_
      refine g_iload_n (pc := 30) dJ1_indexOf_4cfef_30 rfl rfl ?_
      refine g_iload_n (pc := 31) dJ1_indexOf_4cfef_31 rfl rfl ?_
      refine g_iload_n (pc := 32) dJ1_indexOf_4cfef_32 rfl rfl ?_
      obtain ⟨r_9, h_8, hF⟩ := am_b1_el hF
      refine g_cSi (pc := 33) (As := [.ref 1000011, .int a2, .int l2_5, .int l3_6]) (st := []) ky_J1_indexOfChar_4cfef kl_J1_95 (s_J1_indexOfChar_4cfef_1000011 (d := 1) (hPl) (Nat.le_refl _) h_8) rfl rfl (Nat.le_trans (by decide) hd) (Nat.le_of_ble_eq_true rfl) (Nat.le_refl _) (Nat.le_refl _) dJ1_indexOf_4cfef_33 ?_
      cases hF
      exact g_iret (pc := 36) rfl (Nat.le_refl _) (Nat.le_refl _) dJ1_indexOf_4cfef_36 ⟨rfl, rfl, rfl, rfl⟩
    · replace hF := am_no c_7 hF
      refine g_iconst (pc := 27) (v := (-1 : Int32)) dJ1_indexOf_4cfef_27 (by decide) ?_
      cases hF
      exact g_iret (pc := 28) rfl (Nat.le_refl _) (Nat.le_refl _) dJ1_indexOf_4cfef_28 ⟨rfl, rfl, rfl, rfl⟩
  · replace hF := am_yes c_4 hF
    refine g_iconst (pc := 7) (v := (-1 : Int32)) dJ1_indexOf_4cfef_7 (by decide) ?_
    cases hF
    exact g_iret (pc := 8) rfl (Nat.le_refl _) (Nat.le_refl _) dJ1_indexOf_4cfef_8 ⟨rfl, rfl, rfl, rfl⟩
def F_J0_indexOf_7cf53_1000001 (I : am_IT) (a1 : Int32) (a2 : Int32) : Option (Int32) := am_b1 (F_J0_isLatin1_aae02_1000001 I) (fun (r_2 : Int32) => if r_2 = 0 then (none) else (am_b1 (F_J0_length_8abf5_1000001 I) (fun (r_8 : Int32) => am_b1 (F_J1_indexOf_4cfef_1000011 I a1 a2 r_8) (fun (r_10 : Int32) => some r_10))))
set_option maxRecDepth 100000 in
set_option maxHeartbeats 4000000 in
theorem s_J0_indexOf_7cf53_1000001 {l : Launch} {d N : Nat} {P : am_PT} (hPl : am_Pl 94 N P) (hd : 3 ≤ d) {I : am_IT} {a1 : Int32} {a2 : Int32} {r : Int32} (hF : F_J0_indexOf_7cf53_1000001 I a1 a2 = some (r)) : am_C l d 0 0 mJ0_indexOf_7cf53 [.ref 1000001, .int a1, .int a2] N P I (am_qi r N P I) := by
  refine am_body (sc := am_sc0) (n := 0) (by decide +kernel) (by decide) rfl ?_
  change G am_sc0 l d 0 0 mJ0_indexOf_7cf53 (am_qi r N P I) 0 [.ref 1000001, .int a1, .int a2] [] N P I 0 0
  unfold F_J0_indexOf_7cf53_1000001 at hF
  refine g_aload_n (pc := 0) dJ0_indexOf_7cf53_0 rfl rfl ?_
  obtain ⟨r_2, h_1, hF⟩ := am_b1_el hF
  refine g_cTz (pc := 1) (i := 1) (k := 1000001) (As := []) (st := []) ky_J0_isLatin1_aae02 (by decide) rfl kl_J0_492 (s_J0_isLatin1_aae02_1000001 (d := 1) (hPl) (Nat.le_refl _) h_1) rfl rfl (Nat.le_trans (by decide) hd) (Nat.le_of_ble_eq_true rfl) (Nat.le_refl _) (Nat.le_refl _) dJ0_indexOf_7cf53_1 ?_
  intro z_3
  refine g_if_eq (pc := 4) (tgt := 23) dJ0_indexOf_7cf53_4 rfl (fun c_4 => ?_) (fun c_4 => ?_)
  · replace hF := am_yes c_4 hF
    cases hF
  · replace hF := am_no c_4 hF
    refine g_aload_n (pc := 7) dJ0_indexOf_7cf53_7 rfl rfl ?_
    refine g_strV (pc := 8) (i := 1) (k := 1000001) (k2 := 1000011) (by decide) rfl rfl kf_J0_9 dJ0_indexOf_7cf53_8 ?_
    refine g_iload_n (pc := 11) dJ0_indexOf_7cf53_11 rfl rfl ?_
    refine g_iload_n (pc := 12) dJ0_indexOf_7cf53_12 rfl rfl ?_
    refine g_aload_n (pc := 13) dJ0_indexOf_7cf53_13 rfl rfl ?_
    obtain ⟨r_8, h_7, hF⟩ := am_b1_el hF
    refine g_cTi (pc := 14) (i := 1) (k := 1000001) (As := []) (st := [.int a2, .int a1, .ref 1000011]) ky_J0_length_8abf5 (by decide) rfl kl_J0_505 (s_J0_length_8abf5_1000001 (d := 2) (hPl) (Nat.le_refl _) h_7) rfl rfl (Nat.le_trans (by decide) hd) (Nat.le_of_ble_eq_true rfl) (Nat.le_refl _) (Nat.le_refl _) dJ0_indexOf_7cf53_14 ?_
    obtain ⟨r_10, h_9, hF⟩ := am_b1_el hF
    refine g_cSi (pc := 17) (As := [.ref 1000011, .int a1, .int a2, .int r_8]) (st := []) ky_J1_indexOf_4cfef kl_J0_637 (s_J1_indexOf_4cfef_1000011 (d := 2) (hPl) (Nat.le_refl _) h_9) rfl rfl (Nat.le_trans (by decide) hd) (Nat.le_of_ble_eq_true rfl) (Nat.le_refl _) (Nat.le_refl _) dJ0_indexOf_7cf53_17 ?_
    refine g_goto (pc := 20) (tgt := 36) dJ0_indexOf_7cf53_20 rfl ?_
    cases hF
    exact g_iret (pc := 36) rfl (Nat.le_refl _) (Nat.le_refl _) dJ0_indexOf_7cf53_36 ⟨rfl, rfl, rfl, rfl⟩
def F_J0_indexOf_0f7a4_1000001 (I : am_IT) (a1 : Int32) : Option (Int32) := am_b1 (F_J0_indexOf_7cf53_1000001 I a1 (0 : Int32)) (fun (r_2 : Int32) => some r_2)
set_option maxRecDepth 100000 in
set_option maxHeartbeats 4000000 in
theorem s_J0_indexOf_0f7a4_1000001 {l : Launch} {d N : Nat} {P : am_PT} (hPl : am_Pl 94 N P) (hd : 4 ≤ d) {I : am_IT} {a1 : Int32} {r : Int32} (hF : F_J0_indexOf_0f7a4_1000001 I a1 = some (r)) : am_C l d 0 0 mJ0_indexOf_0f7a4 [.ref 1000001, .int a1] N P I (am_qi r N P I) := by
  refine am_body (sc := am_sc0) (n := 0) (by decide +kernel) (by decide) rfl ?_
  change G am_sc0 l d 0 0 mJ0_indexOf_0f7a4 (am_qi r N P I) 0 [.ref 1000001, .int a1] [] N P I 0 0
  unfold F_J0_indexOf_0f7a4_1000001 at hF
  refine g_aload_n (pc := 0) dJ0_indexOf_0f7a4_0 rfl rfl ?_
  refine g_iload_n (pc := 1) dJ0_indexOf_0f7a4_1 rfl rfl ?_
  refine g_iconst (pc := 2) (v := (0 : Int32)) dJ0_indexOf_0f7a4_2 rfl ?_
  obtain ⟨r_2, h_1, hF⟩ := am_b1_el hF
  refine g_cTi (pc := 3) (i := 1) (k := 1000001) (As := [.int a1, .int (0 : Int32)]) (st := []) ky_J0_indexOf_7cf53 (by decide) rfl kl_J0_633 (s_J0_indexOf_7cf53_1000001 (d := 3) (hPl) (Nat.le_refl _) h_1) rfl rfl (Nat.le_trans (by decide) hd) (Nat.le_of_ble_eq_true rfl) (Nat.le_refl _) (Nat.le_refl _) dJ0_indexOf_0f7a4_3 ?_
  cases hF
  exact g_iret (pc := 6) rfl (Nat.le_refl _) (Nat.le_refl _) dJ0_indexOf_0f7a4_6 ⟨rfl, rfl, rfl, rfl⟩
def F_X7_numberAt_54 (I : am_IT) (a2 : Int32) (a3 : Int32) : Option (Int32) := if (a3 - a2) ≤ (4 : Int32) then (am_b1 (am_it am_fu (am_u2 (fun (l3_2 : Int32) (l4_3 : Int32) => if a3 ≤ l4_3 then (some (.inr (l3_2))) else (if am_ix l4_3 400 = true then (am_let (((l3_2 * (10 : Int32)) + (I 54 l4_3.toNatClampNeg)) - (48 : Int32)) (fun (l3_12 : Int32) => am_let (l4_3 + (1 : Int32)) (fun (l4_13 : Int32) => some (.inl (l3_12, l4_13))))) else none))) ((0 : Int32), a2)) (fun (l3_4 : Int32) => some ((1000 : Int32) + l3_4))) else (some (301 : Int32))
set_option maxRecDepth 100000 in
set_option maxHeartbeats 4000000 in
theorem s_X7_numberAt_54 {l : Launch} {d N : Nat} {P : am_PT} (hPl : am_Pl 94 N P) (hd : 1 ≤ d) {I : am_IT} {a2 : Int32} {a3 : Int32} {r : Int32} (hF : F_X7_numberAt_54 I a2 a3 = some (r)) : am_C l d 0 0 mX7_numberAt [.ref 54, .int a2, .int a3] N P I (am_qi r N P I) := by
  refine am_body (sc := am_sc0) (n := 2) (by decide +kernel) (by decide) rfl ?_
  change G am_sc0 l d 0 0 mX7_numberAt (am_qi r N P I) 0 [.ref 54, .int a2, .int a3, .null, .null] [] N P I 0 0
  unfold F_X7_numberAt_54 at hF
  refine g_iload_n (pc := 0) dX7_numberAt_0 rfl rfl ?_
  refine g_iload_n (pc := 1) dX7_numberAt_1 rfl rfl ?_
  refine g_isub (pc := 2) dX7_numberAt_2 ?_
  refine g_iconst (pc := 3) (v := (4 : Int32)) dX7_numberAt_3 rfl ?_
  refine g_icmp_le (pc := 4) (tgt := 11) dX7_numberAt_4 rfl (fun c_1 => ?_) (fun c_1 => ?_)
  · replace hF := am_yes c_1 hF
    refine g_iconst (pc := 11) (v := (0 : Int32)) dX7_numberAt_11 rfl ?_
    refine n_istore_n (pc := 12) (ls2 := [.ref 54, .int a2, .int a3, .int (0 : Int32), .null]) rfl rfl dX7_numberAt_12 rfl (Nat.le_of_ble_eq_true rfl) ?_
    refine g_iload_n (pc := 13) dX7_numberAt_13 rfl rfl ?_
    refine n_istore (pc := 14) (ls2 := [.ref 54, .int a2, .int a3, .int (0 : Int32), .int a2]) rfl rfl dX7_numberAt_14 (Nat.le_of_ble_eq_true rfl) ?_
    obtain ⟨l3_4, hL_8, hF⟩ := am_b1_el hF
    have hX_5 : G am_sc0 l d 0 0 mX7_numberAt (am_qi r N P I) 41 [.ref 54, .int a2, .int a3, .int l3_4, .null] [] N P I 0 0 := by
      refine g_sipush (pc := 41) (v := (1000 : Int32)) dX7_numberAt_41 rfl ?_
      refine g_iload_n (pc := 44) dX7_numberAt_44 rfl rfl ?_
      refine g_iadd (pc := 45) dX7_numberAt_45 ?_
      cases hF
      exact g_iret (pc := 46) rfl (Nat.le_refl _) (Nat.le_refl _) dX7_numberAt_46 ⟨rfl, rfl, rfl, rfl⟩
    clear hF
    have hC := am_loop (C := fun x => G am_sc0 l d 0 0 mX7_numberAt (am_qi r N P I) 16 [.ref 54, .int a2, .int a3, .int x.1, .int x.2] [] N P I 0 0) (by
      rintro ⟨l3_2, l4_3⟩ rr hF ih_6 hE_7
      replace hF := am_u2_ap hF
      change G am_sc0 l d 0 0 mX7_numberAt (am_qi r N P I) 16 [.ref 54, .int a2, .int a3, .int l3_2, .int l4_3] [] N P I 0 0
      refine g_iload (pc := 16) dX7_numberAt_16 rfl ?_
      refine g_iload_n (pc := 18) dX7_numberAt_18 rfl rfl ?_
      refine g_icmp_ge (pc := 19) (tgt := 41) dX7_numberAt_19 rfl (fun c_10 => ?_) (fun c_10 => ?_)
      · replace hF := am_yes c_10 hF
        cases hF
        cases hE_7 _ rfl
        exact g_weak hX_5 ⟨Or.inr rfl, Or.inr rfl, Or.inr rfl, Or.inr rfl, Or.inl rfl, trivial⟩
      · replace hF := am_no c_10 hF
        refine g_iload_n (pc := 22) dX7_numberAt_22 rfl rfl ?_
        refine g_bipush (pc := 23) (v := (10 : Int32)) dX7_numberAt_23 rfl ?_
        refine g_imul (pc := 25) dX7_numberAt_25 ?_
        refine g_aload_n (pc := 26) dX7_numberAt_26 rfl rfl ?_
        refine g_iload (pc := 27) dX7_numberAt_27 rfl ?_
        obtain ⟨c_11, hF⟩ := am_gd hF
        refine g_iald (pc := 29) (k := 54) rfl (hPl.lt (by decide)) (am_ix_use c_11) dX7_numberAt_29 ?_
        refine g_iadd (pc := 30) dX7_numberAt_30 ?_
        refine g_bipush (pc := 31) (v := (48 : Int32)) dX7_numberAt_31 rfl ?_
        refine g_isub (pc := 33) dX7_numberAt_33 ?_
        obtain ⟨l3_12, e_l3_12, hF⟩ := am_let_el hF
        refine n_istore_n (pc := 34) (ls2 := [.ref 54, .int a2, .int a3, .int l3_12, .int l4_3]) e_l3_12 rfl dX7_numberAt_34 rfl (Nat.le_of_ble_eq_true rfl) ?_
        obtain ⟨l4_13, e_l4_13, hF⟩ := am_let_el hF
        refine n_iinc (pc := 35) (ls2 := [.ref 54, .int a2, .int a3, .int l3_12, .int l4_13]) e_l4_13 rfl rfl rfl dX7_numberAt_35 (Nat.le_of_ble_eq_true rfl) ?_
        refine g_goto (pc := 38) (tgt := 16) dX7_numberAt_38 rfl ?_
        cases hF
        exact ih_6 (l3_12, l4_13) rfl
      ) _ _ hL_8
    exact hC
  · replace hF := am_no c_1 hF
    refine g_sipush (pc := 7) (v := (301 : Int32)) dX7_numberAt_7 rfl ?_
    cases hF
    exact g_iret (pc := 10) rfl (Nat.le_refl _) (Nat.le_refl _) dX7_numberAt_10 ⟨rfl, rfl, rfl, rfl⟩
def F_J0_coder_7d493_1000000 (I : am_IT) : Option (Int32) := if (1 : Int32) = 0 then (if narrow .byte (.int (1 : Int32)) = .int (1 : Int32) then (some (1 : Int32)) else none) else (if narrow .byte (.int (0 : Int32)) = .int (0 : Int32) then (some (0 : Int32)) else none)
set_option maxRecDepth 100000 in
set_option maxHeartbeats 4000000 in
theorem s_J0_coder_7d493_1000000 {l : Launch} {d N : Nat} {P : am_PT} (hPl : am_Pl 94 N P) (hd : 1 ≤ d) {I : am_IT} {r : Int32} (hF : F_J0_coder_7d493_1000000 I = some (r)) : am_C l d 0 0 mJ0_coder_7d493 [.ref 1000000] N P I (am_qi r N P I) := by
  refine am_body (sc := am_sc0) (n := 0) (by decide +kernel) (by decide) rfl ?_
  change G am_sc0 l d 0 0 mJ0_coder_7d493 (am_qi r N P I) 0 [.ref 1000000] [] N P I 0 0
  unfold F_J0_coder_7d493_1000000 at hF
  refine g_getsC (pc := 0) kf_J0_38 dJ0_coder_7d493_0 ?_
  refine g_if_eq (pc := 3) (tgt := 13) dJ0_coder_7d493_3 rfl (fun c_1 => ?_) (fun c_1 => ?_)
  · replace hF := am_yes c_1 hF
    refine g_iconst (pc := 13) (v := (1 : Int32)) dJ0_coder_7d493_13 rfl ?_
    obtain ⟨c_2, hF⟩ := am_gd hF
    cases hF
    exact g_xret (pc := 14) rfl c_2 (Nat.le_refl _) (Nat.le_refl _) dJ0_coder_7d493_14 ⟨rfl, rfl, rfl, rfl⟩
  · replace hF := am_no c_1 hF
    refine g_aload_n (pc := 6) dJ0_coder_7d493_6 rfl rfl ?_
    refine g_strC (pc := 7) (i := 0) (k := 1000000) (by decide) rfl kf_J0_15 dJ0_coder_7d493_7 ?_
    refine g_goto (pc := 10) (tgt := 14) dJ0_coder_7d493_10 rfl ?_
    obtain ⟨c_3, hF⟩ := am_gd hF
    cases hF
    exact g_xret (pc := 14) rfl c_3 (Nat.le_refl _) (Nat.le_refl _) dJ0_coder_7d493_14 ⟨rfl, rfl, rfl, rfl⟩
def F_J0_length_8abf5_1000000 (I : am_IT) : Option (Int32) := am_b1 (F_J0_coder_7d493_1000000 I) (fun (r_2 : Int32) => some ((84 : Int32) >>> (r_2 &&& 31)))
set_option maxRecDepth 100000 in
set_option maxHeartbeats 4000000 in
theorem s_J0_length_8abf5_1000000 {l : Launch} {d N : Nat} {P : am_PT} (hPl : am_Pl 94 N P) (hd : 2 ≤ d) {I : am_IT} {r : Int32} (hF : F_J0_length_8abf5_1000000 I = some (r)) : am_C l d 0 0 mJ0_length_8abf5 [.ref 1000000] N P I (am_qi r N P I) := by
  refine am_body (sc := am_sc0) (n := 0) (by decide +kernel) (by decide) rfl ?_
  change G am_sc0 l d 0 0 mJ0_length_8abf5 (am_qi r N P I) 0 [.ref 1000000] [] N P I 0 0
  unfold F_J0_length_8abf5_1000000 at hF
  refine g_aload_n (pc := 0) dJ0_length_8abf5_0 rfl rfl ?_
  refine g_strV (pc := 1) (i := 0) (k := 1000000) (k2 := 1000010) (by decide) rfl rfl kf_J0_9 dJ0_length_8abf5_1 ?_
  refine g_blen (pc := 4) (i := 0) (k := 1000010) (v := 84) (by decide) rfl rfl dJ0_length_8abf5_4 ?_
  refine g_aload_n (pc := 5) dJ0_length_8abf5_5 rfl rfl ?_
  obtain ⟨r_2, h_1, hF⟩ := am_b1_el hF
  refine g_cTi (pc := 6) (i := 0) (k := 1000000) (As := []) (st := [.int (84 : Int32)]) ky_J0_coder_7d493 (by decide) rfl kl_J0_335 (s_J0_coder_7d493_1000000 (d := 1) (hPl) (Nat.le_refl _) h_1) rfl rfl (Nat.le_trans (by decide) hd) (Nat.le_of_ble_eq_true rfl) (Nat.le_refl _) (Nat.le_refl _) dJ0_length_8abf5_6 ?_
  refine g_ishr (pc := 9) dJ0_length_8abf5_9 ?_
  cases hF
  exact g_iret (pc := 10) rfl (Nat.le_refl _) (Nat.le_refl _) dJ0_length_8abf5_10 ⟨rfl, rfl, rfl, rfl⟩
def F_J0_isLatin1_aae02_1000000 (I : am_IT) : Option (Int32) := if (1 : Int32) = 0 then (some (0 : Int32)) else (if (0 : Int32) = 0 then (some (1 : Int32)) else (some (0 : Int32)))
set_option maxRecDepth 100000 in
set_option maxHeartbeats 4000000 in
theorem s_J0_isLatin1_aae02_1000000 {l : Launch} {d N : Nat} {P : am_PT} (hPl : am_Pl 94 N P) (hd : 1 ≤ d) {I : am_IT} {r : Int32} (hF : F_J0_isLatin1_aae02_1000000 I = some (r)) : am_C l d 0 0 mJ0_isLatin1_aae02 [.ref 1000000] N P I (am_qz r N P I) := by
  refine am_body (sc := am_sc0) (n := 0) (by decide +kernel) (by decide) rfl ?_
  change G am_sc0 l d 0 0 mJ0_isLatin1_aae02 (am_qz r N P I) 0 [.ref 1000000] [] N P I 0 0
  unfold F_J0_isLatin1_aae02_1000000 at hF
  refine g_getsC (pc := 0) kf_J0_38 dJ0_isLatin1_aae02_0 ?_
  refine g_if_eq (pc := 3) (tgt := 17) dJ0_isLatin1_aae02_3 rfl (fun c_1 => ?_) (fun c_1 => ?_)
  · replace hF := am_yes c_1 hF
    refine g_iconst (pc := 17) (v := (0 : Int32)) dJ0_isLatin1_aae02_17 rfl ?_
    cases hF
    exact g_zret (pc := 18) rfl (Or.inl rfl) (Nat.le_refl _) (Nat.le_refl _) dJ0_isLatin1_aae02_18 ⟨(Or.inl rfl), rfl, rfl, rfl, rfl⟩
  · replace hF := am_no c_1 hF
    refine g_aload_n (pc := 6) dJ0_isLatin1_aae02_6 rfl rfl ?_
    refine g_strC (pc := 7) (i := 0) (k := 1000000) (by decide) rfl kf_J0_15 dJ0_isLatin1_aae02_7 ?_
    refine g_if_ne (pc := 10) (tgt := 17) dJ0_isLatin1_aae02_10 rfl (fun c_2 => ?_) (fun c_2 => ?_)
    · replace hF := am_no c_2 hF
      refine g_iconst (pc := 17) (v := (0 : Int32)) dJ0_isLatin1_aae02_17 rfl ?_
      cases hF
      exact g_zret (pc := 18) rfl (Or.inl rfl) (Nat.le_refl _) (Nat.le_refl _) dJ0_isLatin1_aae02_18 ⟨(Or.inl rfl), rfl, rfl, rfl, rfl⟩
    · replace hF := am_yes c_2 hF
      refine g_iconst (pc := 13) (v := (1 : Int32)) dJ0_isLatin1_aae02_13 rfl ?_
      refine g_goto (pc := 14) (tgt := 18) dJ0_isLatin1_aae02_14 rfl ?_
      cases hF
      exact g_zret (pc := 18) rfl (Or.inr rfl) (Nat.le_refl _) (Nat.le_refl _) dJ0_isLatin1_aae02_18 ⟨(Or.inr rfl), rfl, rfl, rfl, rfl⟩
def F_J3_checkIndex_8e157 (I : am_IT) (a1 : Int32) (a2 : Int32) : Option (Int32) := if a1 < 0 then (none) else (if a1 < a2 then (some a1) else (none))
set_option maxRecDepth 100000 in
set_option maxHeartbeats 4000000 in
theorem s_J3_checkIndex_8e157 {l : Launch} {d N : Nat} {P : am_PT} (hPl : am_Pl 94 N P) (hd : 1 ≤ d) {I : am_IT} {w : Value} {a1 : Int32} {a2 : Int32} {r : Int32} (hF : F_J3_checkIndex_8e157 I a1 a2 = some (r)) : am_C l d 0 0 mJ3_checkIndex_8e157 [.int a1, .int a2, w] N P I (am_qi r N P I) := by
  refine am_body (sc := am_sc0) (n := 0) (by decide +kernel) (by decide) rfl ?_
  change G am_sc0 l d 0 0 mJ3_checkIndex_8e157 (am_qi r N P I) 0 [.int a1, .int a2, w] [] N P I 0 0
  unfold F_J3_checkIndex_8e157 at hF
  refine g_iload_n (pc := 0) dJ3_checkIndex_8e157_0 rfl rfl ?_
  refine g_if_lt (pc := 1) (tgt := 9) dJ3_checkIndex_8e157_1 rfl (fun c_1 => ?_) (fun c_1 => ?_)
  · replace hF := am_yes c_1 hF
    cases hF
  · replace hF := am_no c_1 hF
    refine g_iload_n (pc := 4) dJ3_checkIndex_8e157_4 rfl rfl ?_
    refine g_iload_n (pc := 5) dJ3_checkIndex_8e157_5 rfl rfl ?_
    refine g_icmp_lt (pc := 6) (tgt := 16) dJ3_checkIndex_8e157_6 rfl (fun c_2 => ?_) (fun c_2 => ?_)
    · replace hF := am_yes c_2 hF
      refine g_iload_n (pc := 16) dJ3_checkIndex_8e157_16 rfl rfl ?_
      cases hF
      exact g_iret (pc := 17) rfl (Nat.le_refl _) (Nat.le_refl _) dJ3_checkIndex_8e157_17 ⟨rfl, rfl, rfl, rfl⟩
    · replace hF := am_no c_2 hF
      cases hF
def F_J0_checkIndex_df160 (I : am_IT) (a1 : Int32) (a2 : Int32) : Option (Int32) := am_b1 (F_J3_checkIndex_8e157 I a1 a2) (fun (r_3 : Int32) => some (0 : Int32))
set_option maxRecDepth 100000 in
set_option maxHeartbeats 4000000 in
theorem s_J0_checkIndex_df160 {l : Launch} {d N : Nat} {P : am_PT} (hPl : am_Pl 94 N P) (hd : 2 ≤ d) {I : am_IT} {a1 : Int32} {a2 : Int32} {r : Int32} (hF : F_J0_checkIndex_df160 I a1 a2 = some (r)) : am_C l d 0 0 mJ0_checkIndex_df160 [.int a1, .int a2] N P I (am_qv N P I) := by
  refine am_body (sc := am_sc0) (n := 0) (by decide +kernel) (by decide) rfl ?_
  change G am_sc0 l d 0 0 mJ0_checkIndex_df160 (am_qv N P I) 0 [.int a1, .int a2] [] N P I 0 0
  unfold F_J0_checkIndex_df160 at hF
  refine g_iload_n (pc := 0) dJ0_checkIndex_df160_0 rfl rfl ?_
  refine g_iload_n (pc := 1) dJ0_checkIndex_df160_1 rfl rfl ?_
  refine g_getsF (pc := 2) kf_J0_1053 dJ0_checkIndex_df160_2 (fun w_1 hw_1 => ?_)
  obtain ⟨r_3, h_2, hF⟩ := am_b1_el hF
  refine g_cSi (pc := 5) (As := [.int a1, .int a2, w_1]) (st := []) ky_J3_checkIndex_8e157 kl_J0_1059 (s_J3_checkIndex_8e157 (d := 1) (w := w_1) (hPl) (Nat.le_refl _) h_2) rfl rfl (Nat.le_trans (by decide) hd) (Nat.le_of_ble_eq_true rfl) (Nat.le_refl _) (Nat.le_refl _) dJ0_checkIndex_df160_5 ?_
  refine g_pop (pc := 8) dJ0_checkIndex_df160_8 ?_
  cases hF
  exact g_vret (pc := 9) rfl (Nat.le_refl _) (Nat.le_refl _) dJ0_checkIndex_df160_9 ⟨rfl, rfl, rfl, rfl⟩
def F_J1_charAt_3b067_1000010 (I : am_IT) (a2 : Int32) : Option (Int32) := am_b1 (F_J0_checkIndex_df160 I a2 (84 : Int32)) (fun (u_2 : Int32) => if am_ix a2 84 = true then (if narrow .char (.int ((((am_sc 0 a2.toNatClampNeg) &&& (255 : Int32)).toUInt32 % 65536).toInt32)) = .int ((((am_sc 0 a2.toNatClampNeg) &&& (255 : Int32)).toUInt32 % 65536).toInt32) then (some ((((am_sc 0 a2.toNatClampNeg) &&& (255 : Int32)).toUInt32 % 65536).toInt32)) else none) else none)
set_option maxRecDepth 100000 in
set_option maxHeartbeats 4000000 in
theorem s_J1_charAt_3b067_1000010 {l : Launch} {d N : Nat} {P : am_PT} (hPl : am_Pl 94 N P) (hd : 3 ≤ d) {I : am_IT} {a2 : Int32} {r : Int32} (hF : F_J1_charAt_3b067_1000010 I a2 = some (r)) : am_C l d 0 0 mJ1_charAt_3b067 [.ref 1000010, .int a2] N P I (am_qi r N P I) := by
  refine am_body (sc := am_sc0) (n := 0) (by decide +kernel) (by decide) rfl ?_
  change G am_sc0 l d 0 0 mJ1_charAt_3b067 (am_qi r N P I) 0 [.ref 1000010, .int a2] [] N P I 0 0
  unfold F_J1_charAt_3b067_1000010 at hF
  refine g_iload_n (pc := 0) dJ1_charAt_3b067_0 rfl rfl ?_
  refine g_aload_n (pc := 1) dJ1_charAt_3b067_1 rfl rfl ?_
  refine g_blen (pc := 2) (i := 0) (k := 1000010) (v := 84) (by decide) rfl rfl dJ1_charAt_3b067_2 ?_
  obtain ⟨u_2, h_1, hF⟩ := am_b1_el hF
  refine g_cSv (pc := 3) (As := [.int a2, .int (84 : Int32)]) (st := []) ky_J0_checkIndex_df160 kl_J1_9 (s_J0_checkIndex_df160 (d := 2) (hPl) (Nat.le_refl _) h_1) rfl rfl (Nat.le_trans (by decide) hd) (Nat.le_of_ble_eq_true rfl) (Nat.le_refl _) (Nat.le_refl _) dJ1_charAt_3b067_3 ?_
  refine g_aload_n (pc := 6) dJ1_charAt_3b067_6 rfl rfl ?_
  refine g_iload_n (pc := 7) dJ1_charAt_3b067_7 rfl rfl ?_
  obtain ⟨c_3, hF⟩ := am_gd hF
  refine g_bald (pc := 8) (i := 0) (k := 1000010) (n := 84) (by decide) rfl rfl (am_ix_use c_3) dJ1_charAt_3b067_8 ?_
  refine g_sipush (pc := 9) (v := (255 : Int32)) dJ1_charAt_3b067_9 rfl ?_
  refine g_iand (pc := 12) dJ1_charAt_3b067_12 ?_
  refine g_i2c (pc := 13) dJ1_charAt_3b067_13 ?_
  obtain ⟨c_4, hF⟩ := am_gd hF
  cases hF
  exact g_xret (pc := 14) rfl c_4 (Nat.le_refl _) (Nat.le_refl _) dJ1_charAt_3b067_14 ⟨rfl, rfl, rfl, rfl⟩
def F_J0_charAt_5068e_1000000 (I : am_IT) (a1 : Int32) : Option (Int32) := am_b1 (F_J0_isLatin1_aae02_1000000 I) (fun (r_2 : Int32) => if r_2 = 0 then (none) else (am_b1 (F_J1_charAt_3b067_1000010 I a1) (fun (r_6 : Int32) => if narrow .char (.int r_6) = .int r_6 then (some r_6) else none)))
set_option maxRecDepth 100000 in
set_option maxHeartbeats 4000000 in
theorem s_J0_charAt_5068e_1000000 {l : Launch} {d N : Nat} {P : am_PT} (hPl : am_Pl 94 N P) (hd : 4 ≤ d) {I : am_IT} {a1 : Int32} {r : Int32} (hF : F_J0_charAt_5068e_1000000 I a1 = some (r)) : am_C l d 0 0 mJ0_charAt_5068e [.ref 1000000, .int a1] N P I (am_qi r N P I) := by
  refine am_body (sc := am_sc0) (n := 0) (by decide +kernel) (by decide) rfl ?_
  change G am_sc0 l d 0 0 mJ0_charAt_5068e (am_qi r N P I) 0 [.ref 1000000, .int a1] [] N P I 0 0
  unfold F_J0_charAt_5068e_1000000 at hF
  refine g_aload_n (pc := 0) dJ0_charAt_5068e_0 rfl rfl ?_
  obtain ⟨r_2, h_1, hF⟩ := am_b1_el hF
  refine g_cTz (pc := 1) (i := 0) (k := 1000000) (As := []) (st := []) ky_J0_isLatin1_aae02 (by decide) rfl kl_J0_492 (s_J0_isLatin1_aae02_1000000 (d := 1) (hPl) (Nat.le_refl _) h_1) rfl rfl (Nat.le_trans (by decide) hd) (Nat.le_of_ble_eq_true rfl) (Nat.le_refl _) (Nat.le_refl _) dJ0_charAt_5068e_1 ?_
  intro z_3
  refine g_if_eq (pc := 4) (tgt := 16) dJ0_charAt_5068e_4 rfl (fun c_4 => ?_) (fun c_4 => ?_)
  · replace hF := am_yes c_4 hF
    cases hF
  · replace hF := am_no c_4 hF
    refine g_aload_n (pc := 7) dJ0_charAt_5068e_7 rfl rfl ?_
    refine g_strV (pc := 8) (i := 0) (k := 1000000) (k2 := 1000010) (by decide) rfl rfl kf_J0_9 dJ0_charAt_5068e_8 ?_
    refine g_iload_n (pc := 11) dJ0_charAt_5068e_11 rfl rfl ?_
    obtain ⟨r_6, h_5, hF⟩ := am_b1_el hF
    refine g_cSi (pc := 12) (As := [.ref 1000010, .int a1]) (st := []) ky_J1_charAt_3b067 kl_J0_495 (s_J1_charAt_3b067_1000010 (d := 3) (hPl) (Nat.le_refl _) h_5) rfl rfl (Nat.le_trans (by decide) hd) (Nat.le_of_ble_eq_true rfl) (Nat.le_refl _) (Nat.le_refl _) dJ0_charAt_5068e_12 ?_
    obtain ⟨c_7, hF⟩ := am_gd hF
    cases hF
    exact g_xret (pc := 15) rfl c_7 (Nat.le_refl _) (Nat.le_refl _) dJ0_charAt_5068e_15 ⟨rfl, rfl, rfl, rfl⟩
def F_X7_isKeyword_54 (I : am_IT) (a1 : Int32) (a2 : Int32) (a4 : Int32) : Option (Int32) := am_lr (am_it am_fu (fun (l4_1 : Int32) => if a2 ≤ l4_1 then (some (.inr (.inl ((0 : Int32))))) else (am_b1 (F_J0_charAt_5068e_1000000 I l4_1) (fun (r_10 : Int32) => if am_ix ((a4 + l4_1) - a1) 400 = true then (if r_10 = (I 54 ((a4 + l4_1) - a1).toNatClampNeg) then (am_let (l4_1 + (1 : Int32)) (fun (l4_13 : Int32) => some (.inl (l4_13)))) else (some (.inr (.inr (0 : Int32))))) else none))) a1) (fun (u_2 : Int32) => some (1 : Int32))
set_option maxRecDepth 100000 in
set_option maxHeartbeats 4000000 in
theorem s_X7_isKeyword_54 {l : Launch} {d N : Nat} {P : am_PT} (hPl : am_Pl 94 N P) (hd : 5 ≤ d) {I : am_IT} {a1 : Int32} {a2 : Int32} {a4 : Int32} {r : Int32} (hF : F_X7_isKeyword_54 I a1 a2 a4 = some (r)) : am_C l d 0 0 mX7_isKeyword [.int a1, .int a2, .ref 54, .int a4] N P I (am_qz r N P I) := by
  refine am_body (sc := am_sc0) (n := 1) (by decide +kernel) (by decide) rfl ?_
  change G am_sc0 l d 0 0 mX7_isKeyword (am_qz r N P I) 0 [.int a1, .int a2, .ref 54, .int a4, .null] [] N P I 0 0
  unfold F_X7_isKeyword_54 at hF
  refine g_iload_n (pc := 0) dX7_isKeyword_0 rfl rfl ?_
  refine n_istore (pc := 1) (ls2 := [.int a1, .int a2, .ref 54, .int a4, .int a1]) rfl rfl dX7_isKeyword_1 (Nat.le_of_ble_eq_true rfl) ?_
  obtain ⟨x_15, hL_6, hF⟩ := am_lr_el hF
  have hX_3 : ∀ (u_2 : Int32), x_15 = .inl u_2 → G am_sc0 l d 0 0 mX7_isKeyword (am_qz r N P I) 35 [.int a1, .int a2, .ref 54, .int a4, .null] [] N P I 0 0 := by
    intro u_2 q
    subst q
    refine g_iconst (pc := 35) (v := (1 : Int32)) dX7_isKeyword_35 rfl ?_
    cases hF
    exact g_zret (pc := 36) rfl (Or.inr rfl) (Nat.le_refl _) (Nat.le_refl _) dX7_isKeyword_36 ⟨(Or.inr rfl), rfl, rfl, rfl, rfl⟩
  have hZ_7 : ∀ y, x_15 = .inr y → y = _ := fun y q => by subst q; exact hF
  clear hF
  have hC := am_loop (C := fun x => G am_sc0 l d 0 0 mX7_isKeyword (am_qz r N P I) 3 [.int a1, .int a2, .ref 54, .int a4, .int x] [] N P I 0 0) (by
    intro l4_1 rr hF ih_4 hE_5
    refine g_iload (pc := 3) dX7_isKeyword_3 rfl ?_
    refine g_iload_n (pc := 5) dX7_isKeyword_5 rfl rfl ?_
    refine g_icmp_ge (pc := 6) (tgt := 35) dX7_isKeyword_6 rfl (fun c_8 => ?_) (fun c_8 => ?_)
    · replace hF := am_yes c_8 hF
      cases hF
      exact g_weak (hX_3 _ (hE_5 _ rfl).symm) ⟨Or.inr rfl, Or.inr rfl, Or.inr rfl, Or.inr rfl, Or.inl rfl, trivial⟩
    · replace hF := am_no c_8 hF
      refine g_ldcS0 (pc := 9) rfl dX7_isKeyword_9 ?_
      refine g_iload (pc := 11) dX7_isKeyword_11 rfl ?_
      obtain ⟨r_10, h_9, hF⟩ := am_b1_el hF
      refine g_cTi (pc := 13) (i := 0) (k := 1000000) (As := [.int l4_1]) (st := []) ky_J0_charAt_5068e (by decide) rfl kl_X7_134 (s_J0_charAt_5068e_1000000 (d := 4) (hPl) (Nat.le_refl _) h_9) rfl rfl (Nat.le_trans (by decide) hd) (Nat.le_of_ble_eq_true rfl) (Nat.le_refl _) (Nat.le_refl _) dX7_isKeyword_13 ?_
      refine g_aload_n (pc := 16) dX7_isKeyword_16 rfl rfl ?_
      refine g_iload_n (pc := 17) dX7_isKeyword_17 rfl rfl ?_
      refine g_iload (pc := 18) dX7_isKeyword_18 rfl ?_
      refine g_iadd (pc := 20) dX7_isKeyword_20 ?_
      refine g_iload_n (pc := 21) dX7_isKeyword_21 rfl rfl ?_
      refine g_isub (pc := 22) dX7_isKeyword_22 ?_
      obtain ⟨c_11, hF⟩ := am_gd hF
      refine g_iald (pc := 23) (k := 54) rfl (hPl.lt (by decide)) (am_ix_use c_11) dX7_isKeyword_23 ?_
      refine g_icmp_eq (pc := 24) (tgt := 29) dX7_isKeyword_24 rfl (fun c_12 => ?_) (fun c_12 => ?_)
      · replace hF := am_yes c_12 hF
        obtain ⟨l4_13, e_l4_13, hF⟩ := am_let_el hF
        refine n_iinc (pc := 29) (ls2 := [.int a1, .int a2, .ref 54, .int a4, .int l4_13]) e_l4_13 rfl rfl rfl dX7_isKeyword_29 (Nat.le_of_ble_eq_true rfl) ?_
        refine g_goto (pc := 32) (tgt := 3) dX7_isKeyword_32 rfl ?_
        cases hF
        exact ih_4 (l4_13) rfl
      · replace hF := am_no c_12 hF
        refine g_iconst (pc := 27) (v := (0 : Int32)) dX7_isKeyword_27 rfl ?_
        cases hF
        have q_14 := hZ_7 _ (hE_5 _ rfl).symm
        cases q_14
        exact g_zret (pc := 28) rfl (Or.inl rfl) (Nat.le_refl _) (Nat.le_refl _) dX7_isKeyword_28 ⟨(Or.inl rfl), rfl, rfl, rfl, rfl⟩
    ) _ _ hL_6
  exact hC
def F_X7_keywordAt_54 (I : am_IT) (a2 : Int32) (a3 : Int32) : Option (Int32) := am_lr (am_it am_fu (am_u3 (fun (l3_1 : Int32) (l4_2 : Int32) (l5_3 : Int32) => am_b1 (F_J0_length_8abf5_1000000 I) (fun (r_11 : Int32) => if r_11 ≤ l5_3 then (some (.inr (.inl ((0 : Int32))))) else (am_b1 (F_J0_charAt_5068e_1000000 I l5_3) (fun (r_14 : Int32) => if r_14 = (32 : Int32) then (if (l5_3 - l4_2) = (a3 - a2) then (am_b1 (F_X7_isKeyword_54 I l4_2 l5_3 a2) (fun (r_22 : Int32) => if r_22 = 0 then (am_let (l3_1 + (1 : Int32)) (fun (l3_25 : Int32) => am_let (l5_3 + (1 : Int32)) (fun (l4_26 : Int32) => am_let (l5_3 + (1 : Int32)) (fun (l5_27 : Int32) => some (.inl (l3_25, l4_26, l5_27)))))) else (some (.inr (.inr l3_1))))) else (am_let (l3_1 + (1 : Int32)) (fun (l3_18 : Int32) => am_let (l5_3 + (1 : Int32)) (fun (l4_19 : Int32) => am_let (l5_3 + (1 : Int32)) (fun (l5_20 : Int32) => some (.inl (l3_18, l4_19, l5_20))))))) else (am_let (l5_3 + (1 : Int32)) (fun (l5_16 : Int32) => some (.inl (l3_1, l4_2, l5_16))))))))) ((256 : Int32), (0 : Int32), (0 : Int32))) (fun (u_4 : Int32) => some (301 : Int32))
set_option maxRecDepth 100000 in
set_option maxHeartbeats 4000000 in
theorem s_X7_keywordAt_54 {l : Launch} {d N : Nat} {P : am_PT} (hPl : am_Pl 94 N P) (hd : 6 ≤ d) {I : am_IT} {a2 : Int32} {a3 : Int32} {r : Int32} (hF : F_X7_keywordAt_54 I a2 a3 = some (r)) : am_C l d 0 0 mX7_keywordAt [.ref 54, .int a2, .int a3] N P I (am_qi r N P I) := by
  refine am_body (sc := am_sc0) (n := 3) (by decide +kernel) (by decide) rfl ?_
  change G am_sc0 l d 0 0 mX7_keywordAt (am_qi r N P I) 0 [.ref 54, .int a2, .int a3, .null, .null, .null] [] N P I 0 0
  unfold F_X7_keywordAt_54 at hF
  refine g_sipush (pc := 0) (v := (256 : Int32)) dX7_keywordAt_0 rfl ?_
  refine n_istore_n (pc := 3) (ls2 := [.ref 54, .int a2, .int a3, .int (256 : Int32), .null, .null]) rfl rfl dX7_keywordAt_3 rfl (Nat.le_of_ble_eq_true rfl) ?_
  refine g_iconst (pc := 4) (v := (0 : Int32)) dX7_keywordAt_4 rfl ?_
  refine n_istore (pc := 5) (ls2 := [.ref 54, .int a2, .int a3, .int (256 : Int32), .int (0 : Int32), .null]) rfl rfl dX7_keywordAt_5 (Nat.le_of_ble_eq_true rfl) ?_
  refine g_iconst (pc := 7) (v := (0 : Int32)) dX7_keywordAt_7 rfl ?_
  refine n_istore (pc := 8) (ls2 := [.ref 54, .int a2, .int a3, .int (256 : Int32), .int (0 : Int32), .int (0 : Int32)]) rfl rfl dX7_keywordAt_8 (Nat.le_of_ble_eq_true rfl) ?_
  obtain ⟨x_29, hL_8, hF⟩ := am_lr_el hF
  have hX_5 : ∀ (u_4 : Int32), x_29 = .inl u_4 → G am_sc0 l d 0 0 mX7_keywordAt (am_qi r N P I) 72 [.ref 54, .int a2, .int a3, .null, .null, .null] [] N P I 0 0 := by
    intro u_4 q
    subst q
    refine g_sipush (pc := 72) (v := (301 : Int32)) dX7_keywordAt_72 rfl ?_
    cases hF
    exact g_iret (pc := 75) rfl (Nat.le_refl _) (Nat.le_refl _) dX7_keywordAt_75 ⟨rfl, rfl, rfl, rfl⟩
  have hZ_9 : ∀ y, x_29 = .inr y → y = _ := fun y q => by subst q; exact hF
  clear hF
  have hC := am_loop (C := fun x => G am_sc0 l d 0 0 mX7_keywordAt (am_qi r N P I) 10 [.ref 54, .int a2, .int a3, .int x.1, .int x.2.1, .int x.2.2] [] N P I 0 0) (by
    rintro ⟨l3_1, l4_2, l5_3⟩ rr hF ih_6 hE_7
    replace hF := am_u3_ap hF
    change G am_sc0 l d 0 0 mX7_keywordAt (am_qi r N P I) 10 [.ref 54, .int a2, .int a3, .int l3_1, .int l4_2, .int l5_3] [] N P I 0 0
    refine g_iload (pc := 10) dX7_keywordAt_10 rfl ?_
    refine g_ldcS0 (pc := 12) rfl dX7_keywordAt_12 ?_
    obtain ⟨r_11, h_10, hF⟩ := am_b1_el hF
    refine g_cTi (pc := 14) (i := 0) (k := 1000000) (As := []) (st := [.int l5_3]) ky_J0_length_8abf5 (by decide) rfl kl_X7_130 (s_J0_length_8abf5_1000000 (d := 2) (hPl) (Nat.le_refl _) h_10) rfl rfl (Nat.le_trans (by decide) hd) (Nat.le_of_ble_eq_true rfl) (Nat.le_refl _) (Nat.le_refl _) dX7_keywordAt_14 ?_
    refine g_icmp_ge (pc := 17) (tgt := 72) dX7_keywordAt_17 rfl (fun c_12 => ?_) (fun c_12 => ?_)
    · replace hF := am_yes c_12 hF
      cases hF
      exact g_weak (hX_5 _ (hE_7 _ rfl).symm) ⟨Or.inr rfl, Or.inr rfl, Or.inr rfl, Or.inl rfl, Or.inl rfl, Or.inl rfl, trivial⟩
    · replace hF := am_no c_12 hF
      refine g_ldcS0 (pc := 20) rfl dX7_keywordAt_20 ?_
      refine g_iload (pc := 22) dX7_keywordAt_22 rfl ?_
      obtain ⟨r_14, h_13, hF⟩ := am_b1_el hF
      refine g_cTi (pc := 24) (i := 0) (k := 1000000) (As := [.int l5_3]) (st := []) ky_J0_charAt_5068e (by decide) rfl kl_X7_134 (s_J0_charAt_5068e_1000000 (d := 4) (hPl) (Nat.le_refl _) h_13) rfl rfl (Nat.le_trans (by decide) hd) (Nat.le_of_ble_eq_true rfl) (Nat.le_refl _) (Nat.le_refl _) dX7_keywordAt_24 ?_
      refine g_bipush (pc := 27) (v := (32 : Int32)) dX7_keywordAt_27 rfl ?_
      refine g_icmp_ne (pc := 29) (tgt := 66) dX7_keywordAt_29 rfl (fun c_15 => ?_) (fun c_15 => ?_)
      · replace hF := am_no c_15 hF
        obtain ⟨l5_16, e_l5_16, hF⟩ := am_let_el hF
        refine n_iinc (pc := 66) (ls2 := [.ref 54, .int a2, .int a3, .int l3_1, .int l4_2, .int l5_16]) e_l5_16 rfl rfl rfl dX7_keywordAt_66 (Nat.le_of_ble_eq_true rfl) ?_
        refine g_goto (pc := 69) (tgt := 10) dX7_keywordAt_69 rfl ?_
        cases hF
        exact ih_6 (l3_1, l4_2, l5_16) rfl
      · replace hF := am_yes c_15 hF
        refine g_iload (pc := 32) dX7_keywordAt_32 rfl ?_
        refine g_iload (pc := 34) dX7_keywordAt_34 rfl ?_
        refine g_isub (pc := 36) dX7_keywordAt_36 ?_
        refine g_iload_n (pc := 37) dX7_keywordAt_37 rfl rfl ?_
        refine g_iload_n (pc := 38) dX7_keywordAt_38 rfl rfl ?_
        refine g_isub (pc := 39) dX7_keywordAt_39 ?_
        refine g_icmp_ne (pc := 40) (tgt := 57) dX7_keywordAt_40 rfl (fun c_17 => ?_) (fun c_17 => ?_)
        · replace hF := am_no c_17 hF
          obtain ⟨l3_18, e_l3_18, hF⟩ := am_let_el hF
          refine n_iinc (pc := 57) (ls2 := [.ref 54, .int a2, .int a3, .int l3_18, .int l4_2, .int l5_3]) e_l3_18 rfl rfl rfl dX7_keywordAt_57 (Nat.le_of_ble_eq_true rfl) ?_
          refine g_iload (pc := 60) dX7_keywordAt_60 rfl ?_
          refine g_iconst (pc := 62) (v := (1 : Int32)) dX7_keywordAt_62 rfl ?_
          refine g_iadd (pc := 63) dX7_keywordAt_63 ?_
          obtain ⟨l4_19, e_l4_19, hF⟩ := am_let_el hF
          refine n_istore (pc := 64) (ls2 := [.ref 54, .int a2, .int a3, .int l3_18, .int l4_19, .int l5_3]) e_l4_19 rfl dX7_keywordAt_64 (Nat.le_of_ble_eq_true rfl) ?_
          obtain ⟨l5_20, e_l5_20, hF⟩ := am_let_el hF
          refine n_iinc (pc := 66) (ls2 := [.ref 54, .int a2, .int a3, .int l3_18, .int l4_19, .int l5_20]) e_l5_20 rfl rfl rfl dX7_keywordAt_66 (Nat.le_of_ble_eq_true rfl) ?_
          refine g_goto (pc := 69) (tgt := 10) dX7_keywordAt_69 rfl ?_
          cases hF
          exact ih_6 (l3_18, l4_19, l5_20) rfl
        · replace hF := am_yes c_17 hF
          refine g_iload (pc := 43) dX7_keywordAt_43 rfl ?_
          refine g_iload (pc := 45) dX7_keywordAt_45 rfl ?_
          refine g_aload_n (pc := 47) dX7_keywordAt_47 rfl rfl ?_
          refine g_iload_n (pc := 48) dX7_keywordAt_48 rfl rfl ?_
          obtain ⟨r_22, h_21, hF⟩ := am_b1_el hF
          refine g_cSz (pc := 49) (As := [.int l4_2, .int l5_3, .ref 54, .int a2]) (st := []) ky_X7_isKeyword kl_X7_138 (s_X7_isKeyword_54 (d := 5) (hPl) (Nat.le_refl _) h_21) rfl rfl (Nat.le_trans (by decide) hd) (Nat.le_of_ble_eq_true rfl) (Nat.le_refl _) (Nat.le_refl _) dX7_keywordAt_49 ?_
          intro z_23
          refine g_if_eq (pc := 52) (tgt := 57) dX7_keywordAt_52 rfl (fun c_24 => ?_) (fun c_24 => ?_)
          · replace hF := am_yes c_24 hF
            obtain ⟨l3_25, e_l3_25, hF⟩ := am_let_el hF
            refine n_iinc (pc := 57) (ls2 := [.ref 54, .int a2, .int a3, .int l3_25, .int l4_2, .int l5_3]) e_l3_25 rfl rfl rfl dX7_keywordAt_57 (Nat.le_of_ble_eq_true rfl) ?_
            refine g_iload (pc := 60) dX7_keywordAt_60 rfl ?_
            refine g_iconst (pc := 62) (v := (1 : Int32)) dX7_keywordAt_62 rfl ?_
            refine g_iadd (pc := 63) dX7_keywordAt_63 ?_
            obtain ⟨l4_26, e_l4_26, hF⟩ := am_let_el hF
            refine n_istore (pc := 64) (ls2 := [.ref 54, .int a2, .int a3, .int l3_25, .int l4_26, .int l5_3]) e_l4_26 rfl dX7_keywordAt_64 (Nat.le_of_ble_eq_true rfl) ?_
            obtain ⟨l5_27, e_l5_27, hF⟩ := am_let_el hF
            refine n_iinc (pc := 66) (ls2 := [.ref 54, .int a2, .int a3, .int l3_25, .int l4_26, .int l5_27]) e_l5_27 rfl rfl rfl dX7_keywordAt_66 (Nat.le_of_ble_eq_true rfl) ?_
            refine g_goto (pc := 69) (tgt := 10) dX7_keywordAt_69 rfl ?_
            cases hF
            exact ih_6 (l3_25, l4_26, l5_27) rfl
          · replace hF := am_no c_24 hF
            refine g_iload_n (pc := 55) dX7_keywordAt_55 rfl rfl ?_
            cases hF
            have q_28 := hZ_9 _ (hE_7 _ rfl).symm
            cases q_28
            exact g_iret (pc := 56) rfl (Nat.le_refl _) (Nat.le_refl _) dX7_keywordAt_56 ⟨rfl, rfl, rfl, rfl⟩
    ) _ _ hL_8
  exact hC
def F_X7_tokenOf_54 (I : am_IT) (a1 : Int32) (a3 : Int32) (a4 : Int32) : Option (Int32) := if a1 = (2 : Int32) then (am_b1 (F_X7_keywordAt_54 I a3 a4) (fun (r_11 : Int32) => some r_11)) else (if a1 = (3 : Int32) then (am_b1 (F_X7_numberAt_54 I a3 a4) (fun (r_9 : Int32) => some r_9)) else (if am_ix a3 400 = true then (am_b1 (F_J0_indexOf_0f7a4_1000001 I (((I 54 a3.toNatClampNeg).toUInt32 % 65536).toInt32)) (fun (r_5 : Int32) => if r_5 < 0 then (some (301 : Int32)) else (if am_ix a3 400 = true then (some (I 54 a3.toNatClampNeg)) else none))) else none))
set_option maxRecDepth 100000 in
set_option maxHeartbeats 4000000 in
theorem s_X7_tokenOf_54 {l : Launch} {d N : Nat} {P : am_PT} (hPl : am_Pl 94 N P) (hd : 7 ≤ d) {I : am_IT} {a1 : Int32} {a3 : Int32} {a4 : Int32} {r : Int32} (hF : F_X7_tokenOf_54 I a1 a3 a4 = some (r)) : am_C l d 0 0 mX7_tokenOf [.int a1, .ref 54, .int a3, .int a4] N P I (am_qi r N P I) := by
  refine am_body (sc := am_sc0) (n := 0) (by decide +kernel) (by decide) rfl ?_
  change G am_sc0 l d 0 0 mX7_tokenOf (am_qi r N P I) 0 [.int a1, .ref 54, .int a3, .int a4] [] N P I 0 0
  unfold F_X7_tokenOf_54 at hF
  refine g_iload_n (pc := 0) dX7_tokenOf_0 rfl rfl ?_
  refine g_iconst (pc := 1) (v := (2 : Int32)) dX7_tokenOf_1 rfl ?_
  refine g_icmp_ne (pc := 2) (tgt := 12) dX7_tokenOf_2 rfl (fun c_1 => ?_) (fun c_1 => ?_)
  · replace hF := am_no c_1 hF
    refine g_iload_n (pc := 12) dX7_tokenOf_12 rfl rfl ?_
    refine g_iconst (pc := 13) (v := (3 : Int32)) dX7_tokenOf_13 rfl ?_
    refine g_icmp_ne (pc := 14) (tgt := 24) dX7_tokenOf_14 rfl (fun c_2 => ?_) (fun c_2 => ?_)
    · replace hF := am_no c_2 hF
      refine g_ldcS1 (pc := 24) rfl dX7_tokenOf_24 ?_
      refine g_aload_n (pc := 26) dX7_tokenOf_26 rfl rfl ?_
      refine g_iload_n (pc := 27) dX7_tokenOf_27 rfl rfl ?_
      obtain ⟨c_3, hF⟩ := am_gd hF
      refine g_iald (pc := 28) (k := 54) rfl (hPl.lt (by decide)) (am_ix_use c_3) dX7_tokenOf_28 ?_
      refine g_i2c (pc := 29) dX7_tokenOf_29 ?_
      obtain ⟨r_5, h_4, hF⟩ := am_b1_el hF
      refine g_cTi (pc := 30) (i := 1) (k := 1000001) (As := [.int (((I 54 a3.toNatClampNeg).toUInt32 % 65536).toInt32)]) (st := []) ky_J0_indexOf_0f7a4 (by decide) rfl kl_X7_123 (s_J0_indexOf_0f7a4_1000001 (d := 4) (hPl) (Nat.le_refl _) h_4) rfl rfl (Nat.le_trans (by decide) hd) (Nat.le_of_ble_eq_true rfl) (Nat.le_refl _) (Nat.le_refl _) dX7_tokenOf_30 ?_
      refine g_if_lt (pc := 33) (tgt := 42) dX7_tokenOf_33 rfl (fun c_6 => ?_) (fun c_6 => ?_)
      · replace hF := am_yes c_6 hF
        refine g_sipush (pc := 42) (v := (301 : Int32)) dX7_tokenOf_42 rfl ?_
        cases hF
        exact g_iret (pc := 45) rfl (Nat.le_refl _) (Nat.le_refl _) dX7_tokenOf_45 ⟨rfl, rfl, rfl, rfl⟩
      · replace hF := am_no c_6 hF
        refine g_aload_n (pc := 36) dX7_tokenOf_36 rfl rfl ?_
        refine g_iload_n (pc := 37) dX7_tokenOf_37 rfl rfl ?_
        obtain ⟨c_7, hF⟩ := am_gd hF
        refine g_iald (pc := 38) (k := 54) rfl (hPl.lt (by decide)) (am_ix_use c_7) dX7_tokenOf_38 ?_
        refine g_goto (pc := 39) (tgt := 45) dX7_tokenOf_39 rfl ?_
        cases hF
        exact g_iret (pc := 45) rfl (Nat.le_refl _) (Nat.le_refl _) dX7_tokenOf_45 ⟨rfl, rfl, rfl, rfl⟩
    · replace hF := am_yes c_2 hF
      refine g_aload_n (pc := 17) dX7_tokenOf_17 rfl rfl ?_
      refine g_iload_n (pc := 18) dX7_tokenOf_18 rfl rfl ?_
      refine g_iload_n (pc := 19) dX7_tokenOf_19 rfl rfl ?_
      obtain ⟨r_9, h_8, hF⟩ := am_b1_el hF
      refine g_cSi (pc := 20) (As := [.ref 54, .int a3, .int a4]) (st := []) ky_X7_numberAt kl_X7_118 (s_X7_numberAt_54 (d := 1) (hPl) (Nat.le_refl _) h_8) rfl rfl (Nat.le_trans (by decide) hd) (Nat.le_of_ble_eq_true rfl) (Nat.le_refl _) (Nat.le_refl _) dX7_tokenOf_20 ?_
      cases hF
      exact g_iret (pc := 23) rfl (Nat.le_refl _) (Nat.le_refl _) dX7_tokenOf_23 ⟨rfl, rfl, rfl, rfl⟩
  · replace hF := am_yes c_1 hF
    refine g_aload_n (pc := 5) dX7_tokenOf_5 rfl rfl ?_
    refine g_iload_n (pc := 6) dX7_tokenOf_6 rfl rfl ?_
    refine g_iload_n (pc := 7) dX7_tokenOf_7 rfl rfl ?_
    obtain ⟨r_11, h_10, hF⟩ := am_b1_el hF
    refine g_cSi (pc := 8) (As := [.ref 54, .int a3, .int a4]) (st := []) ky_X7_keywordAt kl_X7_114 (s_X7_keywordAt_54 (d := 6) (hPl) (Nat.le_refl _) h_10) rfl rfl (Nat.le_trans (by decide) hd) (Nat.le_of_ble_eq_true rfl) (Nat.le_refl _) (Nat.le_refl _) dX7_tokenOf_8 ?_
    cases hF
    exact g_iret (pc := 11) rfl (Nat.le_refl _) (Nat.le_refl _) dX7_tokenOf_11 ⟨rfl, rfl, rfl, rfl⟩
def F_X7_addToken_47 (I : am_IT) (a1 : Int32) (a2 : Int32) : Option (am_IT) := if (401 : Int32) ≤ (I 47 5) then (some I) else (if am_ix (I 47 5) 401 = true then (am_let (up2 I 52 (I 47 5).toNatClampNeg a1) (fun (I_3 : am_IT) => if am_ix (I_3 47 5) 401 = true then (am_let (up2 I_3 53 (I_3 47 5).toNatClampNeg a2) (fun (I_5 : am_IT) => am_let (up2 I_5 47 5 ((I_5 47 5) + (1 : Int32))) (fun (I_6 : am_IT) => some I_6))) else none)) else none)
set_option maxRecDepth 100000 in
set_option maxHeartbeats 4000000 in
theorem s_X7_addToken_47 {l : Launch} {d N : Nat} {P : am_PT} (hPl : am_Pl 94 N P) (hd : 1 ≤ d) {I : am_IT} {a1 : Int32} {a2 : Int32} {I2 : am_IT} (hF : F_X7_addToken_47 I a1 a2 = some (I2)) : am_C l d 0 0 mX7_addToken [.ref 47, .int a1, .int a2] N P I (am_qv N P I2) := by
  refine am_body (sc := am_sc0) (n := 0) (by decide +kernel) (by decide) rfl ?_
  change G am_sc0 l d 0 0 mX7_addToken (am_qv N P I2) 0 [.ref 47, .int a1, .int a2] [] N P I 0 0
  unfold F_X7_addToken_47 at hF
  refine g_aload_n (pc := 0) dX7_addToken_0 rfl rfl ?_
  refine g_getI (pc := 1) (k := 47) kf_X7_32.r rfl rfl (hPl.lt (by decide)) dX7_addToken_1 ?_
  refine g_aload_n (pc := 4) dX7_addToken_4 rfl rfl ?_
  refine g_getR (pc := 5) (k := 47) (r := 52) kf_X7_25.r rfl rfl (hPl.get (by decide) rfl) (hPl.lt (by decide)) dX7_addToken_5 ?_
  refine g_alen (pc := 8) (k := 52) (v := 401) rfl (hPl.lt (by decide)) rfl dX7_addToken_8 ?_
  refine g_icmp_ge (pc := 9) (tgt := 42) dX7_addToken_9 rfl (fun c_1 => ?_) (fun c_1 => ?_)
  · replace hF := am_yes c_1 hF
    cases hF
    exact g_vret (pc := 42) rfl (Nat.le_refl _) (Nat.le_refl _) dX7_addToken_42 ⟨rfl, rfl, rfl, rfl⟩
  · replace hF := am_no c_1 hF
    refine g_aload_n (pc := 12) dX7_addToken_12 rfl rfl ?_
    refine g_getR (pc := 13) (k := 47) (r := 52) kf_X7_25.r rfl rfl (hPl.get (by decide) rfl) (hPl.lt (by decide)) dX7_addToken_13 ?_
    refine g_aload_n (pc := 16) dX7_addToken_16 rfl rfl ?_
    refine g_getI (pc := 17) (k := 47) kf_X7_32.r rfl rfl (hPl.lt (by decide)) dX7_addToken_17 ?_
    refine g_iload_n (pc := 20) dX7_addToken_20 rfl rfl ?_
    obtain ⟨c_2, hF⟩ := am_gd hF
    obtain ⟨I_3, e_I_3, hF⟩ := am_let_el hF
    refine n_iast (pc := 21) (k := 52) e_I_3 rfl (hPl.lt (by decide)) (am_ix_use c_2) dX7_addToken_21 ?_
    refine g_aload_n (pc := 22) dX7_addToken_22 rfl rfl ?_
    refine g_getR (pc := 23) (k := 47) (r := 53) kf_X7_29.r rfl rfl (hPl.get (by decide) rfl) (hPl.lt (by decide)) dX7_addToken_23 ?_
    refine g_aload_n (pc := 26) dX7_addToken_26 rfl rfl ?_
    refine g_getI (pc := 27) (k := 47) kf_X7_32.r rfl rfl (hPl.lt (by decide)) dX7_addToken_27 ?_
    refine g_iload_n (pc := 30) dX7_addToken_30 rfl rfl ?_
    obtain ⟨c_4, hF⟩ := am_gd hF
    obtain ⟨I_5, e_I_5, hF⟩ := am_let_el hF
    refine n_iast (pc := 31) (k := 53) e_I_5 rfl (hPl.lt (by decide)) (am_ix_use c_4) dX7_addToken_31 ?_
    refine g_aload_n (pc := 32) dX7_addToken_32 rfl rfl ?_
    refine g_dup (pc := 33) dX7_addToken_33 ?_
    refine g_getI (pc := 34) (k := 47) kf_X7_32.r rfl rfl (hPl.lt (by decide)) dX7_addToken_34 ?_
    refine g_iconst (pc := 37) (v := (1 : Int32)) dX7_addToken_37 rfl ?_
    refine g_iadd (pc := 38) dX7_addToken_38 ?_
    obtain ⟨I_6, e_I_6, hF⟩ := am_let_el hF
    refine n_putI (pc := 39) (k := 47) e_I_6 kf_X7_32 rfl rfl (hPl.lt (by decide)) dX7_addToken_39 ?_
    cases hF
    exact g_vret (pc := 42) rfl (Nat.le_refl _) (Nat.le_refl _) dX7_addToken_42 ⟨rfl, rfl, rfl, rfl⟩
def F_X7_split_47_54 (I : am_IT) (a2 : Int32) : Option (am_IT) := am_let (up2 I 47 5 (0 : Int32)) (fun (I_1 : am_IT) => am_b1 (am_it am_fu (am_u2 (fun (l3_2 : Int32) (I_3 : am_IT) => if a2 ≤ l3_2 then (some (.inr (I_3))) else (if am_ix l3_2 400 = true then (am_b1 (F_X7_kindOf I_3 (I_3 54 l3_2.toNatClampNeg)) (fun (r_13 : Int32) => am_let (l3_2 + (1 : Int32)) (fun (l5_14 : Int32) => am_b1 (am_it am_fu (fun (l5_15 : Int32) => if a2 ≤ l5_15 then (some (.inr (l5_15))) else (if r_13 = 0 then (some (.inr (l5_15))) else (if am_ix l5_15 400 = true then (am_b1 (F_X7_kindOf I_3 (I_3 54 l5_15.toNatClampNeg)) (fun (r_26 : Int32) => if r_26 = r_13 then (am_let (l5_15 + (1 : Int32)) (fun (l5_28 : Int32) => some (.inl (l5_28)))) else (some (.inr (l5_15))))) else none))) l5_14) (fun (l5_16 : Int32) => if r_13 = (1 : Int32) then (some (.inl (l5_16, I_3))) else (am_b1 (F_X7_tokenOf_54 I_3 r_13 l3_2 l5_16) (fun (r_31 : Int32) => am_b1 (F_X7_addToken_47 I_3 r_31 l3_2) (fun (I_33 : am_IT) => some (.inl (l5_16, I_33))))))))) else none))) ((0 : Int32), I_1)) (fun (I_4 : am_IT) => am_b1 (F_X7_addToken_47 I_4 (300 : Int32) a2) (fun (I_35 : am_IT) => some I_35)))
set_option maxRecDepth 100000 in
set_option maxHeartbeats 4000000 in
theorem s_X7_split_47_54 {l : Launch} {d N : Nat} {P : am_PT} (hPl : am_Pl 94 N P) (hd : 8 ≤ d) {I : am_IT} {a2 : Int32} {I2 : am_IT} (hF : F_X7_split_47_54 I a2 = some (I2)) : am_C l d 0 0 mX7_split [.ref 47, .ref 54, .int a2] N P I (am_qv N P I2) := by
  refine am_body (sc := am_sc0) (n := 3) (by decide +kernel) (by decide) rfl ?_
  change G am_sc0 l d 0 0 mX7_split (am_qv N P I2) 0 [.ref 47, .ref 54, .int a2, .null, .null, .null] [] N P I 0 0
  unfold F_X7_split_47_54 at hF
  refine g_aload_n (pc := 0) dX7_split_0 rfl rfl ?_
  refine g_iconst (pc := 1) (v := (0 : Int32)) dX7_split_1 rfl ?_
  obtain ⟨I_1, e_I_1, hF⟩ := am_let_el hF
  refine n_putI (pc := 2) (k := 47) e_I_1 kf_X7_32 rfl rfl (hPl.lt (by decide)) dX7_split_2 ?_
  refine g_iconst (pc := 5) (v := (0 : Int32)) dX7_split_5 rfl ?_
  refine n_istore_n (pc := 6) (ls2 := [.ref 47, .ref 54, .int a2, .int (0 : Int32), .null, .null]) rfl rfl dX7_split_6 rfl (Nat.le_of_ble_eq_true rfl) ?_
  obtain ⟨I_4, hL_8, hF⟩ := am_b1_el hF
  have hX_5 : G am_sc0 l d 0 0 mX7_split (am_qv N P I2) 80 [.ref 47, .ref 54, .int a2, .null, .null, .null] [] N P I_4 0 0 := by
    refine g_aload_n (pc := 80) dX7_split_80 rfl rfl ?_
    refine g_sipush (pc := 81) (v := (300 : Int32)) dX7_split_81 rfl ?_
    refine g_iload_n (pc := 84) dX7_split_84 rfl rfl ?_
    obtain ⟨I_35, h_34, hF⟩ := am_b1_el hF
    refine g_cVv (pc := 85) (k := 47) (As := [.int (300 : Int32), .int a2]) (st := []) ky_X7_addToken kl_X7_111 (s_X7_addToken_47 (d := 1) (hPl) (Nat.le_refl _) h_34) rfl rfl rfl (hPl.lt (by decide)) (Nat.le_trans (by decide) hd) (Nat.le_of_ble_eq_true rfl) (Nat.le_refl _) (Nat.le_refl _) dX7_split_85 ?_
    cases hF
    exact g_vret (pc := 88) rfl (Nat.le_refl _) (Nat.le_refl _) dX7_split_88 ⟨rfl, rfl, rfl, rfl⟩
  clear hF
  have hC := am_loop (C := fun x => G am_sc0 l d 0 0 mX7_split (am_qv N P I2) 7 [.ref 47, .ref 54, .int a2, .int x.1, .null, .null] [] N P x.2 0 0) (by
    rintro ⟨l3_2, I_3⟩ rr hF ih_6 hE_7
    replace hF := am_u2_ap hF
    change G am_sc0 l d 0 0 mX7_split (am_qv N P I2) 7 [.ref 47, .ref 54, .int a2, .int l3_2, .null, .null] [] N P I_3 0 0
    refine g_iload_n (pc := 7) dX7_split_7 rfl rfl ?_
    refine g_iload_n (pc := 8) dX7_split_8 rfl rfl ?_
    refine g_icmp_ge (pc := 9) (tgt := 80) dX7_split_9 rfl (fun c_10 => ?_) (fun c_10 => ?_)
    · replace hF := am_yes c_10 hF
      cases hF
      cases hE_7 _ rfl
      exact g_weak hX_5 ⟨Or.inr rfl, Or.inr rfl, Or.inr rfl, Or.inl rfl, Or.inl rfl, Or.inl rfl, trivial⟩
    · replace hF := am_no c_10 hF
      refine g_aload_n (pc := 12) dX7_split_12 rfl rfl ?_
      refine g_iload_n (pc := 13) dX7_split_13 rfl rfl ?_
      obtain ⟨c_11, hF⟩ := am_gd hF
      refine g_iald (pc := 14) (k := 54) rfl (hPl.lt (by decide)) (am_ix_use c_11) dX7_split_14 ?_
      obtain ⟨r_13, h_12, hF⟩ := am_b1_el hF
      refine g_cSi (pc := 15) (As := [.int (I_3 54 l3_2.toNatClampNeg)]) (st := []) ky_X7_kindOf kl_X7_103 (s_X7_kindOf (d := 1) (hPl) (Nat.le_refl _) h_12) rfl rfl (Nat.le_trans (by decide) hd) (Nat.le_of_ble_eq_true rfl) (Nat.le_refl _) (Nat.le_refl _) dX7_split_15 ?_
      refine n_istore (pc := 18) (ls2 := [.ref 47, .ref 54, .int a2, .int l3_2, .int r_13, .null]) rfl rfl dX7_split_18 (Nat.le_of_ble_eq_true rfl) ?_
      refine g_iload_n (pc := 20) dX7_split_20 rfl rfl ?_
      refine g_iconst (pc := 21) (v := (1 : Int32)) dX7_split_21 rfl ?_
      refine g_iadd (pc := 22) dX7_split_22 ?_
      obtain ⟨l5_14, e_l5_14, hF⟩ := am_let_el hF
      refine n_istore (pc := 23) (ls2 := [.ref 47, .ref 54, .int a2, .int l3_2, .int r_13, .int l5_14]) e_l5_14 rfl dX7_split_23 (Nat.le_of_ble_eq_true rfl) ?_
      obtain ⟨l5_16, hL_20, hF⟩ := am_b1_el hF
      have hX_17 : G am_sc0 l d 0 0 mX7_split (am_qv N P I2) 54 [.ref 47, .ref 54, .int a2, .int l3_2, .int r_13, .int l5_16] [] N P I_3 0 0 := by
        refine g_iload (pc := 54) dX7_split_54 rfl ?_
        refine g_iconst (pc := 56) (v := (1 : Int32)) dX7_split_56 rfl ?_
        refine g_icmp_eq (pc := 57) (tgt := 74) dX7_split_57 rfl (fun c_29 => ?_) (fun c_29 => ?_)
        · replace hF := am_yes c_29 hF
          refine g_iload (pc := 74) dX7_split_74 rfl ?_
          refine n_istore_n (pc := 76) (ls2 := [.ref 47, .ref 54, .int a2, .int l5_16, .int r_13, .int l5_16]) rfl rfl dX7_split_76 rfl (Nat.le_of_ble_eq_true rfl) ?_
          refine g_goto (pc := 77) (tgt := 7) dX7_split_77 rfl ?_
          cases hF
          exact g_weak (ih_6 (l5_16, I_3) rfl) ⟨Or.inr rfl, Or.inr rfl, Or.inr rfl, Or.inr rfl, Or.inl rfl, Or.inl rfl, trivial⟩
        · replace hF := am_no c_29 hF
          refine g_aload_n (pc := 60) dX7_split_60 rfl rfl ?_
          refine g_iload (pc := 61) dX7_split_61 rfl ?_
          refine g_aload_n (pc := 63) dX7_split_63 rfl rfl ?_
          refine g_iload_n (pc := 64) dX7_split_64 rfl rfl ?_
          refine g_iload (pc := 65) dX7_split_65 rfl ?_
          obtain ⟨r_31, h_30, hF⟩ := am_b1_el hF
          refine g_cSi (pc := 67) (As := [.int r_13, .ref 54, .int l3_2, .int l5_16]) (st := [.ref 47]) ky_X7_tokenOf kl_X7_107 (s_X7_tokenOf_54 (d := 7) (hPl) (Nat.le_refl _) h_30) rfl rfl (Nat.le_trans (by decide) hd) (Nat.le_of_ble_eq_true rfl) (Nat.le_refl _) (Nat.le_refl _) dX7_split_67 ?_
          refine g_iload_n (pc := 70) dX7_split_70 rfl rfl ?_
          obtain ⟨I_33, h_32, hF⟩ := am_b1_el hF
          refine g_cVv (pc := 71) (k := 47) (As := [.int r_31, .int l3_2]) (st := []) ky_X7_addToken kl_X7_111 (s_X7_addToken_47 (d := 1) (hPl) (Nat.le_refl _) h_32) rfl rfl rfl (hPl.lt (by decide)) (Nat.le_trans (by decide) hd) (Nat.le_of_ble_eq_true rfl) (Nat.le_refl _) (Nat.le_refl _) dX7_split_71 ?_
          refine g_iload (pc := 74) dX7_split_74 rfl ?_
          refine n_istore_n (pc := 76) (ls2 := [.ref 47, .ref 54, .int a2, .int l5_16, .int r_13, .int l5_16]) rfl rfl dX7_split_76 rfl (Nat.le_of_ble_eq_true rfl) ?_
          refine g_goto (pc := 77) (tgt := 7) dX7_split_77 rfl ?_
          cases hF
          exact g_weak (ih_6 (l5_16, I_33) rfl) ⟨Or.inr rfl, Or.inr rfl, Or.inr rfl, Or.inr rfl, Or.inl rfl, Or.inl rfl, trivial⟩
      clear hF
      have hC := am_loop (C := fun x => G am_sc0 l d 0 0 mX7_split (am_qv N P I2) 25 [.ref 47, .ref 54, .int a2, .int l3_2, .int r_13, .int x] [] N P I_3 0 0) (by
        intro l5_15 rr hF ih_18 hE_19
        refine g_iload (pc := 25) dX7_split_25 rfl ?_
        refine g_iload_n (pc := 27) dX7_split_27 rfl rfl ?_
        refine g_icmp_ge (pc := 28) (tgt := 54) dX7_split_28 rfl (fun c_22 => ?_) (fun c_22 => ?_)
        · replace hF := am_yes c_22 hF
          cases hF
          cases hE_19 _ rfl
          exact hX_17
        · replace hF := am_no c_22 hF
          refine g_iload (pc := 31) dX7_split_31 rfl ?_
          refine g_if_eq (pc := 33) (tgt := 54) dX7_split_33 rfl (fun c_23 => ?_) (fun c_23 => ?_)
          · replace hF := am_yes c_23 hF
            cases hF
            cases hE_19 _ rfl
            exact hX_17
          · replace hF := am_no c_23 hF
            refine g_aload_n (pc := 36) dX7_split_36 rfl rfl ?_
            refine g_iload (pc := 37) dX7_split_37 rfl ?_
            obtain ⟨c_24, hF⟩ := am_gd hF
            refine g_iald (pc := 39) (k := 54) rfl (hPl.lt (by decide)) (am_ix_use c_24) dX7_split_39 ?_
            obtain ⟨r_26, h_25, hF⟩ := am_b1_el hF
            refine g_cSi (pc := 40) (As := [.int (I_3 54 l5_15.toNatClampNeg)]) (st := []) ky_X7_kindOf kl_X7_103 (s_X7_kindOf (d := 1) (hPl) (Nat.le_refl _) h_25) rfl rfl (Nat.le_trans (by decide) hd) (Nat.le_of_ble_eq_true rfl) (Nat.le_refl _) (Nat.le_refl _) dX7_split_40 ?_
            refine g_iload (pc := 43) dX7_split_43 rfl ?_
            refine g_icmp_ne (pc := 45) (tgt := 54) dX7_split_45 rfl (fun c_27 => ?_) (fun c_27 => ?_)
            · replace hF := am_no c_27 hF
              cases hF
              cases hE_19 _ rfl
              exact hX_17
            · replace hF := am_yes c_27 hF
              obtain ⟨l5_28, e_l5_28, hF⟩ := am_let_el hF
              refine n_iinc (pc := 48) (ls2 := [.ref 47, .ref 54, .int a2, .int l3_2, .int r_13, .int l5_28]) e_l5_28 rfl rfl rfl dX7_split_48 (Nat.le_of_ble_eq_true rfl) ?_
              refine g_goto (pc := 51) (tgt := 25) dX7_split_51 rfl ?_
              cases hF
              exact ih_18 (l5_28) rfl
        ) _ _ hL_20
      exact hC
    ) _ _ hL_8
  exact hC
