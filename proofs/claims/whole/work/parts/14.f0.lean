def F_X11_state_0 (I : am_IT) (a1 : Int32) : Option (Int32 × am_IT) := am_let (I 1 1) (fun (l2_1 : Int32) => am_let (up2 I 1 1 a1) (fun (I_2 : am_IT) => some (l2_1, I_2)))
set_option maxRecDepth 100000 in
set_option maxHeartbeats 4000000 in
theorem s_X11_state_0 {l : Launch} {d N : Nat} {P : am_PT} (hPl : am_Pl 94 N P) (hd : 1 ≤ d) {I : am_IT} {a1 : Int32} {r : Int32} {I2 : am_IT} (hF : F_X11_state_0 I a1 = some (r, I2)) : am_C l d 0 0 mX11_state [.ref 0, .int a1] N P I (am_qi r N P I2) := by
  refine am_body (sc := am_sc0) (n := 1) (by decide +kernel) (by decide) rfl ?_
  change G am_sc0 l d 0 0 mX11_state (am_qi r N P I2) 0 [.ref 0, .int a1, .null] [] N P I 0 0
  unfold F_X11_state_0 at hF
  refine g_aload_n (pc := 0) dX11_state_0 rfl rfl ?_
  refine g_getR (pc := 1) (k := 0) (r := 1) kf_X11_12.r rfl rfl (hPl.get (by decide) rfl) (hPl.lt (by decide)) dX11_state_1 ?_
  refine g_getI (pc := 4) (k := 1) kf_X11_86.r rfl rfl (hPl.lt (by decide)) dX11_state_4 ?_
  obtain ⟨l2_1, e_l2_1, hF⟩ := am_let_el hF
  refine n_istore_n (pc := 7) (ls2 := [.ref 0, .int a1, .int l2_1]) e_l2_1 rfl dX11_state_7 rfl (Nat.le_of_ble_eq_true rfl) ?_
  refine g_aload_n (pc := 8) dX11_state_8 rfl rfl ?_
  refine g_getR (pc := 9) (k := 0) (r := 1) kf_X11_12.r rfl rfl (hPl.get (by decide) rfl) (hPl.lt (by decide)) dX11_state_9 ?_
  refine g_iload_n (pc := 12) dX11_state_12 rfl rfl ?_
  obtain ⟨I_2, e_I_2, hF⟩ := am_let_el hF
  refine n_putI (pc := 13) (k := 1) e_I_2 kf_X11_86 rfl rfl (hPl.lt (by decide)) dX11_state_13 ?_
  refine g_iload_n (pc := 16) dX11_state_16 rfl rfl ?_
  cases hF
  exact g_iret (pc := 17) rfl (Nat.le_refl _) (Nat.le_refl _) dX11_state_17 ⟨rfl, rfl, rfl, rfl⟩
def F_J7_fill_53178_2 (I : am_IT) (a2 : Int32) : Option (am_IT) := am_b1 (am_it am_fu (am_u2 (fun (l2_1 : Int32) (I_2 : am_IT) => if (4 : Int32) ≤ l2_1 then (some (.inr (I_2))) else (if am_ix l2_1 4 = true then (am_let (up2 I_2 2 l2_1.toNatClampNeg a2) (fun (I_11 : am_IT) => am_let (l2_1 + (1 : Int32)) (fun (l2_12 : Int32) => some (.inl (l2_12, I_11))))) else none))) ((0 : Int32), I)) (fun (I_3 : am_IT) => some I_3)
set_option maxRecDepth 100000 in
set_option maxHeartbeats 4000000 in
theorem s_J7_fill_53178_2 {l : Launch} {d N : Nat} {P : am_PT} (hPl : am_Pl 94 N P) (hd : 1 ≤ d) {I : am_IT} {a2 : Int32} {I2 : am_IT} (hF : F_J7_fill_53178_2 I a2 = some (I2)) : am_C l d 0 0 mJ7_fill_53178 [.ref 2, .int a2] N P I (am_qv N P I2) := by
  refine am_body (sc := am_sc0) (n := 2) (by decide +kernel) (by decide) rfl ?_
  change G am_sc0 l d 0 0 mJ7_fill_53178 (am_qv N P I2) 0 [.ref 2, .int a2, .null, .null] [] N P I 0 0
  unfold F_J7_fill_53178_2 at hF
  refine g_iconst (pc := 0) (v := (0 : Int32)) dJ7_fill_53178_0 rfl ?_
  refine n_istore_n (pc := 1) (ls2 := [.ref 2, .int a2, .int (0 : Int32), .null]) rfl rfl dJ7_fill_53178_1 rfl (Nat.le_of_ble_eq_true rfl) ?_
  refine g_aload_n (pc := 2) dJ7_fill_53178_2 rfl rfl ?_
  refine g_alen (pc := 3) (k := 2) (v := 4) rfl (hPl.lt (by decide)) rfl dJ7_fill_53178_3 ?_
  refine n_istore_n (pc := 4) (ls2 := [.ref 2, .int a2, .int (0 : Int32), .int (4 : Int32)]) rfl rfl dJ7_fill_53178_4 rfl (Nat.le_of_ble_eq_true rfl) ?_
  obtain ⟨I_3, hL_7, hF⟩ := am_b1_el hF
  have hX_4 : G am_sc0 l d 0 0 mJ7_fill_53178 (am_qv N P I2) 20 [.ref 2, .int a2, .null, .int (4 : Int32)] [] N P I_3 0 0 := by
    cases hF
    exact g_vret (pc := 20) rfl (Nat.le_refl _) (Nat.le_refl _) dJ7_fill_53178_20 ⟨rfl, rfl, rfl, rfl⟩
  clear hF
  have hC := am_loop (C := fun x => G am_sc0 l d 0 0 mJ7_fill_53178 (am_qv N P I2) 5 [.ref 2, .int a2, .int x.1, .int (4 : Int32)] [] N P x.2 0 0) (by
    rintro ⟨l2_1, I_2⟩ rr hF ih_5 hE_6
    replace hF := am_u2_ap hF
    change G am_sc0 l d 0 0 mJ7_fill_53178 (am_qv N P I2) 5 [.ref 2, .int a2, .int l2_1, .int (4 : Int32)] [] N P I_2 0 0
    refine g_iload_n (pc := 5) dJ7_fill_53178_5 rfl rfl ?_
    refine g_iload_n (pc := 6) dJ7_fill_53178_6 rfl rfl ?_
    refine g_icmp_ge (pc := 7) (tgt := 20) dJ7_fill_53178_7 rfl (fun c_9 => ?_) (fun c_9 => ?_)
    · replace hF := am_yes c_9 hF
      cases hF
      cases hE_6 _ rfl
      exact g_weak hX_4 ⟨Or.inr rfl, Or.inr rfl, Or.inl rfl, Or.inr rfl, trivial⟩
    · replace hF := am_no c_9 hF
      refine g_aload_n (pc := 10) dJ7_fill_53178_10 rfl rfl ?_
      refine g_iload_n (pc := 11) dJ7_fill_53178_11 rfl rfl ?_
      refine g_iload_n (pc := 12) dJ7_fill_53178_12 rfl rfl ?_
      obtain ⟨c_10, hF⟩ := am_gd hF
      obtain ⟨I_11, e_I_11, hF⟩ := am_let_el hF
      refine n_iast (pc := 13) (k := 2) e_I_11 rfl (hPl.lt (by decide)) (am_ix_use c_10) dJ7_fill_53178_13 ?_
      obtain ⟨l2_12, e_l2_12, hF⟩ := am_let_el hF
      refine n_iinc (pc := 14) (ls2 := [.ref 2, .int a2, .int l2_12, .int (4 : Int32)]) e_l2_12 rfl rfl rfl dJ7_fill_53178_14 (Nat.le_of_ble_eq_true rfl) ?_
      refine g_goto (pc := 17) (tgt := 5) dJ7_fill_53178_17 rfl ?_
      cases hF
      exact ih_5 (l2_12, I_11) rfl
    ) _ _ hL_7
  exact hC
def F_J7_fill_53178_5 (I : am_IT) (a2 : Int32) : Option (am_IT) := am_b1 (am_it am_fu (am_u2 (fun (l2_1 : Int32) (I_2 : am_IT) => if (56 : Int32) ≤ l2_1 then (some (.inr (I_2))) else (if am_ix l2_1 56 = true then (am_let (up2 I_2 5 l2_1.toNatClampNeg a2) (fun (I_11 : am_IT) => am_let (l2_1 + (1 : Int32)) (fun (l2_12 : Int32) => some (.inl (l2_12, I_11))))) else none))) ((0 : Int32), I)) (fun (I_3 : am_IT) => some I_3)
set_option maxRecDepth 100000 in
set_option maxHeartbeats 4000000 in
theorem s_J7_fill_53178_5 {l : Launch} {d N : Nat} {P : am_PT} (hPl : am_Pl 94 N P) (hd : 1 ≤ d) {I : am_IT} {a2 : Int32} {I2 : am_IT} (hF : F_J7_fill_53178_5 I a2 = some (I2)) : am_C l d 0 0 mJ7_fill_53178 [.ref 5, .int a2] N P I (am_qv N P I2) := by
  refine am_body (sc := am_sc0) (n := 2) (by decide +kernel) (by decide) rfl ?_
  change G am_sc0 l d 0 0 mJ7_fill_53178 (am_qv N P I2) 0 [.ref 5, .int a2, .null, .null] [] N P I 0 0
  unfold F_J7_fill_53178_5 at hF
  refine g_iconst (pc := 0) (v := (0 : Int32)) dJ7_fill_53178_0 rfl ?_
  refine n_istore_n (pc := 1) (ls2 := [.ref 5, .int a2, .int (0 : Int32), .null]) rfl rfl dJ7_fill_53178_1 rfl (Nat.le_of_ble_eq_true rfl) ?_
  refine g_aload_n (pc := 2) dJ7_fill_53178_2 rfl rfl ?_
  refine g_alen (pc := 3) (k := 5) (v := 56) rfl (hPl.lt (by decide)) rfl dJ7_fill_53178_3 ?_
  refine n_istore_n (pc := 4) (ls2 := [.ref 5, .int a2, .int (0 : Int32), .int (56 : Int32)]) rfl rfl dJ7_fill_53178_4 rfl (Nat.le_of_ble_eq_true rfl) ?_
  obtain ⟨I_3, hL_7, hF⟩ := am_b1_el hF
  have hX_4 : G am_sc0 l d 0 0 mJ7_fill_53178 (am_qv N P I2) 20 [.ref 5, .int a2, .null, .int (56 : Int32)] [] N P I_3 0 0 := by
    cases hF
    exact g_vret (pc := 20) rfl (Nat.le_refl _) (Nat.le_refl _) dJ7_fill_53178_20 ⟨rfl, rfl, rfl, rfl⟩
  clear hF
  have hC := am_loop (C := fun x => G am_sc0 l d 0 0 mJ7_fill_53178 (am_qv N P I2) 5 [.ref 5, .int a2, .int x.1, .int (56 : Int32)] [] N P x.2 0 0) (by
    rintro ⟨l2_1, I_2⟩ rr hF ih_5 hE_6
    replace hF := am_u2_ap hF
    change G am_sc0 l d 0 0 mJ7_fill_53178 (am_qv N P I2) 5 [.ref 5, .int a2, .int l2_1, .int (56 : Int32)] [] N P I_2 0 0
    refine g_iload_n (pc := 5) dJ7_fill_53178_5 rfl rfl ?_
    refine g_iload_n (pc := 6) dJ7_fill_53178_6 rfl rfl ?_
    refine g_icmp_ge (pc := 7) (tgt := 20) dJ7_fill_53178_7 rfl (fun c_9 => ?_) (fun c_9 => ?_)
    · replace hF := am_yes c_9 hF
      cases hF
      cases hE_6 _ rfl
      exact g_weak hX_4 ⟨Or.inr rfl, Or.inr rfl, Or.inl rfl, Or.inr rfl, trivial⟩
    · replace hF := am_no c_9 hF
      refine g_aload_n (pc := 10) dJ7_fill_53178_10 rfl rfl ?_
      refine g_iload_n (pc := 11) dJ7_fill_53178_11 rfl rfl ?_
      refine g_iload_n (pc := 12) dJ7_fill_53178_12 rfl rfl ?_
      obtain ⟨c_10, hF⟩ := am_gd hF
      obtain ⟨I_11, e_I_11, hF⟩ := am_let_el hF
      refine n_iast (pc := 13) (k := 5) e_I_11 rfl (hPl.lt (by decide)) (am_ix_use c_10) dJ7_fill_53178_13 ?_
      obtain ⟨l2_12, e_l2_12, hF⟩ := am_let_el hF
      refine n_iinc (pc := 14) (ls2 := [.ref 5, .int a2, .int l2_12, .int (56 : Int32)]) e_l2_12 rfl rfl rfl dJ7_fill_53178_14 (Nat.le_of_ble_eq_true rfl) ?_
      refine g_goto (pc := 17) (tgt := 5) dJ7_fill_53178_17 rfl ?_
      cases hF
      exact ih_5 (l2_12, I_11) rfl
    ) _ _ hL_7
  exact hC
def F_J7_fill_53178_7 (I : am_IT) (a2 : Int32) : Option (am_IT) := am_b1 (am_it am_fu (am_u2 (fun (l2_1 : Int32) (I_2 : am_IT) => if (28 : Int32) ≤ l2_1 then (some (.inr (I_2))) else (if am_ix l2_1 28 = true then (am_let (up2 I_2 7 l2_1.toNatClampNeg a2) (fun (I_11 : am_IT) => am_let (l2_1 + (1 : Int32)) (fun (l2_12 : Int32) => some (.inl (l2_12, I_11))))) else none))) ((0 : Int32), I)) (fun (I_3 : am_IT) => some I_3)
set_option maxRecDepth 100000 in
set_option maxHeartbeats 4000000 in
theorem s_J7_fill_53178_7 {l : Launch} {d N : Nat} {P : am_PT} (hPl : am_Pl 94 N P) (hd : 1 ≤ d) {I : am_IT} {a2 : Int32} {I2 : am_IT} (hF : F_J7_fill_53178_7 I a2 = some (I2)) : am_C l d 0 0 mJ7_fill_53178 [.ref 7, .int a2] N P I (am_qv N P I2) := by
  refine am_body (sc := am_sc0) (n := 2) (by decide +kernel) (by decide) rfl ?_
  change G am_sc0 l d 0 0 mJ7_fill_53178 (am_qv N P I2) 0 [.ref 7, .int a2, .null, .null] [] N P I 0 0
  unfold F_J7_fill_53178_7 at hF
  refine g_iconst (pc := 0) (v := (0 : Int32)) dJ7_fill_53178_0 rfl ?_
  refine n_istore_n (pc := 1) (ls2 := [.ref 7, .int a2, .int (0 : Int32), .null]) rfl rfl dJ7_fill_53178_1 rfl (Nat.le_of_ble_eq_true rfl) ?_
  refine g_aload_n (pc := 2) dJ7_fill_53178_2 rfl rfl ?_
  refine g_alen (pc := 3) (k := 7) (v := 28) rfl (hPl.lt (by decide)) rfl dJ7_fill_53178_3 ?_
  refine n_istore_n (pc := 4) (ls2 := [.ref 7, .int a2, .int (0 : Int32), .int (28 : Int32)]) rfl rfl dJ7_fill_53178_4 rfl (Nat.le_of_ble_eq_true rfl) ?_
  obtain ⟨I_3, hL_7, hF⟩ := am_b1_el hF
  have hX_4 : G am_sc0 l d 0 0 mJ7_fill_53178 (am_qv N P I2) 20 [.ref 7, .int a2, .null, .int (28 : Int32)] [] N P I_3 0 0 := by
    cases hF
    exact g_vret (pc := 20) rfl (Nat.le_refl _) (Nat.le_refl _) dJ7_fill_53178_20 ⟨rfl, rfl, rfl, rfl⟩
  clear hF
  have hC := am_loop (C := fun x => G am_sc0 l d 0 0 mJ7_fill_53178 (am_qv N P I2) 5 [.ref 7, .int a2, .int x.1, .int (28 : Int32)] [] N P x.2 0 0) (by
    rintro ⟨l2_1, I_2⟩ rr hF ih_5 hE_6
    replace hF := am_u2_ap hF
    change G am_sc0 l d 0 0 mJ7_fill_53178 (am_qv N P I2) 5 [.ref 7, .int a2, .int l2_1, .int (28 : Int32)] [] N P I_2 0 0
    refine g_iload_n (pc := 5) dJ7_fill_53178_5 rfl rfl ?_
    refine g_iload_n (pc := 6) dJ7_fill_53178_6 rfl rfl ?_
    refine g_icmp_ge (pc := 7) (tgt := 20) dJ7_fill_53178_7 rfl (fun c_9 => ?_) (fun c_9 => ?_)
    · replace hF := am_yes c_9 hF
      cases hF
      cases hE_6 _ rfl
      exact g_weak hX_4 ⟨Or.inr rfl, Or.inr rfl, Or.inl rfl, Or.inr rfl, trivial⟩
    · replace hF := am_no c_9 hF
      refine g_aload_n (pc := 10) dJ7_fill_53178_10 rfl rfl ?_
      refine g_iload_n (pc := 11) dJ7_fill_53178_11 rfl rfl ?_
      refine g_iload_n (pc := 12) dJ7_fill_53178_12 rfl rfl ?_
      obtain ⟨c_10, hF⟩ := am_gd hF
      obtain ⟨I_11, e_I_11, hF⟩ := am_let_el hF
      refine n_iast (pc := 13) (k := 7) e_I_11 rfl (hPl.lt (by decide)) (am_ix_use c_10) dJ7_fill_53178_13 ?_
      obtain ⟨l2_12, e_l2_12, hF⟩ := am_let_el hF
      refine n_iinc (pc := 14) (ls2 := [.ref 7, .int a2, .int l2_12, .int (28 : Int32)]) e_l2_12 rfl rfl rfl dJ7_fill_53178_14 (Nat.le_of_ble_eq_true rfl) ?_
      refine g_goto (pc := 17) (tgt := 5) dJ7_fill_53178_17 rfl ?_
      cases hF
      exact ih_5 (l2_12, I_11) rfl
    ) _ _ hL_7
  exact hC
def F_J7_fill_53178_8 (I : am_IT) (a2 : Int32) : Option (am_IT) := am_b1 (am_it am_fu (am_u2 (fun (l2_1 : Int32) (I_2 : am_IT) => if (28 : Int32) ≤ l2_1 then (some (.inr (I_2))) else (if am_ix l2_1 28 = true then (am_let (up2 I_2 8 l2_1.toNatClampNeg a2) (fun (I_11 : am_IT) => am_let (l2_1 + (1 : Int32)) (fun (l2_12 : Int32) => some (.inl (l2_12, I_11))))) else none))) ((0 : Int32), I)) (fun (I_3 : am_IT) => some I_3)
set_option maxRecDepth 100000 in
set_option maxHeartbeats 4000000 in
theorem s_J7_fill_53178_8 {l : Launch} {d N : Nat} {P : am_PT} (hPl : am_Pl 94 N P) (hd : 1 ≤ d) {I : am_IT} {a2 : Int32} {I2 : am_IT} (hF : F_J7_fill_53178_8 I a2 = some (I2)) : am_C l d 0 0 mJ7_fill_53178 [.ref 8, .int a2] N P I (am_qv N P I2) := by
  refine am_body (sc := am_sc0) (n := 2) (by decide +kernel) (by decide) rfl ?_
  change G am_sc0 l d 0 0 mJ7_fill_53178 (am_qv N P I2) 0 [.ref 8, .int a2, .null, .null] [] N P I 0 0
  unfold F_J7_fill_53178_8 at hF
  refine g_iconst (pc := 0) (v := (0 : Int32)) dJ7_fill_53178_0 rfl ?_
  refine n_istore_n (pc := 1) (ls2 := [.ref 8, .int a2, .int (0 : Int32), .null]) rfl rfl dJ7_fill_53178_1 rfl (Nat.le_of_ble_eq_true rfl) ?_
  refine g_aload_n (pc := 2) dJ7_fill_53178_2 rfl rfl ?_
  refine g_alen (pc := 3) (k := 8) (v := 28) rfl (hPl.lt (by decide)) rfl dJ7_fill_53178_3 ?_
  refine n_istore_n (pc := 4) (ls2 := [.ref 8, .int a2, .int (0 : Int32), .int (28 : Int32)]) rfl rfl dJ7_fill_53178_4 rfl (Nat.le_of_ble_eq_true rfl) ?_
  obtain ⟨I_3, hL_7, hF⟩ := am_b1_el hF
  have hX_4 : G am_sc0 l d 0 0 mJ7_fill_53178 (am_qv N P I2) 20 [.ref 8, .int a2, .null, .int (28 : Int32)] [] N P I_3 0 0 := by
    cases hF
    exact g_vret (pc := 20) rfl (Nat.le_refl _) (Nat.le_refl _) dJ7_fill_53178_20 ⟨rfl, rfl, rfl, rfl⟩
  clear hF
  have hC := am_loop (C := fun x => G am_sc0 l d 0 0 mJ7_fill_53178 (am_qv N P I2) 5 [.ref 8, .int a2, .int x.1, .int (28 : Int32)] [] N P x.2 0 0) (by
    rintro ⟨l2_1, I_2⟩ rr hF ih_5 hE_6
    replace hF := am_u2_ap hF
    change G am_sc0 l d 0 0 mJ7_fill_53178 (am_qv N P I2) 5 [.ref 8, .int a2, .int l2_1, .int (28 : Int32)] [] N P I_2 0 0
    refine g_iload_n (pc := 5) dJ7_fill_53178_5 rfl rfl ?_
    refine g_iload_n (pc := 6) dJ7_fill_53178_6 rfl rfl ?_
    refine g_icmp_ge (pc := 7) (tgt := 20) dJ7_fill_53178_7 rfl (fun c_9 => ?_) (fun c_9 => ?_)
    · replace hF := am_yes c_9 hF
      cases hF
      cases hE_6 _ rfl
      exact g_weak hX_4 ⟨Or.inr rfl, Or.inr rfl, Or.inl rfl, Or.inr rfl, trivial⟩
    · replace hF := am_no c_9 hF
      refine g_aload_n (pc := 10) dJ7_fill_53178_10 rfl rfl ?_
      refine g_iload_n (pc := 11) dJ7_fill_53178_11 rfl rfl ?_
      refine g_iload_n (pc := 12) dJ7_fill_53178_12 rfl rfl ?_
      obtain ⟨c_10, hF⟩ := am_gd hF
      obtain ⟨I_11, e_I_11, hF⟩ := am_let_el hF
      refine n_iast (pc := 13) (k := 8) e_I_11 rfl (hPl.lt (by decide)) (am_ix_use c_10) dJ7_fill_53178_13 ?_
      obtain ⟨l2_12, e_l2_12, hF⟩ := am_let_el hF
      refine n_iinc (pc := 14) (ls2 := [.ref 8, .int a2, .int l2_12, .int (28 : Int32)]) e_l2_12 rfl rfl rfl dJ7_fill_53178_14 (Nat.le_of_ble_eq_true rfl) ?_
      refine g_goto (pc := 17) (tgt := 5) dJ7_fill_53178_17 rfl ?_
      cases hF
      exact ih_5 (l2_12, I_11) rfl
    ) _ _ hL_7
  exact hC
def F_J7_fill_53178_9 (I : am_IT) (a2 : Int32) : Option (am_IT) := am_b1 (am_it am_fu (am_u2 (fun (l2_1 : Int32) (I_2 : am_IT) => if (7 : Int32) ≤ l2_1 then (some (.inr (I_2))) else (if am_ix l2_1 7 = true then (am_let (up2 I_2 9 l2_1.toNatClampNeg a2) (fun (I_11 : am_IT) => am_let (l2_1 + (1 : Int32)) (fun (l2_12 : Int32) => some (.inl (l2_12, I_11))))) else none))) ((0 : Int32), I)) (fun (I_3 : am_IT) => some I_3)
set_option maxRecDepth 100000 in
set_option maxHeartbeats 4000000 in
theorem s_J7_fill_53178_9 {l : Launch} {d N : Nat} {P : am_PT} (hPl : am_Pl 94 N P) (hd : 1 ≤ d) {I : am_IT} {a2 : Int32} {I2 : am_IT} (hF : F_J7_fill_53178_9 I a2 = some (I2)) : am_C l d 0 0 mJ7_fill_53178 [.ref 9, .int a2] N P I (am_qv N P I2) := by
  refine am_body (sc := am_sc0) (n := 2) (by decide +kernel) (by decide) rfl ?_
  change G am_sc0 l d 0 0 mJ7_fill_53178 (am_qv N P I2) 0 [.ref 9, .int a2, .null, .null] [] N P I 0 0
  unfold F_J7_fill_53178_9 at hF
  refine g_iconst (pc := 0) (v := (0 : Int32)) dJ7_fill_53178_0 rfl ?_
  refine n_istore_n (pc := 1) (ls2 := [.ref 9, .int a2, .int (0 : Int32), .null]) rfl rfl dJ7_fill_53178_1 rfl (Nat.le_of_ble_eq_true rfl) ?_
  refine g_aload_n (pc := 2) dJ7_fill_53178_2 rfl rfl ?_
  refine g_alen (pc := 3) (k := 9) (v := 7) rfl (hPl.lt (by decide)) rfl dJ7_fill_53178_3 ?_
  refine n_istore_n (pc := 4) (ls2 := [.ref 9, .int a2, .int (0 : Int32), .int (7 : Int32)]) rfl rfl dJ7_fill_53178_4 rfl (Nat.le_of_ble_eq_true rfl) ?_
  obtain ⟨I_3, hL_7, hF⟩ := am_b1_el hF
  have hX_4 : G am_sc0 l d 0 0 mJ7_fill_53178 (am_qv N P I2) 20 [.ref 9, .int a2, .null, .int (7 : Int32)] [] N P I_3 0 0 := by
    cases hF
    exact g_vret (pc := 20) rfl (Nat.le_refl _) (Nat.le_refl _) dJ7_fill_53178_20 ⟨rfl, rfl, rfl, rfl⟩
  clear hF
  have hC := am_loop (C := fun x => G am_sc0 l d 0 0 mJ7_fill_53178 (am_qv N P I2) 5 [.ref 9, .int a2, .int x.1, .int (7 : Int32)] [] N P x.2 0 0) (by
    rintro ⟨l2_1, I_2⟩ rr hF ih_5 hE_6
    replace hF := am_u2_ap hF
    change G am_sc0 l d 0 0 mJ7_fill_53178 (am_qv N P I2) 5 [.ref 9, .int a2, .int l2_1, .int (7 : Int32)] [] N P I_2 0 0
    refine g_iload_n (pc := 5) dJ7_fill_53178_5 rfl rfl ?_
    refine g_iload_n (pc := 6) dJ7_fill_53178_6 rfl rfl ?_
    refine g_icmp_ge (pc := 7) (tgt := 20) dJ7_fill_53178_7 rfl (fun c_9 => ?_) (fun c_9 => ?_)
    · replace hF := am_yes c_9 hF
      cases hF
      cases hE_6 _ rfl
      exact g_weak hX_4 ⟨Or.inr rfl, Or.inr rfl, Or.inl rfl, Or.inr rfl, trivial⟩
    · replace hF := am_no c_9 hF
      refine g_aload_n (pc := 10) dJ7_fill_53178_10 rfl rfl ?_
      refine g_iload_n (pc := 11) dJ7_fill_53178_11 rfl rfl ?_
      refine g_iload_n (pc := 12) dJ7_fill_53178_12 rfl rfl ?_
      obtain ⟨c_10, hF⟩ := am_gd hF
      obtain ⟨I_11, e_I_11, hF⟩ := am_let_el hF
      refine n_iast (pc := 13) (k := 9) e_I_11 rfl (hPl.lt (by decide)) (am_ix_use c_10) dJ7_fill_53178_13 ?_
      obtain ⟨l2_12, e_l2_12, hF⟩ := am_let_el hF
      refine n_iinc (pc := 14) (ls2 := [.ref 9, .int a2, .int l2_12, .int (7 : Int32)]) e_l2_12 rfl rfl rfl dJ7_fill_53178_14 (Nat.le_of_ble_eq_true rfl) ?_
      refine g_goto (pc := 17) (tgt := 5) dJ7_fill_53178_17 rfl ?_
      cases hF
      exact ih_5 (l2_12, I_11) rfl
    ) _ _ hL_7
  exact hC
def F_J7_fill_53178_10 (I : am_IT) (a2 : Int32) : Option (am_IT) := am_b1 (am_it am_fu (am_u2 (fun (l2_1 : Int32) (I_2 : am_IT) => if (49 : Int32) ≤ l2_1 then (some (.inr (I_2))) else (if am_ix l2_1 49 = true then (am_let (up2 I_2 10 l2_1.toNatClampNeg a2) (fun (I_11 : am_IT) => am_let (l2_1 + (1 : Int32)) (fun (l2_12 : Int32) => some (.inl (l2_12, I_11))))) else none))) ((0 : Int32), I)) (fun (I_3 : am_IT) => some I_3)
set_option maxRecDepth 100000 in
set_option maxHeartbeats 4000000 in
theorem s_J7_fill_53178_10 {l : Launch} {d N : Nat} {P : am_PT} (hPl : am_Pl 94 N P) (hd : 1 ≤ d) {I : am_IT} {a2 : Int32} {I2 : am_IT} (hF : F_J7_fill_53178_10 I a2 = some (I2)) : am_C l d 0 0 mJ7_fill_53178 [.ref 10, .int a2] N P I (am_qv N P I2) := by
  refine am_body (sc := am_sc0) (n := 2) (by decide +kernel) (by decide) rfl ?_
  change G am_sc0 l d 0 0 mJ7_fill_53178 (am_qv N P I2) 0 [.ref 10, .int a2, .null, .null] [] N P I 0 0
  unfold F_J7_fill_53178_10 at hF
  refine g_iconst (pc := 0) (v := (0 : Int32)) dJ7_fill_53178_0 rfl ?_
  refine n_istore_n (pc := 1) (ls2 := [.ref 10, .int a2, .int (0 : Int32), .null]) rfl rfl dJ7_fill_53178_1 rfl (Nat.le_of_ble_eq_true rfl) ?_
  refine g_aload_n (pc := 2) dJ7_fill_53178_2 rfl rfl ?_
  refine g_alen (pc := 3) (k := 10) (v := 49) rfl (hPl.lt (by decide)) rfl dJ7_fill_53178_3 ?_
  refine n_istore_n (pc := 4) (ls2 := [.ref 10, .int a2, .int (0 : Int32), .int (49 : Int32)]) rfl rfl dJ7_fill_53178_4 rfl (Nat.le_of_ble_eq_true rfl) ?_
  obtain ⟨I_3, hL_7, hF⟩ := am_b1_el hF
  have hX_4 : G am_sc0 l d 0 0 mJ7_fill_53178 (am_qv N P I2) 20 [.ref 10, .int a2, .null, .int (49 : Int32)] [] N P I_3 0 0 := by
    cases hF
    exact g_vret (pc := 20) rfl (Nat.le_refl _) (Nat.le_refl _) dJ7_fill_53178_20 ⟨rfl, rfl, rfl, rfl⟩
  clear hF
  have hC := am_loop (C := fun x => G am_sc0 l d 0 0 mJ7_fill_53178 (am_qv N P I2) 5 [.ref 10, .int a2, .int x.1, .int (49 : Int32)] [] N P x.2 0 0) (by
    rintro ⟨l2_1, I_2⟩ rr hF ih_5 hE_6
    replace hF := am_u2_ap hF
    change G am_sc0 l d 0 0 mJ7_fill_53178 (am_qv N P I2) 5 [.ref 10, .int a2, .int l2_1, .int (49 : Int32)] [] N P I_2 0 0
    refine g_iload_n (pc := 5) dJ7_fill_53178_5 rfl rfl ?_
    refine g_iload_n (pc := 6) dJ7_fill_53178_6 rfl rfl ?_
    refine g_icmp_ge (pc := 7) (tgt := 20) dJ7_fill_53178_7 rfl (fun c_9 => ?_) (fun c_9 => ?_)
    · replace hF := am_yes c_9 hF
      cases hF
      cases hE_6 _ rfl
      exact g_weak hX_4 ⟨Or.inr rfl, Or.inr rfl, Or.inl rfl, Or.inr rfl, trivial⟩
    · replace hF := am_no c_9 hF
      refine g_aload_n (pc := 10) dJ7_fill_53178_10 rfl rfl ?_
      refine g_iload_n (pc := 11) dJ7_fill_53178_11 rfl rfl ?_
      refine g_iload_n (pc := 12) dJ7_fill_53178_12 rfl rfl ?_
      obtain ⟨c_10, hF⟩ := am_gd hF
      obtain ⟨I_11, e_I_11, hF⟩ := am_let_el hF
      refine n_iast (pc := 13) (k := 10) e_I_11 rfl (hPl.lt (by decide)) (am_ix_use c_10) dJ7_fill_53178_13 ?_
      obtain ⟨l2_12, e_l2_12, hF⟩ := am_let_el hF
      refine n_iinc (pc := 14) (ls2 := [.ref 10, .int a2, .int l2_12, .int (49 : Int32)]) e_l2_12 rfl rfl rfl dJ7_fill_53178_14 (Nat.le_of_ble_eq_true rfl) ?_
      refine g_goto (pc := 17) (tgt := 5) dJ7_fill_53178_17 rfl ?_
      cases hF
      exact ih_5 (l2_12, I_11) rfl
    ) _ _ hL_7
  exact hC
def F_X6_clear_11 (I : am_IT) : Option (am_IT) := am_let (up2 I 11 0 (0 : Int32)) (fun (I_1 : am_IT) => am_let (up2 I_1 11 1 (0 : Int32)) (fun (I_2 : am_IT) => some I_2))
set_option maxRecDepth 100000 in
set_option maxHeartbeats 4000000 in
theorem s_X6_clear_11 {l : Launch} {d N : Nat} {P : am_PT} (hPl : am_Pl 94 N P) (hd : 1 ≤ d) {I : am_IT} {I2 : am_IT} (hF : F_X6_clear_11 I = some (I2)) : am_C l d 0 0 mX6_clear [.ref 11] N P I (am_qv N P I2) := by
  refine am_body (sc := am_sc0) (n := 0) (by decide +kernel) (by decide) rfl ?_
  change G am_sc0 l d 0 0 mX6_clear (am_qv N P I2) 0 [.ref 11] [] N P I 0 0
  unfold F_X6_clear_11 at hF
  refine g_aload_n (pc := 0) dX6_clear_0 rfl rfl ?_
  refine g_iconst (pc := 1) (v := (0 : Int32)) dX6_clear_1 rfl ?_
  obtain ⟨I_1, e_I_1, hF⟩ := am_let_el hF
  refine n_putI (pc := 2) (k := 11) e_I_1 kf_X6_9 rfl rfl (hPl.lt (by decide)) dX6_clear_2 ?_
  refine g_aload_n (pc := 5) dX6_clear_5 rfl rfl ?_
  refine g_iconst (pc := 6) (v := (0 : Int32)) dX6_clear_6 rfl ?_
  obtain ⟨I_2, e_I_2, hF⟩ := am_let_el hF
  refine n_putI (pc := 7) (k := 11) e_I_2 kf_X6_15 rfl rfl (hPl.lt (by decide)) dX6_clear_7 ?_
  cases hF
  exact g_vret (pc := 10) rfl (Nat.le_refl _) (Nat.le_refl _) dX6_clear_10 ⟨rfl, rfl, rfl, rfl⟩
def F_J7_fill_53178_16 (I : am_IT) (a2 : Int32) : Option (am_IT) := am_b1 (am_it am_fu (am_u2 (fun (l2_1 : Int32) (I_2 : am_IT) => if (112 : Int32) ≤ l2_1 then (some (.inr (I_2))) else (if am_ix l2_1 112 = true then (am_let (up2 I_2 16 l2_1.toNatClampNeg a2) (fun (I_11 : am_IT) => am_let (l2_1 + (1 : Int32)) (fun (l2_12 : Int32) => some (.inl (l2_12, I_11))))) else none))) ((0 : Int32), I)) (fun (I_3 : am_IT) => some I_3)
set_option maxRecDepth 100000 in
set_option maxHeartbeats 4000000 in
theorem s_J7_fill_53178_16 {l : Launch} {d N : Nat} {P : am_PT} (hPl : am_Pl 94 N P) (hd : 1 ≤ d) {I : am_IT} {a2 : Int32} {I2 : am_IT} (hF : F_J7_fill_53178_16 I a2 = some (I2)) : am_C l d 0 0 mJ7_fill_53178 [.ref 16, .int a2] N P I (am_qv N P I2) := by
  refine am_body (sc := am_sc0) (n := 2) (by decide +kernel) (by decide) rfl ?_
  change G am_sc0 l d 0 0 mJ7_fill_53178 (am_qv N P I2) 0 [.ref 16, .int a2, .null, .null] [] N P I 0 0
  unfold F_J7_fill_53178_16 at hF
  refine g_iconst (pc := 0) (v := (0 : Int32)) dJ7_fill_53178_0 rfl ?_
  refine n_istore_n (pc := 1) (ls2 := [.ref 16, .int a2, .int (0 : Int32), .null]) rfl rfl dJ7_fill_53178_1 rfl (Nat.le_of_ble_eq_true rfl) ?_
  refine g_aload_n (pc := 2) dJ7_fill_53178_2 rfl rfl ?_
  refine g_alen (pc := 3) (k := 16) (v := 112) rfl (hPl.lt (by decide)) rfl dJ7_fill_53178_3 ?_
  refine n_istore_n (pc := 4) (ls2 := [.ref 16, .int a2, .int (0 : Int32), .int (112 : Int32)]) rfl rfl dJ7_fill_53178_4 rfl (Nat.le_of_ble_eq_true rfl) ?_
  obtain ⟨I_3, hL_7, hF⟩ := am_b1_el hF
  have hX_4 : G am_sc0 l d 0 0 mJ7_fill_53178 (am_qv N P I2) 20 [.ref 16, .int a2, .null, .int (112 : Int32)] [] N P I_3 0 0 := by
    cases hF
    exact g_vret (pc := 20) rfl (Nat.le_refl _) (Nat.le_refl _) dJ7_fill_53178_20 ⟨rfl, rfl, rfl, rfl⟩
  clear hF
  have hC := am_loop (C := fun x => G am_sc0 l d 0 0 mJ7_fill_53178 (am_qv N P I2) 5 [.ref 16, .int a2, .int x.1, .int (112 : Int32)] [] N P x.2 0 0) (by
    rintro ⟨l2_1, I_2⟩ rr hF ih_5 hE_6
    replace hF := am_u2_ap hF
    change G am_sc0 l d 0 0 mJ7_fill_53178 (am_qv N P I2) 5 [.ref 16, .int a2, .int l2_1, .int (112 : Int32)] [] N P I_2 0 0
    refine g_iload_n (pc := 5) dJ7_fill_53178_5 rfl rfl ?_
    refine g_iload_n (pc := 6) dJ7_fill_53178_6 rfl rfl ?_
    refine g_icmp_ge (pc := 7) (tgt := 20) dJ7_fill_53178_7 rfl (fun c_9 => ?_) (fun c_9 => ?_)
    · replace hF := am_yes c_9 hF
      cases hF
      cases hE_6 _ rfl
      exact g_weak hX_4 ⟨Or.inr rfl, Or.inr rfl, Or.inl rfl, Or.inr rfl, trivial⟩
    · replace hF := am_no c_9 hF
      refine g_aload_n (pc := 10) dJ7_fill_53178_10 rfl rfl ?_
      refine g_iload_n (pc := 11) dJ7_fill_53178_11 rfl rfl ?_
      refine g_iload_n (pc := 12) dJ7_fill_53178_12 rfl rfl ?_
      obtain ⟨c_10, hF⟩ := am_gd hF
      obtain ⟨I_11, e_I_11, hF⟩ := am_let_el hF
      refine n_iast (pc := 13) (k := 16) e_I_11 rfl (hPl.lt (by decide)) (am_ix_use c_10) dJ7_fill_53178_13 ?_
      obtain ⟨l2_12, e_l2_12, hF⟩ := am_let_el hF
      refine n_iinc (pc := 14) (ls2 := [.ref 16, .int a2, .int l2_12, .int (112 : Int32)]) e_l2_12 rfl rfl rfl dJ7_fill_53178_14 (Nat.le_of_ble_eq_true rfl) ?_
      refine g_goto (pc := 17) (tgt := 5) dJ7_fill_53178_17 rfl ?_
      cases hF
      exact ih_5 (l2_12, I_11) rfl
    ) _ _ hL_7
  exact hC
def F_X1_clear_15 (I : am_IT) : Option (am_IT) := am_let (up2 I 15 0 (0 : Int32)) (fun (I_1 : am_IT) => am_b1 (F_J7_fill_53178_16 I_1 (0 : Int32)) (fun (I_3 : am_IT) => some I_3))
set_option maxRecDepth 100000 in
set_option maxHeartbeats 4000000 in
theorem s_X1_clear_15 {l : Launch} {d N : Nat} {P : am_PT} (hPl : am_Pl 94 N P) (hd : 2 ≤ d) {I : am_IT} {I2 : am_IT} (hF : F_X1_clear_15 I = some (I2)) : am_C l d 0 0 mX1_clear [.ref 15] N P I (am_qv N P I2) := by
  refine am_body (sc := am_sc0) (n := 0) (by decide +kernel) (by decide) rfl ?_
  change G am_sc0 l d 0 0 mX1_clear (am_qv N P I2) 0 [.ref 15] [] N P I 0 0
  unfold F_X1_clear_15 at hF
  refine g_aload_n (pc := 0) dX1_clear_0 rfl rfl ?_
  refine g_iconst (pc := 1) (v := (0 : Int32)) dX1_clear_1 rfl ?_
  obtain ⟨I_1, e_I_1, hF⟩ := am_let_el hF
  refine n_putI (pc := 2) (k := 15) e_I_1 kf_X1_9 rfl rfl (hPl.lt (by decide)) dX1_clear_2 ?_
  refine g_aload_n (pc := 5) dX1_clear_5 rfl rfl ?_
  refine g_getR (pc := 6) (k := 15) (r := 16) kf_X1_15.r rfl rfl (hPl.get (by decide) rfl) (hPl.lt (by decide)) dX1_clear_6 ?_
  refine g_iconst (pc := 9) (v := (0 : Int32)) dX1_clear_9 rfl ?_
  obtain ⟨I_3, h_2, hF⟩ := am_b1_el hF
  refine g_cSv (pc := 10) (As := [.ref 16, .int (0 : Int32)]) (st := []) ky_J7_fill_53178 kl_X1_22 (s_J7_fill_53178_16 (d := 1) (hPl) (Nat.le_refl _) h_2) rfl rfl (Nat.le_trans (by decide) hd) (Nat.le_of_ble_eq_true rfl) (Nat.le_refl _) (Nat.le_refl _) dX1_clear_10 ?_
  cases hF
  exact g_vret (pc := 13) rfl (Nat.le_refl _) (Nat.le_refl _) dX1_clear_13 ⟨rfl, rfl, rfl, rfl⟩
def F_J7_fill_53178_19 (I : am_IT) (a2 : Int32) : Option (am_IT) := am_b1 (am_it am_fu (am_u2 (fun (l2_1 : Int32) (I_2 : am_IT) => if (9 : Int32) ≤ l2_1 then (some (.inr (I_2))) else (if am_ix l2_1 9 = true then (am_let (up2 I_2 19 l2_1.toNatClampNeg a2) (fun (I_11 : am_IT) => am_let (l2_1 + (1 : Int32)) (fun (l2_12 : Int32) => some (.inl (l2_12, I_11))))) else none))) ((0 : Int32), I)) (fun (I_3 : am_IT) => some I_3)
set_option maxRecDepth 100000 in
set_option maxHeartbeats 4000000 in
theorem s_J7_fill_53178_19 {l : Launch} {d N : Nat} {P : am_PT} (hPl : am_Pl 94 N P) (hd : 1 ≤ d) {I : am_IT} {a2 : Int32} {I2 : am_IT} (hF : F_J7_fill_53178_19 I a2 = some (I2)) : am_C l d 0 0 mJ7_fill_53178 [.ref 19, .int a2] N P I (am_qv N P I2) := by
  refine am_body (sc := am_sc0) (n := 2) (by decide +kernel) (by decide) rfl ?_
  change G am_sc0 l d 0 0 mJ7_fill_53178 (am_qv N P I2) 0 [.ref 19, .int a2, .null, .null] [] N P I 0 0
  unfold F_J7_fill_53178_19 at hF
  refine g_iconst (pc := 0) (v := (0 : Int32)) dJ7_fill_53178_0 rfl ?_
  refine n_istore_n (pc := 1) (ls2 := [.ref 19, .int a2, .int (0 : Int32), .null]) rfl rfl dJ7_fill_53178_1 rfl (Nat.le_of_ble_eq_true rfl) ?_
  refine g_aload_n (pc := 2) dJ7_fill_53178_2 rfl rfl ?_
  refine g_alen (pc := 3) (k := 19) (v := 9) rfl (hPl.lt (by decide)) rfl dJ7_fill_53178_3 ?_
  refine n_istore_n (pc := 4) (ls2 := [.ref 19, .int a2, .int (0 : Int32), .int (9 : Int32)]) rfl rfl dJ7_fill_53178_4 rfl (Nat.le_of_ble_eq_true rfl) ?_
  obtain ⟨I_3, hL_7, hF⟩ := am_b1_el hF
  have hX_4 : G am_sc0 l d 0 0 mJ7_fill_53178 (am_qv N P I2) 20 [.ref 19, .int a2, .null, .int (9 : Int32)] [] N P I_3 0 0 := by
    cases hF
    exact g_vret (pc := 20) rfl (Nat.le_refl _) (Nat.le_refl _) dJ7_fill_53178_20 ⟨rfl, rfl, rfl, rfl⟩
  clear hF
  have hC := am_loop (C := fun x => G am_sc0 l d 0 0 mJ7_fill_53178 (am_qv N P I2) 5 [.ref 19, .int a2, .int x.1, .int (9 : Int32)] [] N P x.2 0 0) (by
    rintro ⟨l2_1, I_2⟩ rr hF ih_5 hE_6
    replace hF := am_u2_ap hF
    change G am_sc0 l d 0 0 mJ7_fill_53178 (am_qv N P I2) 5 [.ref 19, .int a2, .int l2_1, .int (9 : Int32)] [] N P I_2 0 0
    refine g_iload_n (pc := 5) dJ7_fill_53178_5 rfl rfl ?_
    refine g_iload_n (pc := 6) dJ7_fill_53178_6 rfl rfl ?_
    refine g_icmp_ge (pc := 7) (tgt := 20) dJ7_fill_53178_7 rfl (fun c_9 => ?_) (fun c_9 => ?_)
    · replace hF := am_yes c_9 hF
      cases hF
      cases hE_6 _ rfl
      exact g_weak hX_4 ⟨Or.inr rfl, Or.inr rfl, Or.inl rfl, Or.inr rfl, trivial⟩
    · replace hF := am_no c_9 hF
      refine g_aload_n (pc := 10) dJ7_fill_53178_10 rfl rfl ?_
      refine g_iload_n (pc := 11) dJ7_fill_53178_11 rfl rfl ?_
      refine g_iload_n (pc := 12) dJ7_fill_53178_12 rfl rfl ?_
      obtain ⟨c_10, hF⟩ := am_gd hF
      obtain ⟨I_11, e_I_11, hF⟩ := am_let_el hF
      refine n_iast (pc := 13) (k := 19) e_I_11 rfl (hPl.lt (by decide)) (am_ix_use c_10) dJ7_fill_53178_13 ?_
      obtain ⟨l2_12, e_l2_12, hF⟩ := am_let_el hF
      refine n_iinc (pc := 14) (ls2 := [.ref 19, .int a2, .int l2_12, .int (9 : Int32)]) e_l2_12 rfl rfl rfl dJ7_fill_53178_14 (Nat.le_of_ble_eq_true rfl) ?_
      refine g_goto (pc := 17) (tgt := 5) dJ7_fill_53178_17 rfl ?_
      cases hF
      exact ih_5 (l2_12, I_11) rfl
    ) _ _ hL_7
  exact hC
def F_J7_fill_53178_20 (I : am_IT) (a2 : Int32) : Option (am_IT) := am_b1 (am_it am_fu (am_u2 (fun (l2_1 : Int32) (I_2 : am_IT) => if (81 : Int32) ≤ l2_1 then (some (.inr (I_2))) else (if am_ix l2_1 81 = true then (am_let (up2 I_2 20 l2_1.toNatClampNeg a2) (fun (I_11 : am_IT) => am_let (l2_1 + (1 : Int32)) (fun (l2_12 : Int32) => some (.inl (l2_12, I_11))))) else none))) ((0 : Int32), I)) (fun (I_3 : am_IT) => some I_3)
set_option maxRecDepth 100000 in
set_option maxHeartbeats 4000000 in
theorem s_J7_fill_53178_20 {l : Launch} {d N : Nat} {P : am_PT} (hPl : am_Pl 94 N P) (hd : 1 ≤ d) {I : am_IT} {a2 : Int32} {I2 : am_IT} (hF : F_J7_fill_53178_20 I a2 = some (I2)) : am_C l d 0 0 mJ7_fill_53178 [.ref 20, .int a2] N P I (am_qv N P I2) := by
  refine am_body (sc := am_sc0) (n := 2) (by decide +kernel) (by decide) rfl ?_
  change G am_sc0 l d 0 0 mJ7_fill_53178 (am_qv N P I2) 0 [.ref 20, .int a2, .null, .null] [] N P I 0 0
  unfold F_J7_fill_53178_20 at hF
  refine g_iconst (pc := 0) (v := (0 : Int32)) dJ7_fill_53178_0 rfl ?_
  refine n_istore_n (pc := 1) (ls2 := [.ref 20, .int a2, .int (0 : Int32), .null]) rfl rfl dJ7_fill_53178_1 rfl (Nat.le_of_ble_eq_true rfl) ?_
  refine g_aload_n (pc := 2) dJ7_fill_53178_2 rfl rfl ?_
  refine g_alen (pc := 3) (k := 20) (v := 81) rfl (hPl.lt (by decide)) rfl dJ7_fill_53178_3 ?_
  refine n_istore_n (pc := 4) (ls2 := [.ref 20, .int a2, .int (0 : Int32), .int (81 : Int32)]) rfl rfl dJ7_fill_53178_4 rfl (Nat.le_of_ble_eq_true rfl) ?_
  obtain ⟨I_3, hL_7, hF⟩ := am_b1_el hF
  have hX_4 : G am_sc0 l d 0 0 mJ7_fill_53178 (am_qv N P I2) 20 [.ref 20, .int a2, .null, .int (81 : Int32)] [] N P I_3 0 0 := by
    cases hF
    exact g_vret (pc := 20) rfl (Nat.le_refl _) (Nat.le_refl _) dJ7_fill_53178_20 ⟨rfl, rfl, rfl, rfl⟩
  clear hF
  have hC := am_loop (C := fun x => G am_sc0 l d 0 0 mJ7_fill_53178 (am_qv N P I2) 5 [.ref 20, .int a2, .int x.1, .int (81 : Int32)] [] N P x.2 0 0) (by
    rintro ⟨l2_1, I_2⟩ rr hF ih_5 hE_6
    replace hF := am_u2_ap hF
    change G am_sc0 l d 0 0 mJ7_fill_53178 (am_qv N P I2) 5 [.ref 20, .int a2, .int l2_1, .int (81 : Int32)] [] N P I_2 0 0
    refine g_iload_n (pc := 5) dJ7_fill_53178_5 rfl rfl ?_
    refine g_iload_n (pc := 6) dJ7_fill_53178_6 rfl rfl ?_
    refine g_icmp_ge (pc := 7) (tgt := 20) dJ7_fill_53178_7 rfl (fun c_9 => ?_) (fun c_9 => ?_)
    · replace hF := am_yes c_9 hF
      cases hF
      cases hE_6 _ rfl
      exact g_weak hX_4 ⟨Or.inr rfl, Or.inr rfl, Or.inl rfl, Or.inr rfl, trivial⟩
    · replace hF := am_no c_9 hF
      refine g_aload_n (pc := 10) dJ7_fill_53178_10 rfl rfl ?_
      refine g_iload_n (pc := 11) dJ7_fill_53178_11 rfl rfl ?_
      refine g_iload_n (pc := 12) dJ7_fill_53178_12 rfl rfl ?_
      obtain ⟨c_10, hF⟩ := am_gd hF
      obtain ⟨I_11, e_I_11, hF⟩ := am_let_el hF
      refine n_iast (pc := 13) (k := 20) e_I_11 rfl (hPl.lt (by decide)) (am_ix_use c_10) dJ7_fill_53178_13 ?_
      obtain ⟨l2_12, e_l2_12, hF⟩ := am_let_el hF
      refine n_iinc (pc := 14) (ls2 := [.ref 20, .int a2, .int l2_12, .int (81 : Int32)]) e_l2_12 rfl rfl rfl dJ7_fill_53178_14 (Nat.le_of_ble_eq_true rfl) ?_
      refine g_goto (pc := 17) (tgt := 5) dJ7_fill_53178_17 rfl ?_
      cases hF
      exact ih_5 (l2_12, I_11) rfl
    ) _ _ hL_7
  exact hC
def F_X5_clear_18 (I : am_IT) : Option (am_IT) := am_b1 (F_J7_fill_53178_19 I (0 : Int32)) (fun (I_2 : am_IT) => am_b1 (F_J7_fill_53178_20 I_2 (0 : Int32)) (fun (I_4 : am_IT) => some I_4))
set_option maxRecDepth 100000 in
set_option maxHeartbeats 4000000 in
theorem s_X5_clear_18 {l : Launch} {d N : Nat} {P : am_PT} (hPl : am_Pl 94 N P) (hd : 2 ≤ d) {I : am_IT} {I2 : am_IT} (hF : F_X5_clear_18 I = some (I2)) : am_C l d 0 0 mX5_clear [.ref 18] N P I (am_qv N P I2) := by
  refine am_body (sc := am_sc0) (n := 0) (by decide +kernel) (by decide) rfl ?_
  change G am_sc0 l d 0 0 mX5_clear (am_qv N P I2) 0 [.ref 18] [] N P I 0 0
  unfold F_X5_clear_18 at hF
  refine g_aload_n (pc := 0) dX5_clear_0 rfl rfl ?_
  refine g_getR (pc := 1) (k := 18) (r := 19) kf_X5_9.r rfl rfl (hPl.get (by decide) rfl) (hPl.lt (by decide)) dX5_clear_1 ?_
  refine g_iconst (pc := 4) (v := (0 : Int32)) dX5_clear_4 rfl ?_
  obtain ⟨I_2, h_1, hF⟩ := am_b1_el hF
  refine g_cSv (pc := 5) (As := [.ref 19, .int (0 : Int32)]) (st := []) ky_J7_fill_53178 kl_X5_37 (s_J7_fill_53178_19 (d := 1) (hPl) (Nat.le_refl _) h_1) rfl rfl (Nat.le_trans (by decide) hd) (Nat.le_of_ble_eq_true rfl) (Nat.le_refl _) (Nat.le_refl _) dX5_clear_5 ?_
  refine g_aload_n (pc := 8) dX5_clear_8 rfl rfl ?_
  refine g_getR (pc := 9) (k := 18) (r := 20) kf_X5_15.r rfl rfl (hPl.get (by decide) rfl) (hPl.lt (by decide)) dX5_clear_9 ?_
  refine g_iconst (pc := 12) (v := (0 : Int32)) dX5_clear_12 rfl ?_
  obtain ⟨I_4, h_3, hF⟩ := am_b1_el hF
  refine g_cSv (pc := 13) (As := [.ref 20, .int (0 : Int32)]) (st := []) ky_J7_fill_53178 kl_X5_37 (s_J7_fill_53178_20 (d := 1) (hPl) (Nat.le_refl _) h_3) rfl rfl (Nat.le_trans (by decide) hd) (Nat.le_of_ble_eq_true rfl) (Nat.le_refl _) (Nat.le_refl _) dX5_clear_13 ?_
  cases hF
  exact g_vret (pc := 16) rfl (Nat.le_refl _) (Nat.le_refl _) dX5_clear_16 ⟨rfl, rfl, rfl, rfl⟩
def F_X9_clear_1 (I : am_IT) (a1 : Int32) : Option (am_IT) := am_let (up2 I 1 0 a1) (fun (I_1 : am_IT) => am_let (up2 I_1 1 2 (0 : Int32)) (fun (I_2 : am_IT) => am_let (up2 I_2 1 3 (0 : Int32)) (fun (I_3 : am_IT) => am_let (up2 I_3 1 4 (0 : Int32)) (fun (I_4 : am_IT) => am_let (up2 I_4 1 5 (0 : Int32)) (fun (I_5 : am_IT) => am_b1 (F_J7_fill_53178_2 I_5 (0 : Int32)) (fun (I_7 : am_IT) => am_b1 (F_J7_fill_53178_5 I_7 (0 : Int32)) (fun (I_9 : am_IT) => am_b1 (F_J7_fill_53178_7 I_9 (0 : Int32)) (fun (I_11 : am_IT) => am_b1 (F_J7_fill_53178_8 I_11 (0 : Int32)) (fun (I_13 : am_IT) => am_b1 (F_J7_fill_53178_9 I_13 (0 : Int32)) (fun (I_15 : am_IT) => am_b1 (F_J7_fill_53178_10 I_15 (0 : Int32)) (fun (I_17 : am_IT) => am_b1 (F_X6_clear_11 I_17) (fun (I_19 : am_IT) => am_b1 (F_X1_clear_15 I_19) (fun (I_21 : am_IT) => am_b1 (F_X5_clear_18 I_21) (fun (I_23 : am_IT) => some I_23))))))))))))))
set_option maxRecDepth 100000 in
set_option maxHeartbeats 4000000 in
theorem s_X9_clear_1 {l : Launch} {d N : Nat} {P : am_PT} (hPl : am_Pl 94 N P) (hd : 3 ≤ d) {I : am_IT} {a1 : Int32} {I2 : am_IT} (hF : F_X9_clear_1 I a1 = some (I2)) : am_C l d 0 0 mX9_clear [.ref 1, .int a1] N P I (am_qv N P I2) := by
  refine am_body (sc := am_sc0) (n := 0) (by decide +kernel) (by decide) rfl ?_
  change G am_sc0 l d 0 0 mX9_clear (am_qv N P I2) 0 [.ref 1, .int a1] [] N P I 0 0
  unfold F_X9_clear_1 at hF
  refine g_aload_n (pc := 0) dX9_clear_0 rfl rfl ?_
  refine g_iload_n (pc := 1) dX9_clear_1 rfl rfl ?_
  obtain ⟨I_1, e_I_1, hF⟩ := am_let_el hF
  refine n_putI (pc := 2) (k := 1) e_I_1 kf_X9_9 rfl rfl (hPl.lt (by decide)) dX9_clear_2 ?_
  refine g_aload_n (pc := 5) dX9_clear_5 rfl rfl ?_
  refine g_iconst (pc := 6) (v := (0 : Int32)) dX9_clear_6 rfl ?_
  obtain ⟨I_2, e_I_2, hF⟩ := am_let_el hF
  refine n_putI (pc := 7) (k := 1) e_I_2 kf_X9_18 rfl rfl (hPl.lt (by decide)) dX9_clear_7 ?_
  refine g_aload_n (pc := 10) dX9_clear_10 rfl rfl ?_
  refine g_iconst (pc := 11) (v := (0 : Int32)) dX9_clear_11 rfl ?_
  obtain ⟨I_3, e_I_3, hF⟩ := am_let_el hF
  refine n_putI (pc := 12) (k := 1) e_I_3 kf_X9_21 rfl rfl (hPl.lt (by decide)) dX9_clear_12 ?_
  refine g_aload_n (pc := 15) dX9_clear_15 rfl rfl ?_
  refine g_iconst (pc := 16) (v := (0 : Int32)) dX9_clear_16 rfl ?_
  obtain ⟨I_4, e_I_4, hF⟩ := am_let_el hF
  refine n_putI (pc := 17) (k := 1) e_I_4 kf_X9_24 rfl rfl (hPl.lt (by decide)) dX9_clear_17 ?_
  refine g_aload_n (pc := 20) dX9_clear_20 rfl rfl ?_
  refine g_iconst (pc := 21) (v := (0 : Int32)) dX9_clear_21 rfl ?_
  obtain ⟨I_5, e_I_5, hF⟩ := am_let_el hF
  refine n_putI (pc := 22) (k := 1) e_I_5 kf_X9_27 rfl rfl (hPl.lt (by decide)) dX9_clear_22 ?_
  refine g_aload_n (pc := 25) dX9_clear_25 rfl rfl ?_
  refine g_getR (pc := 26) (k := 1) (r := 2) kf_X9_30.r rfl rfl (hPl.get (by decide) rfl) (hPl.lt (by decide)) dX9_clear_26 ?_
  refine g_iconst (pc := 29) (v := (0 : Int32)) dX9_clear_29 rfl ?_
  obtain ⟨I_7, h_6, hF⟩ := am_b1_el hF
  refine g_cSv (pc := 30) (As := [.ref 2, .int (0 : Int32)]) (st := []) ky_J7_fill_53178 kl_X9_79 (s_J7_fill_53178_2 (d := 1) (hPl) (Nat.le_refl _) h_6) rfl rfl (Nat.le_trans (by decide) hd) (Nat.le_of_ble_eq_true rfl) (Nat.le_refl _) (Nat.le_refl _) dX9_clear_30 ?_
  refine g_aload_n (pc := 33) dX9_clear_33 rfl rfl ?_
  refine g_getR (pc := 34) (k := 1) (r := 5) kf_X9_40.r rfl rfl (hPl.get (by decide) rfl) (hPl.lt (by decide)) dX9_clear_34 ?_
  refine g_iconst (pc := 37) (v := (0 : Int32)) dX9_clear_37 rfl ?_
  obtain ⟨I_9, h_8, hF⟩ := am_b1_el hF
  refine g_cSv (pc := 38) (As := [.ref 5, .int (0 : Int32)]) (st := []) ky_J7_fill_53178 kl_X9_79 (s_J7_fill_53178_5 (d := 1) (hPl) (Nat.le_refl _) h_8) rfl rfl (Nat.le_trans (by decide) hd) (Nat.le_of_ble_eq_true rfl) (Nat.le_refl _) (Nat.le_refl _) dX9_clear_38 ?_
  refine g_aload_n (pc := 41) dX9_clear_41 rfl rfl ?_
  refine g_getR (pc := 42) (k := 1) (r := 7) kf_X9_46.r rfl rfl (hPl.get (by decide) rfl) (hPl.lt (by decide)) dX9_clear_42 ?_
  refine g_iconst (pc := 45) (v := (0 : Int32)) dX9_clear_45 rfl ?_
  obtain ⟨I_11, h_10, hF⟩ := am_b1_el hF
  refine g_cSv (pc := 46) (As := [.ref 7, .int (0 : Int32)]) (st := []) ky_J7_fill_53178 kl_X9_79 (s_J7_fill_53178_7 (d := 1) (hPl) (Nat.le_refl _) h_10) rfl rfl (Nat.le_trans (by decide) hd) (Nat.le_of_ble_eq_true rfl) (Nat.le_refl _) (Nat.le_refl _) dX9_clear_46 ?_
  refine g_aload_n (pc := 49) dX9_clear_49 rfl rfl ?_
  refine g_getR (pc := 50) (k := 1) (r := 8) kf_X9_49.r rfl rfl (hPl.get (by decide) rfl) (hPl.lt (by decide)) dX9_clear_50 ?_
  refine g_iconst (pc := 53) (v := (0 : Int32)) dX9_clear_53 rfl ?_
  obtain ⟨I_13, h_12, hF⟩ := am_b1_el hF
  refine g_cSv (pc := 54) (As := [.ref 8, .int (0 : Int32)]) (st := []) ky_J7_fill_53178 kl_X9_79 (s_J7_fill_53178_8 (d := 1) (hPl) (Nat.le_refl _) h_12) rfl rfl (Nat.le_trans (by decide) hd) (Nat.le_of_ble_eq_true rfl) (Nat.le_refl _) (Nat.le_refl _) dX9_clear_54 ?_
  refine g_aload_n (pc := 57) dX9_clear_57 rfl rfl ?_
  refine g_getR (pc := 58) (k := 1) (r := 9) kf_X9_52.r rfl rfl (hPl.get (by decide) rfl) (hPl.lt (by decide)) dX9_clear_58 ?_
  refine g_iconst (pc := 61) (v := (0 : Int32)) dX9_clear_61 rfl ?_
  obtain ⟨I_15, h_14, hF⟩ := am_b1_el hF
  refine g_cSv (pc := 62) (As := [.ref 9, .int (0 : Int32)]) (st := []) ky_J7_fill_53178 kl_X9_79 (s_J7_fill_53178_9 (d := 1) (hPl) (Nat.le_refl _) h_14) rfl rfl (Nat.le_trans (by decide) hd) (Nat.le_of_ble_eq_true rfl) (Nat.le_refl _) (Nat.le_refl _) dX9_clear_62 ?_
  refine g_aload_n (pc := 65) dX9_clear_65 rfl rfl ?_
  refine g_getR (pc := 66) (k := 1) (r := 10) kf_X9_55.r rfl rfl (hPl.get (by decide) rfl) (hPl.lt (by decide)) dX9_clear_66 ?_
  refine g_iconst (pc := 69) (v := (0 : Int32)) dX9_clear_69 rfl ?_
  obtain ⟨I_17, h_16, hF⟩ := am_b1_el hF
  refine g_cSv (pc := 70) (As := [.ref 10, .int (0 : Int32)]) (st := []) ky_J7_fill_53178 kl_X9_79 (s_J7_fill_53178_10 (d := 1) (hPl) (Nat.le_refl _) h_16) rfl rfl (Nat.le_trans (by decide) hd) (Nat.le_of_ble_eq_true rfl) (Nat.le_refl _) (Nat.le_refl _) dX9_clear_70 ?_
  refine g_aload_n (pc := 73) dX9_clear_73 rfl rfl ?_
  refine g_getR (pc := 74) (k := 1) (r := 11) kf_X9_61.r rfl rfl (hPl.get (by decide) rfl) (hPl.lt (by decide)) dX9_clear_74 ?_
  obtain ⟨I_19, h_18, hF⟩ := am_b1_el hF
  refine g_cVv (pc := 77) (k := 11) (As := []) (st := []) ky_X6_clear kl_X9_85 (s_X6_clear_11 (d := 1) (hPl) (Nat.le_refl _) h_18) rfl rfl rfl (hPl.lt (by decide)) (Nat.le_trans (by decide) hd) (Nat.le_of_ble_eq_true rfl) (Nat.le_refl _) (Nat.le_refl _) dX9_clear_77 ?_
  refine g_aload_n (pc := 80) dX9_clear_80 rfl rfl ?_
  refine g_getR (pc := 81) (k := 1) (r := 15) kf_X9_68.r rfl rfl (hPl.get (by decide) rfl) (hPl.lt (by decide)) dX9_clear_81 ?_
  obtain ⟨I_21, h_20, hF⟩ := am_b1_el hF
  refine g_cVv (pc := 84) (k := 15) (As := []) (st := []) ky_X1_clear kl_X9_88 (s_X1_clear_15 (d := 2) (hPl) (Nat.le_refl _) h_20) rfl rfl rfl (hPl.lt (by decide)) (Nat.le_trans (by decide) hd) (Nat.le_of_ble_eq_true rfl) (Nat.le_refl _) (Nat.le_refl _) dX9_clear_84 ?_
  refine g_aload_n (pc := 87) dX9_clear_87 rfl rfl ?_
  refine g_getR (pc := 88) (k := 1) (r := 18) kf_X9_75.r rfl rfl (hPl.get (by decide) rfl) (hPl.lt (by decide)) dX9_clear_88 ?_
  obtain ⟨I_23, h_22, hF⟩ := am_b1_el hF
  refine g_cVv (pc := 91) (k := 18) (As := []) (st := []) ky_X5_clear kl_X9_89 (s_X5_clear_18 (d := 2) (hPl) (Nat.le_refl _) h_22) rfl rfl rfl (hPl.lt (by decide)) (Nat.le_trans (by decide) hd) (Nat.le_of_ble_eq_true rfl) (Nat.le_refl _) (Nat.le_refl _) dX9_clear_91 ?_
  cases hF
  exact g_vret (pc := 94) rfl (Nat.le_refl _) (Nat.le_refl _) dX9_clear_94 ⟨rfl, rfl, rfl, rfl⟩
def F_X11_colours_0 (I : am_IT) (a1 : Int32) : Option (Int32 × am_IT) := if a1 < (2 : Int32) then (some ((0 : Int32), I)) else (if a1 ≤ (4 : Int32) then (am_b1 (F_X9_clear_1 I a1) (fun (I_4 : am_IT) => some ((1 : Int32), I_4))) else (some ((0 : Int32), I)))
set_option maxRecDepth 100000 in
set_option maxHeartbeats 4000000 in
theorem s_X11_colours_0 {l : Launch} {d N : Nat} {P : am_PT} (hPl : am_Pl 94 N P) (hd : 4 ≤ d) {I : am_IT} {a1 : Int32} {r : Int32} {I2 : am_IT} (hF : F_X11_colours_0 I a1 = some (r, I2)) : am_C l d 0 0 mX11_colours [.ref 0, .int a1] N P I (am_qz r N P I2) := by
  refine am_body (sc := am_sc0) (n := 0) (by decide +kernel) (by decide) rfl ?_
  change G am_sc0 l d 0 0 mX11_colours (am_qz r N P I2) 0 [.ref 0, .int a1] [] N P I 0 0
  unfold F_X11_colours_0 at hF
  refine g_iload_n (pc := 0) dX11_colours_0 rfl rfl ?_
  refine g_iconst (pc := 1) (v := (2 : Int32)) dX11_colours_1 rfl ?_
  refine g_icmp_lt (pc := 2) (tgt := 10) dX11_colours_2 rfl (fun c_1 => ?_) (fun c_1 => ?_)
  · replace hF := am_yes c_1 hF
    refine g_iconst (pc := 10) (v := (0 : Int32)) dX11_colours_10 rfl ?_
    cases hF
    exact g_zret (pc := 11) rfl (Or.inl rfl) (Nat.le_refl _) (Nat.le_refl _) dX11_colours_11 ⟨(Or.inl rfl), rfl, rfl, rfl, rfl⟩
  · replace hF := am_no c_1 hF
    refine g_iload_n (pc := 5) dX11_colours_5 rfl rfl ?_
    refine g_iconst (pc := 6) (v := (4 : Int32)) dX11_colours_6 rfl ?_
    refine g_icmp_le (pc := 7) (tgt := 12) dX11_colours_7 rfl (fun c_2 => ?_) (fun c_2 => ?_)
    · replace hF := am_yes c_2 hF
      refine g_aload_n (pc := 12) dX11_colours_12 rfl rfl ?_
      refine g_getR (pc := 13) (k := 0) (r := 1) kf_X11_12.r rfl rfl (hPl.get (by decide) rfl) (hPl.lt (by decide)) dX11_colours_13 ?_
      refine g_iload_n (pc := 16) dX11_colours_16 rfl rfl ?_
      obtain ⟨I_4, h_3, hF⟩ := am_b1_el hF
      refine g_cVv (pc := 17) (k := 1) (As := [.int a1]) (st := []) ky_X9_clear kl_X11_89 (s_X9_clear_1 (d := 3) (hPl) (Nat.le_refl _) h_3) rfl rfl rfl (hPl.lt (by decide)) (Nat.le_trans (by decide) hd) (Nat.le_of_ble_eq_true rfl) (Nat.le_refl _) (Nat.le_refl _) dX11_colours_17 ?_
      refine g_iconst (pc := 20) (v := (1 : Int32)) dX11_colours_20 rfl ?_
      cases hF
      exact g_zret (pc := 21) rfl (Or.inr rfl) (Nat.le_refl _) (Nat.le_refl _) dX11_colours_21 ⟨(Or.inr rfl), rfl, rfl, rfl, rfl⟩
    · replace hF := am_no c_2 hF
      refine g_iconst (pc := 10) (v := (0 : Int32)) dX11_colours_10 rfl ?_
      cases hF
      exact g_zret (pc := 11) rfl (Or.inl rfl) (Nat.le_refl _) (Nat.le_refl _) dX11_colours_11 ⟨(Or.inl rfl), rfl, rfl, rfl, rfl⟩
def F_X9_hasColour_1 (I : am_IT) (a1 : Int32) : Option (Int32) := if a1 < 0 then (some (0 : Int32)) else (if (I 1 0) ≤ a1 then (some (0 : Int32)) else (some (1 : Int32)))
set_option maxRecDepth 100000 in
set_option maxHeartbeats 4000000 in
theorem s_X9_hasColour_1 {l : Launch} {d N : Nat} {P : am_PT} (hPl : am_Pl 94 N P) (hd : 1 ≤ d) {I : am_IT} {a1 : Int32} {r : Int32} (hF : F_X9_hasColour_1 I a1 = some (r)) : am_C l d 0 0 mX9_hasColour [.ref 1, .int a1] N P I (am_qz r N P I) := by
  refine am_body (sc := am_sc0) (n := 0) (by decide +kernel) (by decide) rfl ?_
  change G am_sc0 l d 0 0 mX9_hasColour (am_qz r N P I) 0 [.ref 1, .int a1] [] N P I 0 0
  unfold F_X9_hasColour_1 at hF
  refine g_iload_n (pc := 0) dX9_hasColour_0 rfl rfl ?_
  refine g_if_lt (pc := 1) (tgt := 16) dX9_hasColour_1 rfl (fun c_1 => ?_) (fun c_1 => ?_)
  · replace hF := am_yes c_1 hF
    refine g_iconst (pc := 16) (v := (0 : Int32)) dX9_hasColour_16 rfl ?_
    cases hF
    exact g_zret (pc := 17) rfl (Or.inl rfl) (Nat.le_refl _) (Nat.le_refl _) dX9_hasColour_17 ⟨(Or.inl rfl), rfl, rfl, rfl, rfl⟩
  · replace hF := am_no c_1 hF
    refine g_iload_n (pc := 4) dX9_hasColour_4 rfl rfl ?_
    refine g_aload_n (pc := 5) dX9_hasColour_5 rfl rfl ?_
    refine g_getI (pc := 6) (k := 1) kf_X9_9.r rfl rfl (hPl.lt (by decide)) dX9_hasColour_6 ?_
    refine g_icmp_ge (pc := 9) (tgt := 16) dX9_hasColour_9 rfl (fun c_2 => ?_) (fun c_2 => ?_)
    · replace hF := am_yes c_2 hF
      refine g_iconst (pc := 16) (v := (0 : Int32)) dX9_hasColour_16 rfl ?_
      cases hF
      exact g_zret (pc := 17) rfl (Or.inl rfl) (Nat.le_refl _) (Nat.le_refl _) dX9_hasColour_17 ⟨(Or.inl rfl), rfl, rfl, rfl, rfl⟩
    · replace hF := am_no c_2 hF
      refine g_iconst (pc := 12) (v := (1 : Int32)) dX9_hasColour_12 rfl ?_
      refine g_goto (pc := 13) (tgt := 17) dX9_hasColour_13 rfl ?_
      cases hF
      exact g_zret (pc := 17) rfl (Or.inr rfl) (Nat.le_refl _) (Nat.le_refl _) dX9_hasColour_17 ⟨(Or.inr rfl), rfl, rfl, rfl, rfl⟩
def F_X11_isWithin (I : am_IT) (a1 : Int32) (a2 : Int32) (a3 : Int32) : Option (Int32) := if a1 < a2 then (some (0 : Int32)) else (if a3 < a1 then (some (0 : Int32)) else (some (1 : Int32)))
set_option maxRecDepth 100000 in
set_option maxHeartbeats 4000000 in
theorem s_X11_isWithin {l : Launch} {d N : Nat} {P : am_PT} (hPl : am_Pl 94 N P) (hd : 1 ≤ d) {I : am_IT} {a1 : Int32} {a2 : Int32} {a3 : Int32} {r : Int32} (hF : F_X11_isWithin I a1 a2 a3 = some (r)) : am_C l d 0 0 mX11_isWithin [.int a1, .int a2, .int a3] N P I (am_qz r N P I) := by
  refine am_body (sc := am_sc0) (n := 0) (by decide +kernel) (by decide) rfl ?_
  change G am_sc0 l d 0 0 mX11_isWithin (am_qz r N P I) 0 [.int a1, .int a2, .int a3] [] N P I 0 0
  unfold F_X11_isWithin at hF
  refine g_iload_n (pc := 0) dX11_isWithin_0 rfl rfl ?_
  refine g_iload_n (pc := 1) dX11_isWithin_1 rfl rfl ?_
  refine g_icmp_lt (pc := 2) (tgt := 14) dX11_isWithin_2 rfl (fun c_1 => ?_) (fun c_1 => ?_)
  · replace hF := am_yes c_1 hF
    refine g_iconst (pc := 14) (v := (0 : Int32)) dX11_isWithin_14 rfl ?_
    cases hF
    exact g_zret (pc := 15) rfl (Or.inl rfl) (Nat.le_refl _) (Nat.le_refl _) dX11_isWithin_15 ⟨(Or.inl rfl), rfl, rfl, rfl, rfl⟩
  · replace hF := am_no c_1 hF
    refine g_iload_n (pc := 5) dX11_isWithin_5 rfl rfl ?_
    refine g_iload_n (pc := 6) dX11_isWithin_6 rfl rfl ?_
    refine g_icmp_gt (pc := 7) (tgt := 14) dX11_isWithin_7 rfl (fun c_2 => ?_) (fun c_2 => ?_)
    · replace hF := am_yes c_2 hF
      refine g_iconst (pc := 14) (v := (0 : Int32)) dX11_isWithin_14 rfl ?_
      cases hF
      exact g_zret (pc := 15) rfl (Or.inl rfl) (Nat.le_refl _) (Nat.le_refl _) dX11_isWithin_15 ⟨(Or.inl rfl), rfl, rfl, rfl, rfl⟩
    · replace hF := am_no c_2 hF
      refine g_iconst (pc := 10) (v := (1 : Int32)) dX11_isWithin_10 rfl ?_
      refine g_goto (pc := 11) (tgt := 15) dX11_isWithin_11 rfl ?_
      cases hF
      exact g_zret (pc := 15) rfl (Or.inr rfl) (Nat.le_refl _) (Nat.le_refl _) dX11_isWithin_15 ⟨(Or.inr rfl), rfl, rfl, rfl, rfl⟩
def F_X11_pot_0 (I : am_IT) (a1 : Int32) (a2 : Int32) : Option (Int32 × am_IT) := am_b1 (F_X9_hasColour_1 I a1) (fun (r_2 : Int32) => if r_2 = 0 then (some ((0 : Int32), I)) else (am_b1 (F_X11_isWithin I a2 (0 : Int32) (999 : Int32)) (fun (r_6 : Int32) => if r_6 = 0 then (some ((0 : Int32), I)) else (if am_ix a1 4 = true then (am_let (up2 I 2 a1.toNatClampNeg a2) (fun (I_10 : am_IT) => some ((1 : Int32), I_10))) else none))))
set_option maxRecDepth 100000 in
set_option maxHeartbeats 4000000 in
theorem s_X11_pot_0 {l : Launch} {d N : Nat} {P : am_PT} (hPl : am_Pl 94 N P) (hd : 2 ≤ d) {I : am_IT} {a1 : Int32} {a2 : Int32} {r : Int32} {I2 : am_IT} (hF : F_X11_pot_0 I a1 a2 = some (r, I2)) : am_C l d 0 0 mX11_pot [.ref 0, .int a1, .int a2] N P I (am_qz r N P I2) := by
  refine am_body (sc := am_sc0) (n := 0) (by decide +kernel) (by decide) rfl ?_
  change G am_sc0 l d 0 0 mX11_pot (am_qz r N P I2) 0 [.ref 0, .int a1, .int a2] [] N P I 0 0
  unfold F_X11_pot_0 at hF
  refine g_aload_n (pc := 0) dX11_pot_0 rfl rfl ?_
  refine g_getR (pc := 1) (k := 0) (r := 1) kf_X11_12.r rfl rfl (hPl.get (by decide) rfl) (hPl.lt (by decide)) dX11_pot_1 ?_
  refine g_iload_n (pc := 4) dX11_pot_4 rfl rfl ?_
  obtain ⟨r_2, h_1, hF⟩ := am_b1_el hF
  refine g_cVz (pc := 5) (k := 1) (As := [.int a1]) (st := []) ky_X9_hasColour kl_X11_93 (s_X9_hasColour_1 (d := 1) (hPl) (Nat.le_refl _) h_1) rfl rfl rfl (hPl.lt (by decide)) (Nat.le_trans (by decide) hd) (Nat.le_of_ble_eq_true rfl) (Nat.le_refl _) (Nat.le_refl _) dX11_pot_5 ?_
  intro z_3
  refine g_if_eq (pc := 8) (tgt := 22) dX11_pot_8 rfl (fun c_4 => ?_) (fun c_4 => ?_)
  · replace hF := am_yes c_4 hF
    refine g_iconst (pc := 22) (v := (0 : Int32)) dX11_pot_22 rfl ?_
    cases hF
    exact g_zret (pc := 23) rfl (Or.inl rfl) (Nat.le_refl _) (Nat.le_refl _) dX11_pot_23 ⟨(Or.inl rfl), rfl, rfl, rfl, rfl⟩
  · replace hF := am_no c_4 hF
    refine g_iload_n (pc := 11) dX11_pot_11 rfl rfl ?_
    refine g_iconst (pc := 12) (v := (0 : Int32)) dX11_pot_12 rfl ?_
    refine g_sipush (pc := 13) (v := (999 : Int32)) dX11_pot_13 rfl ?_
    obtain ⟨r_6, h_5, hF⟩ := am_b1_el hF
    refine g_cSz (pc := 16) (As := [.int a2, .int (0 : Int32), .int (999 : Int32)]) (st := []) ky_X11_isWithin kl_X11_97 (s_X11_isWithin (d := 1) (hPl) (Nat.le_refl _) h_5) rfl rfl (Nat.le_trans (by decide) hd) (Nat.le_of_ble_eq_true rfl) (Nat.le_refl _) (Nat.le_refl _) dX11_pot_16 ?_
    intro z_7
    refine g_if_ne (pc := 19) (tgt := 24) dX11_pot_19 rfl (fun c_8 => ?_) (fun c_8 => ?_)
    · replace hF := am_no c_8 hF
      refine g_aload_n (pc := 24) dX11_pot_24 rfl rfl ?_
      refine g_getR (pc := 25) (k := 0) (r := 1) kf_X11_12.r rfl rfl (hPl.get (by decide) rfl) (hPl.lt (by decide)) dX11_pot_25 ?_
      refine g_getR (pc := 28) (k := 1) (r := 2) kf_X11_101 rfl rfl (hPl.get (by decide) rfl) (hPl.lt (by decide)) dX11_pot_28 ?_
      refine g_iload_n (pc := 31) dX11_pot_31 rfl rfl ?_
      refine g_iload_n (pc := 32) dX11_pot_32 rfl rfl ?_
      obtain ⟨c_9, hF⟩ := am_gd hF
      obtain ⟨I_10, e_I_10, hF⟩ := am_let_el hF
      refine n_iast (pc := 33) (k := 2) e_I_10 rfl (hPl.lt (by decide)) (am_ix_use c_9) dX11_pot_33 ?_
      refine g_iconst (pc := 34) (v := (1 : Int32)) dX11_pot_34 rfl ?_
      cases hF
      exact g_zret (pc := 35) rfl (Or.inr rfl) (Nat.le_refl _) (Nat.le_refl _) dX11_pot_35 ⟨(Or.inr rfl), rfl, rfl, rfl, rfl⟩
    · replace hF := am_yes c_8 hF
      refine g_iconst (pc := 22) (v := (0 : Int32)) dX11_pot_22 rfl ?_
      cases hF
      exact g_zret (pc := 23) rfl (Or.inl rfl) (Nat.le_refl _) (Nat.le_refl _) dX11_pot_23 ⟨(Or.inl rfl), rfl, rfl, rfl, rfl⟩
def F_X11_wall_0 (I : am_IT) (a1 : Int32) : Option (Int32 × am_IT) := am_b1 (F_X9_hasColour_1 I a1) (fun (r_2 : Int32) => if r_2 = 0 then (some ((-1 : Int32), I)) else (if (I 1 3) < (7 : Int32) then (if am_ix (I 1 3) 7 = true then (am_let (up2 I 3 (I 1 3).toNatClampNeg a1) (fun (I_7 : am_IT) => am_let (up2 I_7 1 3 ((I_7 1 3) + (1 : Int32))) (fun (I_8 : am_IT) => some ((I_8 1 3) - (1 : Int32), I_8)))) else none) else (some ((-1 : Int32), I))))
set_option maxRecDepth 100000 in
set_option maxHeartbeats 4000000 in
theorem s_X11_wall_0 {l : Launch} {d N : Nat} {P : am_PT} (hPl : am_Pl 94 N P) (hd : 2 ≤ d) {I : am_IT} {a1 : Int32} {r : Int32} {I2 : am_IT} (hF : F_X11_wall_0 I a1 = some (r, I2)) : am_C l d 0 0 mX11_wall [.ref 0, .int a1] N P I (am_qi r N P I2) := by
  refine am_body (sc := am_sc0) (n := 0) (by decide +kernel) (by decide) rfl ?_
  change G am_sc0 l d 0 0 mX11_wall (am_qi r N P I2) 0 [.ref 0, .int a1] [] N P I 0 0
  unfold F_X11_wall_0 at hF
  refine g_aload_n (pc := 0) dX11_wall_0 rfl rfl ?_
  refine g_getR (pc := 1) (k := 0) (r := 1) kf_X11_12.r rfl rfl (hPl.get (by decide) rfl) (hPl.lt (by decide)) dX11_wall_1 ?_
  refine g_iload_n (pc := 4) dX11_wall_4 rfl rfl ?_
  obtain ⟨r_2, h_1, hF⟩ := am_b1_el hF
  refine g_cVz (pc := 5) (k := 1) (As := [.int a1]) (st := []) ky_X9_hasColour kl_X11_93 (s_X9_hasColour_1 (d := 1) (hPl) (Nat.le_refl _) h_1) rfl rfl rfl (hPl.lt (by decide)) (Nat.le_trans (by decide) hd) (Nat.le_of_ble_eq_true rfl) (Nat.le_refl _) (Nat.le_refl _) dX11_wall_5 ?_
  intro z_3
  refine g_if_eq (pc := 8) (tgt := 23) dX11_wall_8 rfl (fun c_4 => ?_) (fun c_4 => ?_)
  · replace hF := am_yes c_4 hF
    refine g_iconst (pc := 23) (v := (-1 : Int32)) dX11_wall_23 (by decide) ?_
    cases hF
    exact g_iret (pc := 24) rfl (Nat.le_refl _) (Nat.le_refl _) dX11_wall_24 ⟨rfl, rfl, rfl, rfl⟩
  · replace hF := am_no c_4 hF
    refine g_aload_n (pc := 11) dX11_wall_11 rfl rfl ?_
    refine g_getR (pc := 12) (k := 0) (r := 1) kf_X11_12.r rfl rfl (hPl.get (by decide) rfl) (hPl.lt (by decide)) dX11_wall_12 ?_
    refine g_getI (pc := 15) (k := 1) kf_X11_104.r rfl rfl (hPl.lt (by decide)) dX11_wall_15 ?_
    refine g_bipush (pc := 18) (v := (7 : Int32)) dX11_wall_18 rfl ?_
    refine g_icmp_lt (pc := 20) (tgt := 25) dX11_wall_20 rfl (fun c_5 => ?_) (fun c_5 => ?_)
    · replace hF := am_yes c_5 hF
      refine g_aload_n (pc := 25) dX11_wall_25 rfl rfl ?_
      refine g_getR (pc := 26) (k := 0) (r := 1) kf_X11_12.r rfl rfl (hPl.get (by decide) rfl) (hPl.lt (by decide)) dX11_wall_26 ?_
      refine g_getR (pc := 29) (k := 1) (r := 3) kf_X11_107 rfl rfl (hPl.get (by decide) rfl) (hPl.lt (by decide)) dX11_wall_29 ?_
      refine g_aload_n (pc := 32) dX11_wall_32 rfl rfl ?_
      refine g_getR (pc := 33) (k := 0) (r := 1) kf_X11_12.r rfl rfl (hPl.get (by decide) rfl) (hPl.lt (by decide)) dX11_wall_33 ?_
      refine g_getI (pc := 36) (k := 1) kf_X11_104.r rfl rfl (hPl.lt (by decide)) dX11_wall_36 ?_
      refine g_iload_n (pc := 39) dX11_wall_39 rfl rfl ?_
      obtain ⟨c_6, hF⟩ := am_gd hF
      obtain ⟨I_7, e_I_7, hF⟩ := am_let_el hF
      refine n_iast (pc := 40) (k := 3) e_I_7 rfl (hPl.lt (by decide)) (am_ix_use c_6) dX11_wall_40 ?_
      refine g_aload_n (pc := 41) dX11_wall_41 rfl rfl ?_
      refine g_getR (pc := 42) (k := 0) (r := 1) kf_X11_12.r rfl rfl (hPl.get (by decide) rfl) (hPl.lt (by decide)) dX11_wall_42 ?_
      refine g_dup (pc := 45) dX11_wall_45 ?_
      refine g_getI (pc := 46) (k := 1) kf_X11_104.r rfl rfl (hPl.lt (by decide)) dX11_wall_46 ?_
      refine g_iconst (pc := 49) (v := (1 : Int32)) dX11_wall_49 rfl ?_
      refine g_iadd (pc := 50) dX11_wall_50 ?_
      obtain ⟨I_8, e_I_8, hF⟩ := am_let_el hF
      refine n_putI (pc := 51) (k := 1) e_I_8 kf_X11_104 rfl rfl (hPl.lt (by decide)) dX11_wall_51 ?_
      refine g_aload_n (pc := 54) dX11_wall_54 rfl rfl ?_
      refine g_getR (pc := 55) (k := 0) (r := 1) kf_X11_12.r rfl rfl (hPl.get (by decide) rfl) (hPl.lt (by decide)) dX11_wall_55 ?_
      refine g_getI (pc := 58) (k := 1) kf_X11_104.r rfl rfl (hPl.lt (by decide)) dX11_wall_58 ?_
      refine g_iconst (pc := 61) (v := (1 : Int32)) dX11_wall_61 rfl ?_
      refine g_isub (pc := 62) dX11_wall_62 ?_
      cases hF
      exact g_iret (pc := 63) rfl (Nat.le_refl _) (Nat.le_refl _) dX11_wall_63 ⟨rfl, rfl, rfl, rfl⟩
    · replace hF := am_no c_5 hF
      refine g_iconst (pc := 23) (v := (-1 : Int32)) dX11_wall_23 (by decide) ?_
      cases hF
      exact g_iret (pc := 24) rfl (Nat.le_refl _) (Nat.le_refl _) dX11_wall_24 ⟨rfl, rfl, rfl, rfl⟩
def F_X11_isHouse (I : am_IT) (a1 : Int32) : Option (Int32) := am_b1 (F_X11_isWithin I a1 (0 : Int32) (7 : Int32)) (fun (r_2 : Int32) => some r_2)
set_option maxRecDepth 100000 in
set_option maxHeartbeats 4000000 in
theorem s_X11_isHouse {l : Launch} {d N : Nat} {P : am_PT} (hPl : am_Pl 94 N P) (hd : 2 ≤ d) {I : am_IT} {a1 : Int32} {r : Int32} (hF : F_X11_isHouse I a1 = some (r)) : am_C l d 0 0 mX11_isHouse [.int a1] N P I (am_qz r N P I) := by
  refine am_body (sc := am_sc0) (n := 0) (by decide +kernel) (by decide) rfl ?_
  change G am_sc0 l d 0 0 mX11_isHouse (am_qz r N P I) 0 [.int a1] [] N P I 0 0
  unfold F_X11_isHouse at hF
  refine g_iload_n (pc := 0) dX11_isHouse_0 rfl rfl ?_
  refine g_iconst (pc := 1) (v := (0 : Int32)) dX11_isHouse_1 rfl ?_
  refine g_bipush (pc := 2) (v := (7 : Int32)) dX11_isHouse_2 rfl ?_
  obtain ⟨r_2, h_1, hF⟩ := am_b1_el hF
  refine g_cSz (pc := 4) (As := [.int a1, .int (0 : Int32), .int (7 : Int32)]) (st := []) ky_X11_isWithin kl_X11_97 (s_X11_isWithin (d := 1) (hPl) (Nat.le_refl _) h_1) rfl rfl (Nat.le_trans (by decide) hd) (Nat.le_of_ble_eq_true rfl) (Nat.le_refl _) (Nat.le_refl _) dX11_isHouse_4 ?_
  intro z_3
  cases hF
  exact g_zret (pc := 7) rfl z_3 (Nat.le_refl _) (Nat.le_refl _) dX11_isHouse_7 ⟨z_3, rfl, rfl, rfl, rfl⟩
def F_X9_livingIn_1 (I : am_IT) (a1 : Int32) : Option (Int32) := am_lr (am_it am_fu (fun (l2_1 : Int32) => if (I 1 4) ≤ l2_1 then (some (.inr (.inl ((0 : Int32))))) else (if am_ix l2_1 7 = true then (if (I 4 l2_1.toNatClampNeg) = a1 then (some (.inr (.inr l2_1))) else (am_let (l2_1 + (1 : Int32)) (fun (l2_11 : Int32) => some (.inl (l2_11))))) else none)) (0 : Int32)) (fun (u_2 : Int32) => some (-1 : Int32))
set_option maxRecDepth 100000 in
set_option maxHeartbeats 4000000 in
theorem s_X9_livingIn_1 {l : Launch} {d N : Nat} {P : am_PT} (hPl : am_Pl 94 N P) (hd : 1 ≤ d) {I : am_IT} {a1 : Int32} {r : Int32} (hF : F_X9_livingIn_1 I a1 = some (r)) : am_C l d 0 0 mX9_livingIn [.ref 1, .int a1] N P I (am_qi r N P I) := by
  refine am_body (sc := am_sc0) (n := 1) (by decide +kernel) (by decide) rfl ?_
  change G am_sc0 l d 0 0 mX9_livingIn (am_qi r N P I) 0 [.ref 1, .int a1, .null] [] N P I 0 0
  unfold F_X9_livingIn_1 at hF
  refine g_iconst (pc := 0) (v := (0 : Int32)) dX9_livingIn_0 rfl ?_
  refine n_istore_n (pc := 1) (ls2 := [.ref 1, .int a1, .int (0 : Int32)]) rfl rfl dX9_livingIn_1 rfl (Nat.le_of_ble_eq_true rfl) ?_
  obtain ⟨x_13, hL_6, hF⟩ := am_lr_el hF
  have hX_3 : ∀ (u_2 : Int32), x_13 = .inl u_2 → G am_sc0 l d 0 0 mX9_livingIn (am_qi r N P I) 28 [.ref 1, .int a1, .null] [] N P I 0 0 := by
    intro u_2 q
    subst q
    refine g_iconst (pc := 28) (v := (-1 : Int32)) dX9_livingIn_28 (by decide) ?_
    cases hF
    exact g_iret (pc := 29) rfl (Nat.le_refl _) (Nat.le_refl _) dX9_livingIn_29 ⟨rfl, rfl, rfl, rfl⟩
  have hZ_7 : ∀ y, x_13 = .inr y → y = _ := fun y q => by subst q; exact hF
  clear hF
  have hC := am_loop (C := fun x => G am_sc0 l d 0 0 mX9_livingIn (am_qi r N P I) 2 [.ref 1, .int a1, .int x] [] N P I 0 0) (by
    intro l2_1 rr hF ih_4 hE_5
    refine g_iload_n (pc := 2) dX9_livingIn_2 rfl rfl ?_
    refine g_aload_n (pc := 3) dX9_livingIn_3 rfl rfl ?_
    refine g_getI (pc := 4) (k := 1) kf_X9_24.r rfl rfl (hPl.lt (by decide)) dX9_livingIn_4 ?_
    refine g_icmp_ge (pc := 7) (tgt := 28) dX9_livingIn_7 rfl (fun c_8 => ?_) (fun c_8 => ?_)
    · replace hF := am_yes c_8 hF
      cases hF
      exact g_weak (hX_3 _ (hE_5 _ rfl).symm) ⟨Or.inr rfl, Or.inr rfl, Or.inl rfl, trivial⟩
    · replace hF := am_no c_8 hF
      refine g_aload_n (pc := 10) dX9_livingIn_10 rfl rfl ?_
      refine g_getR (pc := 11) (k := 1) (r := 4) kf_X9_37.r rfl rfl (hPl.get (by decide) rfl) (hPl.lt (by decide)) dX9_livingIn_11 ?_
      refine g_iload_n (pc := 14) dX9_livingIn_14 rfl rfl ?_
      obtain ⟨c_9, hF⟩ := am_gd hF
      refine g_iald (pc := 15) (k := 4) rfl (hPl.lt (by decide)) (am_ix_use c_9) dX9_livingIn_15 ?_
      refine g_iload_n (pc := 16) dX9_livingIn_16 rfl rfl ?_
      refine g_icmp_ne (pc := 17) (tgt := 22) dX9_livingIn_17 rfl (fun c_10 => ?_) (fun c_10 => ?_)
      · replace hF := am_no c_10 hF
        obtain ⟨l2_11, e_l2_11, hF⟩ := am_let_el hF
        refine n_iinc (pc := 22) (ls2 := [.ref 1, .int a1, .int l2_11]) e_l2_11 rfl rfl rfl dX9_livingIn_22 (Nat.le_of_ble_eq_true rfl) ?_
        refine g_goto (pc := 25) (tgt := 2) dX9_livingIn_25 rfl ?_
        cases hF
        exact ih_4 (l2_11) rfl
      · replace hF := am_yes c_10 hF
        refine g_iload_n (pc := 20) dX9_livingIn_20 rfl rfl ?_
        cases hF
        have q_12 := hZ_7 _ (hE_5 _ rfl).symm
        cases q_12
        exact g_iret (pc := 21) rfl (Nat.le_refl _) (Nat.le_refl _) dX9_livingIn_21 ⟨rfl, rfl, rfl, rfl⟩
    ) _ _ hL_6
  exact hC
def F_X11_person_0 (I : am_IT) (a1 : Int32) : Option (Int32 × am_IT) := am_b1 (F_X11_isHouse I a1) (fun (r_2 : Int32) => if r_2 = 0 then (some ((-1 : Int32), I)) else (if (7 : Int32) ≤ (I 1 4) then (some ((-1 : Int32), I)) else (am_b1 (F_X9_livingIn_1 I a1) (fun (r_7 : Int32) => if r_7 = (-1 : Int32) then (if am_ix (I 1 4) 7 = true then (am_let (up2 I 4 (I 1 4).toNatClampNeg a1) (fun (I_10 : am_IT) => am_let (up2 I_10 1 4 ((I_10 1 4) + (1 : Int32))) (fun (I_11 : am_IT) => some ((I_11 1 4) - (1 : Int32), I_11)))) else none) else (some ((-1 : Int32), I))))))
set_option maxRecDepth 100000 in
set_option maxHeartbeats 4000000 in
theorem s_X11_person_0 {l : Launch} {d N : Nat} {P : am_PT} (hPl : am_Pl 94 N P) (hd : 3 ≤ d) {I : am_IT} {a1 : Int32} {r : Int32} {I2 : am_IT} (hF : F_X11_person_0 I a1 = some (r, I2)) : am_C l d 0 0 mX11_person [.ref 0, .int a1] N P I (am_qi r N P I2) := by
  refine am_body (sc := am_sc0) (n := 0) (by decide +kernel) (by decide) rfl ?_
  change G am_sc0 l d 0 0 mX11_person (am_qi r N P I2) 0 [.ref 0, .int a1] [] N P I 0 0
  unfold F_X11_person_0 at hF
  refine g_iload_n (pc := 0) dX11_person_0 rfl rfl ?_
  obtain ⟨r_2, h_1, hF⟩ := am_b1_el hF
  refine g_cSz (pc := 1) (As := [.int a1]) (st := []) ky_X11_isHouse kl_X11_110 (s_X11_isHouse (d := 2) (hPl) (Nat.le_refl _) h_1) rfl rfl (Nat.le_trans (by decide) hd) (Nat.le_of_ble_eq_true rfl) (Nat.le_refl _) (Nat.le_refl _) dX11_person_1 ?_
  intro z_3
  refine g_if_eq (pc := 4) (tgt := 31) dX11_person_4 rfl (fun c_4 => ?_) (fun c_4 => ?_)
  · replace hF := am_yes c_4 hF
    refine g_iconst (pc := 31) (v := (-1 : Int32)) dX11_person_31 (by decide) ?_
    cases hF
    exact g_iret (pc := 32) rfl (Nat.le_refl _) (Nat.le_refl _) dX11_person_32 ⟨rfl, rfl, rfl, rfl⟩
  · replace hF := am_no c_4 hF
    refine g_aload_n (pc := 7) dX11_person_7 rfl rfl ?_
    refine g_getR (pc := 8) (k := 0) (r := 1) kf_X11_12.r rfl rfl (hPl.get (by decide) rfl) (hPl.lt (by decide)) dX11_person_8 ?_
    refine g_getI (pc := 11) (k := 1) kf_X11_113.r rfl rfl (hPl.lt (by decide)) dX11_person_11 ?_
    refine g_bipush (pc := 14) (v := (7 : Int32)) dX11_person_14 rfl ?_
    refine g_icmp_ge (pc := 16) (tgt := 31) dX11_person_16 rfl (fun c_5 => ?_) (fun c_5 => ?_)
    · replace hF := am_yes c_5 hF
      refine g_iconst (pc := 31) (v := (-1 : Int32)) dX11_person_31 (by decide) ?_
      cases hF
      exact g_iret (pc := 32) rfl (Nat.le_refl _) (Nat.le_refl _) dX11_person_32 ⟨rfl, rfl, rfl, rfl⟩
    · replace hF := am_no c_5 hF
      refine g_aload_n (pc := 19) dX11_person_19 rfl rfl ?_
      refine g_getR (pc := 20) (k := 0) (r := 1) kf_X11_12.r rfl rfl (hPl.get (by decide) rfl) (hPl.lt (by decide)) dX11_person_20 ?_
      refine g_iload_n (pc := 23) dX11_person_23 rfl rfl ?_
      obtain ⟨r_7, h_6, hF⟩ := am_b1_el hF
      refine g_cVi (pc := 24) (k := 1) (As := [.int a1]) (st := []) ky_X9_livingIn kl_X11_116 (s_X9_livingIn_1 (d := 1) (hPl) (Nat.le_refl _) h_6) rfl rfl rfl (hPl.lt (by decide)) (Nat.le_trans (by decide) hd) (Nat.le_of_ble_eq_true rfl) (Nat.le_refl _) (Nat.le_refl _) dX11_person_24 ?_
      refine g_iconst (pc := 27) (v := (-1 : Int32)) dX11_person_27 (by decide) ?_
      refine g_icmp_eq (pc := 28) (tgt := 33) dX11_person_28 rfl (fun c_8 => ?_) (fun c_8 => ?_)
      · replace hF := am_yes c_8 hF
        refine g_aload_n (pc := 33) dX11_person_33 rfl rfl ?_
        refine g_getR (pc := 34) (k := 0) (r := 1) kf_X11_12.r rfl rfl (hPl.get (by decide) rfl) (hPl.lt (by decide)) dX11_person_34 ?_
        refine g_getR (pc := 37) (k := 1) (r := 4) kf_X11_120 rfl rfl (hPl.get (by decide) rfl) (hPl.lt (by decide)) dX11_person_37 ?_
        refine g_aload_n (pc := 40) dX11_person_40 rfl rfl ?_
        refine g_getR (pc := 41) (k := 0) (r := 1) kf_X11_12.r rfl rfl (hPl.get (by decide) rfl) (hPl.lt (by decide)) dX11_person_41 ?_
        refine g_getI (pc := 44) (k := 1) kf_X11_113.r rfl rfl (hPl.lt (by decide)) dX11_person_44 ?_
        refine g_iload_n (pc := 47) dX11_person_47 rfl rfl ?_
        obtain ⟨c_9, hF⟩ := am_gd hF
        obtain ⟨I_10, e_I_10, hF⟩ := am_let_el hF
        refine n_iast (pc := 48) (k := 4) e_I_10 rfl (hPl.lt (by decide)) (am_ix_use c_9) dX11_person_48 ?_
        refine g_aload_n (pc := 49) dX11_person_49 rfl rfl ?_
        refine g_getR (pc := 50) (k := 0) (r := 1) kf_X11_12.r rfl rfl (hPl.get (by decide) rfl) (hPl.lt (by decide)) dX11_person_50 ?_
        refine g_dup (pc := 53) dX11_person_53 ?_
        refine g_getI (pc := 54) (k := 1) kf_X11_113.r rfl rfl (hPl.lt (by decide)) dX11_person_54 ?_
        refine g_iconst (pc := 57) (v := (1 : Int32)) dX11_person_57 rfl ?_
        refine g_iadd (pc := 58) dX11_person_58 ?_
        obtain ⟨I_11, e_I_11, hF⟩ := am_let_el hF
        refine n_putI (pc := 59) (k := 1) e_I_11 kf_X11_113 rfl rfl (hPl.lt (by decide)) dX11_person_59 ?_
        refine g_aload_n (pc := 62) dX11_person_62 rfl rfl ?_
        refine g_getR (pc := 63) (k := 0) (r := 1) kf_X11_12.r rfl rfl (hPl.get (by decide) rfl) (hPl.lt (by decide)) dX11_person_63 ?_
        refine g_getI (pc := 66) (k := 1) kf_X11_113.r rfl rfl (hPl.lt (by decide)) dX11_person_66 ?_
        refine g_iconst (pc := 69) (v := (1 : Int32)) dX11_person_69 rfl ?_
        refine g_isub (pc := 70) dX11_person_70 ?_
        cases hF
        exact g_iret (pc := 71) rfl (Nat.le_refl _) (Nat.le_refl _) dX11_person_71 ⟨rfl, rfl, rfl, rfl⟩
      · replace hF := am_no c_8 hF
        refine g_iconst (pc := 31) (v := (-1 : Int32)) dX11_person_31 (by decide) ?_
        cases hF
        exact g_iret (pc := 32) rfl (Nat.le_refl _) (Nat.le_refl _) dX11_person_32 ⟨rfl, rfl, rfl, rfl⟩
def F_X9_hasPerson_1 (I : am_IT) (a1 : Int32) : Option (Int32) := if a1 < 0 then (some (0 : Int32)) else (if (I 1 4) ≤ a1 then (some (0 : Int32)) else (some (1 : Int32)))
set_option maxRecDepth 100000 in
set_option maxHeartbeats 4000000 in
theorem s_X9_hasPerson_1 {l : Launch} {d N : Nat} {P : am_PT} (hPl : am_Pl 94 N P) (hd : 1 ≤ d) {I : am_IT} {a1 : Int32} {r : Int32} (hF : F_X9_hasPerson_1 I a1 = some (r)) : am_C l d 0 0 mX9_hasPerson [.ref 1, .int a1] N P I (am_qz r N P I) := by
  refine am_body (sc := am_sc0) (n := 0) (by decide +kernel) (by decide) rfl ?_
  change G am_sc0 l d 0 0 mX9_hasPerson (am_qz r N P I) 0 [.ref 1, .int a1] [] N P I 0 0
  unfold F_X9_hasPerson_1 at hF
  refine g_iload_n (pc := 0) dX9_hasPerson_0 rfl rfl ?_
  refine g_if_lt (pc := 1) (tgt := 16) dX9_hasPerson_1 rfl (fun c_1 => ?_) (fun c_1 => ?_)
  · replace hF := am_yes c_1 hF
    refine g_iconst (pc := 16) (v := (0 : Int32)) dX9_hasPerson_16 rfl ?_
    cases hF
    exact g_zret (pc := 17) rfl (Or.inl rfl) (Nat.le_refl _) (Nat.le_refl _) dX9_hasPerson_17 ⟨(Or.inl rfl), rfl, rfl, rfl, rfl⟩
  · replace hF := am_no c_1 hF
    refine g_iload_n (pc := 4) dX9_hasPerson_4 rfl rfl ?_
    refine g_aload_n (pc := 5) dX9_hasPerson_5 rfl rfl ?_
    refine g_getI (pc := 6) (k := 1) kf_X9_24.r rfl rfl (hPl.lt (by decide)) dX9_hasPerson_6 ?_
    refine g_icmp_ge (pc := 9) (tgt := 16) dX9_hasPerson_9 rfl (fun c_2 => ?_) (fun c_2 => ?_)
    · replace hF := am_yes c_2 hF
      refine g_iconst (pc := 16) (v := (0 : Int32)) dX9_hasPerson_16 rfl ?_
      cases hF
      exact g_zret (pc := 17) rfl (Or.inl rfl) (Nat.le_refl _) (Nat.le_refl _) dX9_hasPerson_17 ⟨(Or.inl rfl), rfl, rfl, rfl, rfl⟩
    · replace hF := am_no c_2 hF
      refine g_iconst (pc := 12) (v := (1 : Int32)) dX9_hasPerson_12 rfl ?_
      refine g_goto (pc := 13) (tgt := 17) dX9_hasPerson_13 rfl ?_
      cases hF
      exact g_zret (pc := 17) rfl (Or.inr rfl) (Nat.le_refl _) (Nat.le_refl _) dX9_hasPerson_17 ⟨(Or.inr rfl), rfl, rfl, rfl, rfl⟩
def F_X11_move_0 (I : am_IT) (a1 : Int32) (a2 : Int32) : Option (Int32 × am_IT) := am_b1 (F_X9_hasPerson_1 I a1) (fun (r_2 : Int32) => if r_2 = 0 then (some ((0 : Int32), I)) else (am_b1 (F_X11_isHouse I a2) (fun (r_6 : Int32) => if r_6 = 0 then (some ((0 : Int32), I)) else (am_b1 (F_X9_livingIn_1 I a2) (fun (r_10 : Int32) => am_b1 (if r_10 = (-1 : Int32) then (some (I)) else (if am_ix a1 7 = true then (if am_ix r_10 7 = true then (am_let (up2 I 4 r_10.toNatClampNeg (I 4 a1.toNatClampNeg)) (fun (I_17 : am_IT) => some (I_17))) else none) else none)) (fun (I_12 : am_IT) => if am_ix a1 7 = true then (am_let (up2 I_12 4 a1.toNatClampNeg a2) (fun (I_19 : am_IT) => some ((1 : Int32), I_19))) else none))))))
set_option maxRecDepth 100000 in
set_option maxHeartbeats 4000000 in
theorem s_X11_move_0 {l : Launch} {d N : Nat} {P : am_PT} (hPl : am_Pl 94 N P) (hd : 3 ≤ d) {I : am_IT} {a1 : Int32} {a2 : Int32} {r : Int32} {I2 : am_IT} (hF : F_X11_move_0 I a1 a2 = some (r, I2)) : am_C l d 0 0 mX11_move [.ref 0, .int a1, .int a2] N P I (am_qz r N P I2) := by
  refine am_body (sc := am_sc0) (n := 1) (by decide +kernel) (by decide) rfl ?_
  change G am_sc0 l d 0 0 mX11_move (am_qz r N P I2) 0 [.ref 0, .int a1, .int a2, .null] [] N P I 0 0
  unfold F_X11_move_0 at hF
  refine g_aload_n (pc := 0) dX11_move_0 rfl rfl ?_
  refine g_getR (pc := 1) (k := 0) (r := 1) kf_X11_12.r rfl rfl (hPl.get (by decide) rfl) (hPl.lt (by decide)) dX11_move_1 ?_
  refine g_iload_n (pc := 4) dX11_move_4 rfl rfl ?_
  obtain ⟨r_2, h_1, hF⟩ := am_b1_el hF
  refine g_cVz (pc := 5) (k := 1) (As := [.int a1]) (st := []) ky_X9_hasPerson kl_X11_123 (s_X9_hasPerson_1 (d := 1) (hPl) (Nat.le_refl _) h_1) rfl rfl rfl (hPl.lt (by decide)) (Nat.le_trans (by decide) hd) (Nat.le_of_ble_eq_true rfl) (Nat.le_refl _) (Nat.le_refl _) dX11_move_5 ?_
  intro z_3
  refine g_if_eq (pc := 8) (tgt := 18) dX11_move_8 rfl (fun c_4 => ?_) (fun c_4 => ?_)
  · replace hF := am_yes c_4 hF
    refine g_iconst (pc := 18) (v := (0 : Int32)) dX11_move_18 rfl ?_
    cases hF
    exact g_zret (pc := 19) rfl (Or.inl rfl) (Nat.le_refl _) (Nat.le_refl _) dX11_move_19 ⟨(Or.inl rfl), rfl, rfl, rfl, rfl⟩
  · replace hF := am_no c_4 hF
    refine g_iload_n (pc := 11) dX11_move_11 rfl rfl ?_
    obtain ⟨r_6, h_5, hF⟩ := am_b1_el hF
    refine g_cSz (pc := 12) (As := [.int a2]) (st := []) ky_X11_isHouse kl_X11_110 (s_X11_isHouse (d := 2) (hPl) (Nat.le_refl _) h_5) rfl rfl (Nat.le_trans (by decide) hd) (Nat.le_of_ble_eq_true rfl) (Nat.le_refl _) (Nat.le_refl _) dX11_move_12 ?_
    intro z_7
    refine g_if_ne (pc := 15) (tgt := 20) dX11_move_15 rfl (fun c_8 => ?_) (fun c_8 => ?_)
    · replace hF := am_no c_8 hF
      refine g_aload_n (pc := 20) dX11_move_20 rfl rfl ?_
      refine g_getR (pc := 21) (k := 0) (r := 1) kf_X11_12.r rfl rfl (hPl.get (by decide) rfl) (hPl.lt (by decide)) dX11_move_21 ?_
      refine g_iload_n (pc := 24) dX11_move_24 rfl rfl ?_
      obtain ⟨r_10, h_9, hF⟩ := am_b1_el hF
      refine g_cVi (pc := 25) (k := 1) (As := [.int a2]) (st := []) ky_X9_livingIn kl_X11_116 (s_X9_livingIn_1 (d := 1) (hPl) (Nat.le_refl _) h_9) rfl rfl rfl (hPl.lt (by decide)) (Nat.le_trans (by decide) hd) (Nat.le_of_ble_eq_true rfl) (Nat.le_refl _) (Nat.le_refl _) dX11_move_25 ?_
      refine n_istore_n (pc := 28) (ls2 := [.ref 0, .int a1, .int a2, .int r_10]) rfl rfl dX11_move_28 rfl (Nat.le_of_ble_eq_true rfl) ?_
      refine g_iload_n (pc := 29) dX11_move_29 rfl rfl ?_
      refine g_iconst (pc := 30) (v := (-1 : Int32)) dX11_move_30 (by decide) ?_
      obtain ⟨I_12, hR_13, hF⟩ := am_b1_el hF
      have hJ_14 : G am_sc0 l d 0 0 mX11_move (am_qz r N P I2) 52 [.ref 0, .int a1, .int a2, .int r_10] [] N P I_12 0 0 := by
        refine g_aload_n (pc := 52) dX11_move_52 rfl rfl ?_
        refine g_getR (pc := 53) (k := 0) (r := 1) kf_X11_12.r rfl rfl (hPl.get (by decide) rfl) (hPl.lt (by decide)) dX11_move_53 ?_
        refine g_getR (pc := 56) (k := 1) (r := 4) kf_X11_120 rfl rfl (hPl.get (by decide) rfl) (hPl.lt (by decide)) dX11_move_56 ?_
        refine g_iload_n (pc := 59) dX11_move_59 rfl rfl ?_
        refine g_iload_n (pc := 60) dX11_move_60 rfl rfl ?_
        obtain ⟨c_18, hF⟩ := am_gd hF
        obtain ⟨I_19, e_I_19, hF⟩ := am_let_el hF
        refine n_iast (pc := 61) (k := 4) e_I_19 rfl (hPl.lt (by decide)) (am_ix_use c_18) dX11_move_61 ?_
        refine g_iconst (pc := 62) (v := (1 : Int32)) dX11_move_62 rfl ?_
        cases hF
        exact g_zret (pc := 63) rfl (Or.inr rfl) (Nat.le_refl _) (Nat.le_refl _) dX11_move_63 ⟨(Or.inr rfl), rfl, rfl, rfl, rfl⟩
      clear hF
      have hF := hR_13
      clear hR_13
      refine g_icmp_eq (pc := 31) (tgt := 52) dX11_move_31 rfl (fun c_11 => ?_) (fun c_11 => ?_)
      · replace hF := am_yes c_11 hF
        cases hF
        exact hJ_14
      · replace hF := am_no c_11 hF
        refine g_aload_n (pc := 34) dX11_move_34 rfl rfl ?_
        refine g_getR (pc := 35) (k := 0) (r := 1) kf_X11_12.r rfl rfl (hPl.get (by decide) rfl) (hPl.lt (by decide)) dX11_move_35 ?_
        refine g_getR (pc := 38) (k := 1) (r := 4) kf_X11_120 rfl rfl (hPl.get (by decide) rfl) (hPl.lt (by decide)) dX11_move_38 ?_
        refine g_iload_n (pc := 41) dX11_move_41 rfl rfl ?_
        refine g_aload_n (pc := 42) dX11_move_42 rfl rfl ?_
        refine g_getR (pc := 43) (k := 0) (r := 1) kf_X11_12.r rfl rfl (hPl.get (by decide) rfl) (hPl.lt (by decide)) dX11_move_43 ?_
        refine g_getR (pc := 46) (k := 1) (r := 4) kf_X11_120 rfl rfl (hPl.get (by decide) rfl) (hPl.lt (by decide)) dX11_move_46 ?_
        refine g_iload_n (pc := 49) dX11_move_49 rfl rfl ?_
        obtain ⟨c_15, hF⟩ := am_gd hF
        refine g_iald (pc := 50) (k := 4) rfl (hPl.lt (by decide)) (am_ix_use c_15) dX11_move_50 ?_
        obtain ⟨c_16, hF⟩ := am_gd hF
        obtain ⟨I_17, e_I_17, hF⟩ := am_let_el hF
        refine n_iast (pc := 51) (k := 4) e_I_17 rfl (hPl.lt (by decide)) (am_ix_use c_16) dX11_move_51 ?_
        cases hF
        exact hJ_14
    · replace hF := am_yes c_8 hF
      refine g_iconst (pc := 18) (v := (0 : Int32)) dX11_move_18 rfl ?_
      cases hF
      exact g_zret (pc := 19) rfl (Or.inl rfl) (Nat.le_refl _) (Nat.le_refl _) dX11_move_19 ⟨(Or.inl rfl), rfl, rfl, rfl, rfl⟩
def F_X9_hasWall_1 (I : am_IT) (a1 : Int32) : Option (Int32) := if a1 < 0 then (some (0 : Int32)) else (if (I 1 3) ≤ a1 then (some (0 : Int32)) else (some (1 : Int32)))
set_option maxRecDepth 100000 in
set_option maxHeartbeats 4000000 in
theorem s_X9_hasWall_1 {l : Launch} {d N : Nat} {P : am_PT} (hPl : am_Pl 94 N P) (hd : 1 ≤ d) {I : am_IT} {a1 : Int32} {r : Int32} (hF : F_X9_hasWall_1 I a1 = some (r)) : am_C l d 0 0 mX9_hasWall [.ref 1, .int a1] N P I (am_qz r N P I) := by
  refine am_body (sc := am_sc0) (n := 0) (by decide +kernel) (by decide) rfl ?_
  change G am_sc0 l d 0 0 mX9_hasWall (am_qz r N P I) 0 [.ref 1, .int a1] [] N P I 0 0
  unfold F_X9_hasWall_1 at hF
  refine g_iload_n (pc := 0) dX9_hasWall_0 rfl rfl ?_
  refine g_if_lt (pc := 1) (tgt := 16) dX9_hasWall_1 rfl (fun c_1 => ?_) (fun c_1 => ?_)
  · replace hF := am_yes c_1 hF
    refine g_iconst (pc := 16) (v := (0 : Int32)) dX9_hasWall_16 rfl ?_
    cases hF
    exact g_zret (pc := 17) rfl (Or.inl rfl) (Nat.le_refl _) (Nat.le_refl _) dX9_hasWall_17 ⟨(Or.inl rfl), rfl, rfl, rfl, rfl⟩
  · replace hF := am_no c_1 hF
    refine g_iload_n (pc := 4) dX9_hasWall_4 rfl rfl ?_
    refine g_aload_n (pc := 5) dX9_hasWall_5 rfl rfl ?_
    refine g_getI (pc := 6) (k := 1) kf_X9_21.r rfl rfl (hPl.lt (by decide)) dX9_hasWall_6 ?_
    refine g_icmp_ge (pc := 9) (tgt := 16) dX9_hasWall_9 rfl (fun c_2 => ?_) (fun c_2 => ?_)
    · replace hF := am_yes c_2 hF
      refine g_iconst (pc := 16) (v := (0 : Int32)) dX9_hasWall_16 rfl ?_
      cases hF
      exact g_zret (pc := 17) rfl (Or.inl rfl) (Nat.le_refl _) (Nat.le_refl _) dX9_hasWall_17 ⟨(Or.inl rfl), rfl, rfl, rfl, rfl⟩
    · replace hF := am_no c_2 hF
      refine g_iconst (pc := 12) (v := (1 : Int32)) dX9_hasWall_12 rfl ?_
      refine g_goto (pc := 13) (tgt := 17) dX9_hasWall_13 rfl ?_
      cases hF
      exact g_zret (pc := 17) rfl (Or.inr rfl) (Nat.le_refl _) (Nat.le_refl _) dX9_hasWall_17 ⟨(Or.inr rfl), rfl, rfl, rfl, rfl⟩
def F_X11_view_0 (I : am_IT) (a1 : Int32) (a2 : Int32) (a3 : Int32) : Option (Int32 × am_IT) := am_b1 (F_X11_isHouse I a1) (fun (r_2 : Int32) => if r_2 = 0 then (some ((0 : Int32), I)) else (am_b1 (F_X9_hasWall_1 I a2) (fun (r_6 : Int32) => if r_6 = 0 then (some ((0 : Int32), I)) else (am_b1 (F_X11_isWithin I a3 (0 : Int32) (99 : Int32)) (fun (r_10 : Int32) => if r_10 = 0 then (some ((0 : Int32), I)) else (if am_ix ((a1 * (7 : Int32)) + a2) 56 = true then (am_let (up2 I 5 ((a1 * (7 : Int32)) + a2).toNatClampNeg a3) (fun (I_14 : am_IT) => some ((1 : Int32), I_14))) else none))))))
set_option maxRecDepth 100000 in
set_option maxHeartbeats 4000000 in
theorem s_X11_view_0 {l : Launch} {d N : Nat} {P : am_PT} (hPl : am_Pl 94 N P) (hd : 3 ≤ d) {I : am_IT} {a1 : Int32} {a2 : Int32} {a3 : Int32} {r : Int32} {I2 : am_IT} (hF : F_X11_view_0 I a1 a2 a3 = some (r, I2)) : am_C l d 0 0 mX11_view [.ref 0, .int a1, .int a2, .int a3] N P I (am_qz r N P I2) := by
  refine am_body (sc := am_sc0) (n := 0) (by decide +kernel) (by decide) rfl ?_
  change G am_sc0 l d 0 0 mX11_view (am_qz r N P I2) 0 [.ref 0, .int a1, .int a2, .int a3] [] N P I 0 0
  unfold F_X11_view_0 at hF
  refine g_iload_n (pc := 0) dX11_view_0 rfl rfl ?_
  obtain ⟨r_2, h_1, hF⟩ := am_b1_el hF
  refine g_cSz (pc := 1) (As := [.int a1]) (st := []) ky_X11_isHouse kl_X11_110 (s_X11_isHouse (d := 2) (hPl) (Nat.le_refl _) h_1) rfl rfl (Nat.le_trans (by decide) hd) (Nat.le_of_ble_eq_true rfl) (Nat.le_refl _) (Nat.le_refl _) dX11_view_1 ?_
  intro z_3
  refine g_if_eq (pc := 4) (tgt := 28) dX11_view_4 rfl (fun c_4 => ?_) (fun c_4 => ?_)
  · replace hF := am_yes c_4 hF
    refine g_iconst (pc := 28) (v := (0 : Int32)) dX11_view_28 rfl ?_
    cases hF
    exact g_zret (pc := 29) rfl (Or.inl rfl) (Nat.le_refl _) (Nat.le_refl _) dX11_view_29 ⟨(Or.inl rfl), rfl, rfl, rfl, rfl⟩
  · replace hF := am_no c_4 hF
    refine g_aload_n (pc := 7) dX11_view_7 rfl rfl ?_
    refine g_getR (pc := 8) (k := 0) (r := 1) kf_X11_12.r rfl rfl (hPl.get (by decide) rfl) (hPl.lt (by decide)) dX11_view_8 ?_
    refine g_iload_n (pc := 11) dX11_view_11 rfl rfl ?_
    obtain ⟨r_6, h_5, hF⟩ := am_b1_el hF
    refine g_cVz (pc := 12) (k := 1) (As := [.int a2]) (st := []) ky_X9_hasWall kl_X11_126 (s_X9_hasWall_1 (d := 1) (hPl) (Nat.le_refl _) h_5) rfl rfl rfl (hPl.lt (by decide)) (Nat.le_trans (by decide) hd) (Nat.le_of_ble_eq_true rfl) (Nat.le_refl _) (Nat.le_refl _) dX11_view_12 ?_
    intro z_7
    refine g_if_eq (pc := 15) (tgt := 28) dX11_view_15 rfl (fun c_8 => ?_) (fun c_8 => ?_)
    · replace hF := am_yes c_8 hF
      refine g_iconst (pc := 28) (v := (0 : Int32)) dX11_view_28 rfl ?_
      cases hF
      exact g_zret (pc := 29) rfl (Or.inl rfl) (Nat.le_refl _) (Nat.le_refl _) dX11_view_29 ⟨(Or.inl rfl), rfl, rfl, rfl, rfl⟩
    · replace hF := am_no c_8 hF
      refine g_iload_n (pc := 18) dX11_view_18 rfl rfl ?_
      refine g_iconst (pc := 19) (v := (0 : Int32)) dX11_view_19 rfl ?_
      refine g_bipush (pc := 20) (v := (99 : Int32)) dX11_view_20 rfl ?_
      obtain ⟨r_10, h_9, hF⟩ := am_b1_el hF
      refine g_cSz (pc := 22) (As := [.int a3, .int (0 : Int32), .int (99 : Int32)]) (st := []) ky_X11_isWithin kl_X11_97 (s_X11_isWithin (d := 1) (hPl) (Nat.le_refl _) h_9) rfl rfl (Nat.le_trans (by decide) hd) (Nat.le_of_ble_eq_true rfl) (Nat.le_refl _) (Nat.le_refl _) dX11_view_22 ?_
      intro z_11
      refine g_if_ne (pc := 25) (tgt := 30) dX11_view_25 rfl (fun c_12 => ?_) (fun c_12 => ?_)
      · replace hF := am_no c_12 hF
        refine g_aload_n (pc := 30) dX11_view_30 rfl rfl ?_
        refine g_getR (pc := 31) (k := 0) (r := 1) kf_X11_12.r rfl rfl (hPl.get (by decide) rfl) (hPl.lt (by decide)) dX11_view_31 ?_
        refine g_getR (pc := 34) (k := 1) (r := 5) kf_X11_129 rfl rfl (hPl.get (by decide) rfl) (hPl.lt (by decide)) dX11_view_34 ?_
        refine g_iload_n (pc := 37) dX11_view_37 rfl rfl ?_
        refine g_bipush (pc := 38) (v := (7 : Int32)) dX11_view_38 rfl ?_
        refine g_imul (pc := 40) dX11_view_40 ?_
        refine g_iload_n (pc := 41) dX11_view_41 rfl rfl ?_
        refine g_iadd (pc := 42) dX11_view_42 ?_
        refine g_iload_n (pc := 43) dX11_view_43 rfl rfl ?_
        obtain ⟨c_13, hF⟩ := am_gd hF
        obtain ⟨I_14, e_I_14, hF⟩ := am_let_el hF
        refine n_iast (pc := 44) (k := 5) e_I_14 rfl (hPl.lt (by decide)) (am_ix_use c_13) dX11_view_44 ?_
        refine g_iconst (pc := 45) (v := (1 : Int32)) dX11_view_45 rfl ?_
        cases hF
        exact g_zret (pc := 46) rfl (Or.inr rfl) (Nat.le_refl _) (Nat.le_refl _) dX11_view_46 ⟨(Or.inr rfl), rfl, rfl, rfl, rfl⟩
      · replace hF := am_yes c_12 hF
        refine g_iconst (pc := 28) (v := (0 : Int32)) dX11_view_28 rfl ?_
        cases hF
        exact g_zret (pc := 29) rfl (Or.inl rfl) (Nat.le_refl _) (Nat.le_refl _) dX11_view_29 ⟨(Or.inl rfl), rfl, rfl, rfl, rfl⟩
def F_X11_tree_0 (I : am_IT) (a1 : Int32) (a2 : Int32) (a3 : Int32) : Option (Int32 × am_IT) := am_b1 (F_X11_isHouse I a1) (fun (r_2 : Int32) => if r_2 = 0 then (some ((-1 : Int32), I)) else (am_b1 (F_X9_hasWall_1 I a2) (fun (r_6 : Int32) => if r_6 = 0 then (some ((-1 : Int32), I)) else (am_b1 (F_X11_isWithin I a3 (0 : Int32) (99 : Int32)) (fun (r_10 : Int32) => if r_10 = 0 then (some ((-1 : Int32), I)) else (if (I 1 5) < (20 : Int32) then (am_let ((I 1 5) * (3 : Int32)) (fun (l4_14 : Int32) => if am_ix (l4_14 + (0 : Int32)) 60 = true then (am_let (up2 I 6 (l4_14 + (0 : Int32)).toNatClampNeg ((a1 * (7 : Int32)) + a2)) (fun (I_16 : am_IT) => if am_ix (l4_14 + (1 : Int32)) 60 = true then (am_let (up2 I_16 6 (l4_14 + (1 : Int32)).toNatClampNeg a3) (fun (I_18 : am_IT) => if am_ix (l4_14 + (2 : Int32)) 60 = true then (am_let (up2 I_18 6 (l4_14 + (2 : Int32)).toNatClampNeg (I_18 1 2)) (fun (I_20 : am_IT) => am_let (up2 I_20 1 5 ((I_20 1 5) + (1 : Int32))) (fun (I_21 : am_IT) => some ((I_21 1 5) - (1 : Int32), I_21)))) else none)) else none)) else none)) else (some ((-1 : Int32), I))))))))
set_option maxRecDepth 100000 in
set_option maxHeartbeats 4000000 in
theorem s_X11_tree_0 {l : Launch} {d N : Nat} {P : am_PT} (hPl : am_Pl 94 N P) (hd : 3 ≤ d) {I : am_IT} {a1 : Int32} {a2 : Int32} {a3 : Int32} {r : Int32} {I2 : am_IT} (hF : F_X11_tree_0 I a1 a2 a3 = some (r, I2)) : am_C l d 0 0 mX11_tree [.ref 0, .int a1, .int a2, .int a3] N P I (am_qi r N P I2) := by
  refine am_body (sc := am_sc0) (n := 1) (by decide +kernel) (by decide) rfl ?_
  change G am_sc0 l d 0 0 mX11_tree (am_qi r N P I2) 0 [.ref 0, .int a1, .int a2, .int a3, .null] [] N P I 0 0
  unfold F_X11_tree_0 at hF
  refine g_iload_n (pc := 0) dX11_tree_0 rfl rfl ?_
  obtain ⟨r_2, h_1, hF⟩ := am_b1_el hF
  refine g_cSz (pc := 1) (As := [.int a1]) (st := []) ky_X11_isHouse kl_X11_110 (s_X11_isHouse (d := 2) (hPl) (Nat.le_refl _) h_1) rfl rfl (Nat.le_trans (by decide) hd) (Nat.le_of_ble_eq_true rfl) (Nat.le_refl _) (Nat.le_refl _) dX11_tree_1 ?_
  intro z_3
  refine g_if_eq (pc := 4) (tgt := 28) dX11_tree_4 rfl (fun c_4 => ?_) (fun c_4 => ?_)
  · replace hF := am_yes c_4 hF
    refine g_iconst (pc := 28) (v := (-1 : Int32)) dX11_tree_28 (by decide) ?_
    cases hF
    exact g_iret (pc := 29) rfl (Nat.le_refl _) (Nat.le_refl _) dX11_tree_29 ⟨rfl, rfl, rfl, rfl⟩
  · replace hF := am_no c_4 hF
    refine g_aload_n (pc := 7) dX11_tree_7 rfl rfl ?_
    refine g_getR (pc := 8) (k := 0) (r := 1) kf_X11_12.r rfl rfl (hPl.get (by decide) rfl) (hPl.lt (by decide)) dX11_tree_8 ?_
    refine g_iload_n (pc := 11) dX11_tree_11 rfl rfl ?_
    obtain ⟨r_6, h_5, hF⟩ := am_b1_el hF
    refine g_cVz (pc := 12) (k := 1) (As := [.int a2]) (st := []) ky_X9_hasWall kl_X11_126 (s_X9_hasWall_1 (d := 1) (hPl) (Nat.le_refl _) h_5) rfl rfl rfl (hPl.lt (by decide)) (Nat.le_trans (by decide) hd) (Nat.le_of_ble_eq_true rfl) (Nat.le_refl _) (Nat.le_refl _) dX11_tree_12 ?_
    intro z_7
    refine g_if_eq (pc := 15) (tgt := 28) dX11_tree_15 rfl (fun c_8 => ?_) (fun c_8 => ?_)
    · replace hF := am_yes c_8 hF
      refine g_iconst (pc := 28) (v := (-1 : Int32)) dX11_tree_28 (by decide) ?_
      cases hF
      exact g_iret (pc := 29) rfl (Nat.le_refl _) (Nat.le_refl _) dX11_tree_29 ⟨rfl, rfl, rfl, rfl⟩
    · replace hF := am_no c_8 hF
      refine g_iload_n (pc := 18) dX11_tree_18 rfl rfl ?_
      refine g_iconst (pc := 19) (v := (0 : Int32)) dX11_tree_19 rfl ?_
      refine g_bipush (pc := 20) (v := (99 : Int32)) dX11_tree_20 rfl ?_
      obtain ⟨r_10, h_9, hF⟩ := am_b1_el hF
      refine g_cSz (pc := 22) (As := [.int a3, .int (0 : Int32), .int (99 : Int32)]) (st := []) ky_X11_isWithin kl_X11_97 (s_X11_isWithin (d := 1) (hPl) (Nat.le_refl _) h_9) rfl rfl (Nat.le_trans (by decide) hd) (Nat.le_of_ble_eq_true rfl) (Nat.le_refl _) (Nat.le_refl _) dX11_tree_22 ?_
      intro z_11
      refine g_if_ne (pc := 25) (tgt := 30) dX11_tree_25 rfl (fun c_12 => ?_) (fun c_12 => ?_)
      · replace hF := am_no c_12 hF
        refine g_aload_n (pc := 30) dX11_tree_30 rfl rfl ?_
        refine g_getR (pc := 31) (k := 0) (r := 1) kf_X11_12.r rfl rfl (hPl.get (by decide) rfl) (hPl.lt (by decide)) dX11_tree_31 ?_
        refine g_getI (pc := 34) (k := 1) kf_X11_132.r rfl rfl (hPl.lt (by decide)) dX11_tree_34 ?_
        refine g_bipush (pc := 37) (v := (20 : Int32)) dX11_tree_37 rfl ?_
        refine g_icmp_lt (pc := 39) (tgt := 44) dX11_tree_39 rfl (fun c_13 => ?_) (fun c_13 => ?_)
        · replace hF := am_yes c_13 hF
          refine g_aload_n (pc := 44) dX11_tree_44 rfl rfl ?_
          refine g_getR (pc := 45) (k := 0) (r := 1) kf_X11_12.r rfl rfl (hPl.get (by decide) rfl) (hPl.lt (by decide)) dX11_tree_45 ?_
          refine g_getI (pc := 48) (k := 1) kf_X11_132.r rfl rfl (hPl.lt (by decide)) dX11_tree_48 ?_
          refine g_iconst (pc := 51) (v := (3 : Int32)) dX11_tree_51 rfl ?_
          refine g_imul (pc := 52) dX11_tree_52 ?_
          obtain ⟨l4_14, e_l4_14, hF⟩ := am_let_el hF
          refine n_istore (pc := 53) (ls2 := [.ref 0, .int a1, .int a2, .int a3, .int l4_14]) e_l4_14 rfl dX11_tree_53 (Nat.le_of_ble_eq_true rfl) ?_
          refine g_aload_n (pc := 55) dX11_tree_55 rfl rfl ?_
          refine g_getR (pc := 56) (k := 0) (r := 1) kf_X11_12.r rfl rfl (hPl.get (by decide) rfl) (hPl.lt (by decide)) dX11_tree_56 ?_
          refine g_getR (pc := 59) (k := 1) (r := 6) kf_X11_135 rfl rfl (hPl.get (by decide) rfl) (hPl.lt (by decide)) dX11_tree_59 ?_
          refine g_iload (pc := 62) dX11_tree_62 rfl ?_
          refine g_iconst (pc := 64) (v := (0 : Int32)) dX11_tree_64 rfl ?_
          refine g_iadd (pc := 65) dX11_tree_65 ?_
          refine g_iload_n (pc := 66) dX11_tree_66 rfl rfl ?_
          refine g_bipush (pc := 67) (v := (7 : Int32)) dX11_tree_67 rfl ?_
          refine g_imul (pc := 69) dX11_tree_69 ?_
          refine g_iload_n (pc := 70) dX11_tree_70 rfl rfl ?_
          refine g_iadd (pc := 71) dX11_tree_71 ?_
          obtain ⟨c_15, hF⟩ := am_gd hF
          obtain ⟨I_16, e_I_16, hF⟩ := am_let_el hF
          refine n_iast (pc := 72) (k := 6) e_I_16 rfl (hPl.lt (by decide)) (am_ix_use c_15) dX11_tree_72 ?_
          refine g_aload_n (pc := 73) dX11_tree_73 rfl rfl ?_
          refine g_getR (pc := 74) (k := 0) (r := 1) kf_X11_12.r rfl rfl (hPl.get (by decide) rfl) (hPl.lt (by decide)) dX11_tree_74 ?_
          refine g_getR (pc := 77) (k := 1) (r := 6) kf_X11_135 rfl rfl (hPl.get (by decide) rfl) (hPl.lt (by decide)) dX11_tree_77 ?_
          refine g_iload (pc := 80) dX11_tree_80 rfl ?_
          refine g_iconst (pc := 82) (v := (1 : Int32)) dX11_tree_82 rfl ?_
          refine g_iadd (pc := 83) dX11_tree_83 ?_
          refine g_iload_n (pc := 84) dX11_tree_84 rfl rfl ?_
          obtain ⟨c_17, hF⟩ := am_gd hF
          obtain ⟨I_18, e_I_18, hF⟩ := am_let_el hF
          refine n_iast (pc := 85) (k := 6) e_I_18 rfl (hPl.lt (by decide)) (am_ix_use c_17) dX11_tree_85 ?_
          refine g_aload_n (pc := 86) dX11_tree_86 rfl rfl ?_
          refine g_getR (pc := 87) (k := 0) (r := 1) kf_X11_12.r rfl rfl (hPl.get (by decide) rfl) (hPl.lt (by decide)) dX11_tree_87 ?_
          refine g_getR (pc := 90) (k := 1) (r := 6) kf_X11_135 rfl rfl (hPl.get (by decide) rfl) (hPl.lt (by decide)) dX11_tree_90 ?_
          refine g_iload (pc := 93) dX11_tree_93 rfl ?_
          refine g_iconst (pc := 95) (v := (2 : Int32)) dX11_tree_95 rfl ?_
          refine g_iadd (pc := 96) dX11_tree_96 ?_
          refine g_aload_n (pc := 97) dX11_tree_97 rfl rfl ?_
          refine g_getR (pc := 98) (k := 0) (r := 1) kf_X11_12.r rfl rfl (hPl.get (by decide) rfl) (hPl.lt (by decide)) dX11_tree_98 ?_
          refine g_getI (pc := 101) (k := 1) kf_X11_138.r rfl rfl (hPl.lt (by decide)) dX11_tree_101 ?_
          obtain ⟨c_19, hF⟩ := am_gd hF
          obtain ⟨I_20, e_I_20, hF⟩ := am_let_el hF
          refine n_iast (pc := 104) (k := 6) e_I_20 rfl (hPl.lt (by decide)) (am_ix_use c_19) dX11_tree_104 ?_
          refine g_aload_n (pc := 105) dX11_tree_105 rfl rfl ?_
          refine g_getR (pc := 106) (k := 0) (r := 1) kf_X11_12.r rfl rfl (hPl.get (by decide) rfl) (hPl.lt (by decide)) dX11_tree_106 ?_
          refine g_dup (pc := 109) dX11_tree_109 ?_
          refine g_getI (pc := 110) (k := 1) kf_X11_132.r rfl rfl (hPl.lt (by decide)) dX11_tree_110 ?_
          refine g_iconst (pc := 113) (v := (1 : Int32)) dX11_tree_113 rfl ?_
          refine g_iadd (pc := 114) dX11_tree_114 ?_
          obtain ⟨I_21, e_I_21, hF⟩ := am_let_el hF
          refine n_putI (pc := 115) (k := 1) e_I_21 kf_X11_132 rfl rfl (hPl.lt (by decide)) dX11_tree_115 ?_
          refine g_aload_n (pc := 118) dX11_tree_118 rfl rfl ?_
          refine g_getR (pc := 119) (k := 0) (r := 1) kf_X11_12.r rfl rfl (hPl.get (by decide) rfl) (hPl.lt (by decide)) dX11_tree_119 ?_
          refine g_getI (pc := 122) (k := 1) kf_X11_132.r rfl rfl (hPl.lt (by decide)) dX11_tree_122 ?_
          refine g_iconst (pc := 125) (v := (1 : Int32)) dX11_tree_125 rfl ?_
          refine g_isub (pc := 126) dX11_tree_126 ?_
          cases hF
          exact g_iret (pc := 127) rfl (Nat.le_refl _) (Nat.le_refl _) dX11_tree_127 ⟨rfl, rfl, rfl, rfl⟩
        · replace hF := am_no c_13 hF
          refine g_iconst (pc := 42) (v := (-1 : Int32)) dX11_tree_42 (by decide) ?_
          cases hF
          exact g_iret (pc := 43) rfl (Nat.le_refl _) (Nat.le_refl _) dX11_tree_43 ⟨rfl, rfl, rfl, rfl⟩
      · replace hF := am_yes c_12 hF
        refine g_iconst (pc := 28) (v := (-1 : Int32)) dX11_tree_28 (by decide) ?_
        cases hF
        exact g_iret (pc := 29) rfl (Nat.le_refl _) (Nat.le_refl _) dX11_tree_29 ⟨rfl, rfl, rfl, rfl⟩
def F_X11_tell_0 (I : am_IT) (a1 : Int32) (a2 : Int32) (a3 : Int32) (a4 : Int32) : Option (Int32 × am_IT) := am_b1 (F_X9_hasPerson_1 I a1) (fun (r_2 : Int32) => if r_2 = 0 then (some ((0 : Int32), I)) else (am_b1 (F_X11_isWithin I a4 (-9 : Int32) (9 : Int32)) (fun (r_6 : Int32) => if r_6 = 0 then (some ((0 : Int32), I)) else (if a2 = (2 : Int32) then (if am_ix a1 7 = true then (am_let (up2 I 9 a1.toNatClampNeg a4) (fun (I_37 : am_IT) => some ((1 : Int32), I_37))) else none) else (if a2 = 0 then (am_b1 (F_X9_hasColour_1 I a3) (fun (r_12 : Int32) => if r_12 = 0 then (some ((0 : Int32), I)) else (am_b1 (if a2 = 0 then (if am_ix ((a1 * (4 : Int32)) + a3) 28 = true then (am_let (up2 I 7 ((a1 * (4 : Int32)) + a3).toNatClampNeg a4) (fun (I_20 : am_IT) => some (I_20))) else none) else (some (I))) (fun (I_16 : am_IT) => if am_ix ((a1 * (4 : Int32)) + a3) 28 = true then (am_let (up2 I_16 8 ((a1 * (4 : Int32)) + a3).toNatClampNeg a4) (fun (I_22 : am_IT) => some ((1 : Int32), I_22))) else none)))) else (if a2 = (1 : Int32) then (am_b1 (F_X9_hasColour_1 I a3) (fun (r_25 : Int32) => if r_25 = 0 then (some ((0 : Int32), I)) else (am_b1 (if a2 = 0 then (if am_ix ((a1 * (4 : Int32)) + a3) 28 = true then (am_let (up2 I 7 ((a1 * (4 : Int32)) + a3).toNatClampNeg a4) (fun (I_33 : am_IT) => some (I_33))) else none) else (some (I))) (fun (I_29 : am_IT) => if am_ix ((a1 * (4 : Int32)) + a3) 28 = true then (am_let (up2 I_29 8 ((a1 * (4 : Int32)) + a3).toNatClampNeg a4) (fun (I_35 : am_IT) => some ((1 : Int32), I_35))) else none)))) else (some ((0 : Int32), I))))))))
set_option maxRecDepth 100000 in
set_option maxHeartbeats 4000000 in
theorem s_X11_tell_0 {l : Launch} {d N : Nat} {P : am_PT} (hPl : am_Pl 94 N P) (hd : 2 ≤ d) {I : am_IT} {a1 : Int32} {a2 : Int32} {a3 : Int32} {a4 : Int32} {r : Int32} {I2 : am_IT} (hF : F_X11_tell_0 I a1 a2 a3 a4 = some (r, I2)) : am_C l d 0 0 mX11_tell [.ref 0, .int a1, .int a2, .int a3, .int a4] N P I (am_qz r N P I2) := by
  refine am_body (sc := am_sc0) (n := 0) (by decide +kernel) (by decide) rfl ?_
  change G am_sc0 l d 0 0 mX11_tell (am_qz r N P I2) 0 [.ref 0, .int a1, .int a2, .int a3, .int a4] [] N P I 0 0
  unfold F_X11_tell_0 at hF
  refine g_aload_n (pc := 0) dX11_tell_0 rfl rfl ?_
  refine g_getR (pc := 1) (k := 0) (r := 1) kf_X11_12.r rfl rfl (hPl.get (by decide) rfl) (hPl.lt (by decide)) dX11_tell_1 ?_
  refine g_iload_n (pc := 4) dX11_tell_4 rfl rfl ?_
  obtain ⟨r_2, h_1, hF⟩ := am_b1_el hF
  refine g_cVz (pc := 5) (k := 1) (As := [.int a1]) (st := []) ky_X9_hasPerson kl_X11_123 (s_X9_hasPerson_1 (d := 1) (hPl) (Nat.le_refl _) h_1) rfl rfl rfl (hPl.lt (by decide)) (Nat.le_trans (by decide) hd) (Nat.le_of_ble_eq_true rfl) (Nat.le_refl _) (Nat.le_refl _) dX11_tell_5 ?_
  intro z_3
  refine g_if_eq (pc := 8) (tgt := 23) dX11_tell_8 rfl (fun c_4 => ?_) (fun c_4 => ?_)
  · replace hF := am_yes c_4 hF
    refine g_iconst (pc := 23) (v := (0 : Int32)) dX11_tell_23 rfl ?_
    cases hF
    exact g_zret (pc := 24) rfl (Or.inl rfl) (Nat.le_refl _) (Nat.le_refl _) dX11_tell_24 ⟨(Or.inl rfl), rfl, rfl, rfl, rfl⟩
  · replace hF := am_no c_4 hF
    refine g_iload (pc := 11) dX11_tell_11 rfl ?_
    refine g_bipush (pc := 13) (v := (-9 : Int32)) dX11_tell_13 (by decide) ?_
    refine g_bipush (pc := 15) (v := (9 : Int32)) dX11_tell_15 rfl ?_
    obtain ⟨r_6, h_5, hF⟩ := am_b1_el hF
    refine g_cSz (pc := 17) (As := [.int a4, .int (-9 : Int32), .int (9 : Int32)]) (st := []) ky_X11_isWithin kl_X11_97 (s_X11_isWithin (d := 1) (hPl) (Nat.le_refl _) h_5) rfl rfl (Nat.le_trans (by decide) hd) (Nat.le_of_ble_eq_true rfl) (Nat.le_refl _) (Nat.le_refl _) dX11_tell_17 ?_
    intro z_7
    refine g_if_ne (pc := 20) (tgt := 25) dX11_tell_20 rfl (fun c_8 => ?_) (fun c_8 => ?_)
    · replace hF := am_no c_8 hF
      refine g_iload_n (pc := 25) dX11_tell_25 rfl rfl ?_
      refine g_iconst (pc := 26) (v := (2 : Int32)) dX11_tell_26 rfl ?_
      refine g_icmp_ne (pc := 27) (tgt := 43) dX11_tell_27 rfl (fun c_9 => ?_) (fun c_9 => ?_)
      · replace hF := am_no c_9 hF
        refine g_iload_n (pc := 43) dX11_tell_43 rfl rfl ?_
        refine g_if_eq (pc := 44) (tgt := 52) dX11_tell_44 rfl (fun c_10 => ?_) (fun c_10 => ?_)
        · replace hF := am_yes c_10 hF
          refine g_aload_n (pc := 52) dX11_tell_52 rfl rfl ?_
          refine g_getR (pc := 53) (k := 0) (r := 1) kf_X11_12.r rfl rfl (hPl.get (by decide) rfl) (hPl.lt (by decide)) dX11_tell_53 ?_
          refine g_iload_n (pc := 56) dX11_tell_56 rfl rfl ?_
          obtain ⟨r_12, h_11, hF⟩ := am_b1_el hF
          refine g_cVz (pc := 57) (k := 1) (As := [.int a3]) (st := []) ky_X9_hasColour kl_X11_93 (s_X9_hasColour_1 (d := 1) (hPl) (Nat.le_refl _) h_11) rfl rfl rfl (hPl.lt (by decide)) (Nat.le_trans (by decide) hd) (Nat.le_of_ble_eq_true rfl) (Nat.le_refl _) (Nat.le_refl _) dX11_tell_57 ?_
          intro z_13
          refine g_if_ne (pc := 60) (tgt := 65) dX11_tell_60 rfl (fun c_14 => ?_) (fun c_14 => ?_)
          · replace hF := am_no c_14 hF
            refine g_iload_n (pc := 65) dX11_tell_65 rfl rfl ?_
            obtain ⟨I_16, hR_17, hF⟩ := am_b1_el hF
            have hJ_18 : G am_sc0 l d 0 0 mX11_tell (am_qz r N P I2) 84 [.ref 0, .int a1, .int a2, .int a3, .int a4] [] N P I_16 0 0 := by
              refine g_aload_n (pc := 84) dX11_tell_84 rfl rfl ?_
              refine g_getR (pc := 85) (k := 0) (r := 1) kf_X11_12.r rfl rfl (hPl.get (by decide) rfl) (hPl.lt (by decide)) dX11_tell_85 ?_
              refine g_getR (pc := 88) (k := 1) (r := 8) kf_X11_147 rfl rfl (hPl.get (by decide) rfl) (hPl.lt (by decide)) dX11_tell_88 ?_
              refine g_iload_n (pc := 91) dX11_tell_91 rfl rfl ?_
              refine g_iconst (pc := 92) (v := (4 : Int32)) dX11_tell_92 rfl ?_
              refine g_imul (pc := 93) dX11_tell_93 ?_
              refine g_iload_n (pc := 94) dX11_tell_94 rfl rfl ?_
              refine g_iadd (pc := 95) dX11_tell_95 ?_
              refine g_iload (pc := 96) dX11_tell_96 rfl ?_
              obtain ⟨c_21, hF⟩ := am_gd hF
              obtain ⟨I_22, e_I_22, hF⟩ := am_let_el hF
              refine n_iast (pc := 98) (k := 8) e_I_22 rfl (hPl.lt (by decide)) (am_ix_use c_21) dX11_tell_98 ?_
              refine g_iconst (pc := 99) (v := (1 : Int32)) dX11_tell_99 rfl ?_
              cases hF
              exact g_zret (pc := 100) rfl (Or.inr rfl) (Nat.le_refl _) (Nat.le_refl _) dX11_tell_100 ⟨(Or.inr rfl), rfl, rfl, rfl, rfl⟩
            clear hF
            have hF := hR_17
            clear hR_17
            refine g_if_ne (pc := 66) (tgt := 84) dX11_tell_66 rfl (fun c_15 => ?_) (fun c_15 => ?_)
            · replace hF := am_no c_15 hF
              cases hF
              exact hJ_18
            · replace hF := am_yes c_15 hF
              refine g_aload_n (pc := 69) dX11_tell_69 rfl rfl ?_
              refine g_getR (pc := 70) (k := 0) (r := 1) kf_X11_12.r rfl rfl (hPl.get (by decide) rfl) (hPl.lt (by decide)) dX11_tell_70 ?_
              refine g_getR (pc := 73) (k := 1) (r := 7) kf_X11_144 rfl rfl (hPl.get (by decide) rfl) (hPl.lt (by decide)) dX11_tell_73 ?_
              refine g_iload_n (pc := 76) dX11_tell_76 rfl rfl ?_
              refine g_iconst (pc := 77) (v := (4 : Int32)) dX11_tell_77 rfl ?_
              refine g_imul (pc := 78) dX11_tell_78 ?_
              refine g_iload_n (pc := 79) dX11_tell_79 rfl rfl ?_
              refine g_iadd (pc := 80) dX11_tell_80 ?_
              refine g_iload (pc := 81) dX11_tell_81 rfl ?_
              obtain ⟨c_19, hF⟩ := am_gd hF
              obtain ⟨I_20, e_I_20, hF⟩ := am_let_el hF
              refine n_iast (pc := 83) (k := 7) e_I_20 rfl (hPl.lt (by decide)) (am_ix_use c_19) dX11_tell_83 ?_
              cases hF
              exact hJ_18
          · replace hF := am_yes c_14 hF
            refine g_iconst (pc := 63) (v := (0 : Int32)) dX11_tell_63 rfl ?_
            cases hF
            exact g_zret (pc := 64) rfl (Or.inl rfl) (Nat.le_refl _) (Nat.le_refl _) dX11_tell_64 ⟨(Or.inl rfl), rfl, rfl, rfl, rfl⟩
        · replace hF := am_no c_10 hF
          refine g_iload_n (pc := 47) dX11_tell_47 rfl rfl ?_
          refine g_iconst (pc := 48) (v := (1 : Int32)) dX11_tell_48 rfl ?_
          refine g_icmp_ne (pc := 49) (tgt := 63) dX11_tell_49 rfl (fun c_23 => ?_) (fun c_23 => ?_)
          · replace hF := am_no c_23 hF
            refine g_iconst (pc := 63) (v := (0 : Int32)) dX11_tell_63 rfl ?_
            cases hF
            exact g_zret (pc := 64) rfl (Or.inl rfl) (Nat.le_refl _) (Nat.le_refl _) dX11_tell_64 ⟨(Or.inl rfl), rfl, rfl, rfl, rfl⟩
          · replace hF := am_yes c_23 hF
            refine g_aload_n (pc := 52) dX11_tell_52 rfl rfl ?_
            refine g_getR (pc := 53) (k := 0) (r := 1) kf_X11_12.r rfl rfl (hPl.get (by decide) rfl) (hPl.lt (by decide)) dX11_tell_53 ?_
            refine g_iload_n (pc := 56) dX11_tell_56 rfl rfl ?_
            obtain ⟨r_25, h_24, hF⟩ := am_b1_el hF
            refine g_cVz (pc := 57) (k := 1) (As := [.int a3]) (st := []) ky_X9_hasColour kl_X11_93 (s_X9_hasColour_1 (d := 1) (hPl) (Nat.le_refl _) h_24) rfl rfl rfl (hPl.lt (by decide)) (Nat.le_trans (by decide) hd) (Nat.le_of_ble_eq_true rfl) (Nat.le_refl _) (Nat.le_refl _) dX11_tell_57 ?_
            intro z_26
            refine g_if_ne (pc := 60) (tgt := 65) dX11_tell_60 rfl (fun c_27 => ?_) (fun c_27 => ?_)
            · replace hF := am_no c_27 hF
              refine g_iload_n (pc := 65) dX11_tell_65 rfl rfl ?_
              obtain ⟨I_29, hR_30, hF⟩ := am_b1_el hF
              have hJ_31 : G am_sc0 l d 0 0 mX11_tell (am_qz r N P I2) 84 [.ref 0, .int a1, .int a2, .int a3, .int a4] [] N P I_29 0 0 := by
                refine g_aload_n (pc := 84) dX11_tell_84 rfl rfl ?_
                refine g_getR (pc := 85) (k := 0) (r := 1) kf_X11_12.r rfl rfl (hPl.get (by decide) rfl) (hPl.lt (by decide)) dX11_tell_85 ?_
                refine g_getR (pc := 88) (k := 1) (r := 8) kf_X11_147 rfl rfl (hPl.get (by decide) rfl) (hPl.lt (by decide)) dX11_tell_88 ?_
                refine g_iload_n (pc := 91) dX11_tell_91 rfl rfl ?_
                refine g_iconst (pc := 92) (v := (4 : Int32)) dX11_tell_92 rfl ?_
                refine g_imul (pc := 93) dX11_tell_93 ?_
                refine g_iload_n (pc := 94) dX11_tell_94 rfl rfl ?_
                refine g_iadd (pc := 95) dX11_tell_95 ?_
                refine g_iload (pc := 96) dX11_tell_96 rfl ?_
                obtain ⟨c_34, hF⟩ := am_gd hF
                obtain ⟨I_35, e_I_35, hF⟩ := am_let_el hF
                refine n_iast (pc := 98) (k := 8) e_I_35 rfl (hPl.lt (by decide)) (am_ix_use c_34) dX11_tell_98 ?_
                refine g_iconst (pc := 99) (v := (1 : Int32)) dX11_tell_99 rfl ?_
                cases hF
                exact g_zret (pc := 100) rfl (Or.inr rfl) (Nat.le_refl _) (Nat.le_refl _) dX11_tell_100 ⟨(Or.inr rfl), rfl, rfl, rfl, rfl⟩
              clear hF
              have hF := hR_30
              clear hR_30
              refine g_if_ne (pc := 66) (tgt := 84) dX11_tell_66 rfl (fun c_28 => ?_) (fun c_28 => ?_)
              · replace hF := am_no c_28 hF
                cases hF
                exact hJ_31
              · replace hF := am_yes c_28 hF
                refine g_aload_n (pc := 69) dX11_tell_69 rfl rfl ?_
                refine g_getR (pc := 70) (k := 0) (r := 1) kf_X11_12.r rfl rfl (hPl.get (by decide) rfl) (hPl.lt (by decide)) dX11_tell_70 ?_
                refine g_getR (pc := 73) (k := 1) (r := 7) kf_X11_144 rfl rfl (hPl.get (by decide) rfl) (hPl.lt (by decide)) dX11_tell_73 ?_
                refine g_iload_n (pc := 76) dX11_tell_76 rfl rfl ?_
                refine g_iconst (pc := 77) (v := (4 : Int32)) dX11_tell_77 rfl ?_
                refine g_imul (pc := 78) dX11_tell_78 ?_
                refine g_iload_n (pc := 79) dX11_tell_79 rfl rfl ?_
                refine g_iadd (pc := 80) dX11_tell_80 ?_
                refine g_iload (pc := 81) dX11_tell_81 rfl ?_
                obtain ⟨c_32, hF⟩ := am_gd hF
                obtain ⟨I_33, e_I_33, hF⟩ := am_let_el hF
                refine n_iast (pc := 83) (k := 7) e_I_33 rfl (hPl.lt (by decide)) (am_ix_use c_32) dX11_tell_83 ?_
                cases hF
                exact hJ_31
            · replace hF := am_yes c_27 hF
              refine g_iconst (pc := 63) (v := (0 : Int32)) dX11_tell_63 rfl ?_
              cases hF
              exact g_zret (pc := 64) rfl (Or.inl rfl) (Nat.le_refl _) (Nat.le_refl _) dX11_tell_64 ⟨(Or.inl rfl), rfl, rfl, rfl, rfl⟩
      · replace hF := am_yes c_9 hF
        refine g_aload_n (pc := 30) dX11_tell_30 rfl rfl ?_
        refine g_getR (pc := 31) (k := 0) (r := 1) kf_X11_12.r rfl rfl (hPl.get (by decide) rfl) (hPl.lt (by decide)) dX11_tell_31 ?_
        refine g_getR (pc := 34) (k := 1) (r := 9) kf_X11_141 rfl rfl (hPl.get (by decide) rfl) (hPl.lt (by decide)) dX11_tell_34 ?_
        refine g_iload_n (pc := 37) dX11_tell_37 rfl rfl ?_
        refine g_iload (pc := 38) dX11_tell_38 rfl ?_
        obtain ⟨c_36, hF⟩ := am_gd hF
        obtain ⟨I_37, e_I_37, hF⟩ := am_let_el hF
        refine n_iast (pc := 40) (k := 9) e_I_37 rfl (hPl.lt (by decide)) (am_ix_use c_36) dX11_tell_40 ?_
        refine g_iconst (pc := 41) (v := (1 : Int32)) dX11_tell_41 rfl ?_
        cases hF
        exact g_zret (pc := 42) rfl (Or.inr rfl) (Nat.le_refl _) (Nat.le_refl _) dX11_tell_42 ⟨(Or.inr rfl), rfl, rfl, rfl, rfl⟩
    · replace hF := am_yes c_8 hF
      refine g_iconst (pc := 23) (v := (0 : Int32)) dX11_tell_23 rfl ?_
      cases hF
      exact g_zret (pc := 24) rfl (Or.inl rfl) (Nat.le_refl _) (Nat.le_refl _) dX11_tell_24 ⟨(Or.inl rfl), rfl, rfl, rfl, rfl⟩
def F_X11_beside_0 (I : am_IT) (a1 : Int32) (a2 : Int32) (a3 : Int32) : Option (Int32 × am_IT) := am_b1 (F_X9_hasWall_1 I a1) (fun (r_2 : Int32) => if r_2 = 0 then (some ((0 : Int32), I)) else (am_b1 (F_X9_hasWall_1 I a2) (fun (r_6 : Int32) => if r_6 = 0 then (some ((0 : Int32), I)) else (if a1 = a2 then (some ((0 : Int32), I)) else (am_b1 (if a3 = 0 then (some ((0 : Int32))) else (some ((1 : Int32)))) (fun (v_11 : Int32) => if am_ix ((a1 * (7 : Int32)) + a2) 49 = true then (am_let (up2 I 10 ((a1 * (7 : Int32)) + a2).toNatClampNeg v_11) (fun (I_15 : am_IT) => if a3 = 0 then (if am_ix ((a2 * (7 : Int32)) + a1) 49 = true then (am_let (up2 I_15 10 ((a2 * (7 : Int32)) + a1).toNatClampNeg (0 : Int32)) (fun (I_18 : am_IT) => some ((1 : Int32), I_18))) else none) else (if am_ix ((a2 * (7 : Int32)) + a1) 49 = true then (am_let (up2 I_15 10 ((a2 * (7 : Int32)) + a1).toNatClampNeg (1 : Int32)) (fun (I_20 : am_IT) => some ((1 : Int32), I_20))) else none))) else none))))))
set_option maxRecDepth 100000 in
set_option maxHeartbeats 4000000 in
theorem s_X11_beside_0 {l : Launch} {d N : Nat} {P : am_PT} (hPl : am_Pl 94 N P) (hd : 2 ≤ d) {I : am_IT} {a1 : Int32} {a2 : Int32} {a3 : Int32} {r : Int32} {I2 : am_IT} (hF : F_X11_beside_0 I a1 a2 a3 = some (r, I2)) : am_C l d 0 0 mX11_beside [.ref 0, .int a1, .int a2, .int a3] N P I (am_qz r N P I2) := by
  refine am_body (sc := am_sc0) (n := 0) (by decide +kernel) (by decide) rfl ?_
  change G am_sc0 l d 0 0 mX11_beside (am_qz r N P I2) 0 [.ref 0, .int a1, .int a2, .int a3] [] N P I 0 0
  unfold F_X11_beside_0 at hF
  refine g_aload_n (pc := 0) dX11_beside_0 rfl rfl ?_
  refine g_getR (pc := 1) (k := 0) (r := 1) kf_X11_12.r rfl rfl (hPl.get (by decide) rfl) (hPl.lt (by decide)) dX11_beside_1 ?_
  refine g_iload_n (pc := 4) dX11_beside_4 rfl rfl ?_
  obtain ⟨r_2, h_1, hF⟩ := am_b1_el hF
  refine g_cVz (pc := 5) (k := 1) (As := [.int a1]) (st := []) ky_X9_hasWall kl_X11_126 (s_X9_hasWall_1 (d := 1) (hPl) (Nat.le_refl _) h_1) rfl rfl rfl (hPl.lt (by decide)) (Nat.le_trans (by decide) hd) (Nat.le_of_ble_eq_true rfl) (Nat.le_refl _) (Nat.le_refl _) dX11_beside_5 ?_
  intro z_3
  refine g_if_eq (pc := 8) (tgt := 27) dX11_beside_8 rfl (fun c_4 => ?_) (fun c_4 => ?_)
  · replace hF := am_yes c_4 hF
    refine g_iconst (pc := 27) (v := (0 : Int32)) dX11_beside_27 rfl ?_
    cases hF
    exact g_zret (pc := 28) rfl (Or.inl rfl) (Nat.le_refl _) (Nat.le_refl _) dX11_beside_28 ⟨(Or.inl rfl), rfl, rfl, rfl, rfl⟩
  · replace hF := am_no c_4 hF
    refine g_aload_n (pc := 11) dX11_beside_11 rfl rfl ?_
    refine g_getR (pc := 12) (k := 0) (r := 1) kf_X11_12.r rfl rfl (hPl.get (by decide) rfl) (hPl.lt (by decide)) dX11_beside_12 ?_
    refine g_iload_n (pc := 15) dX11_beside_15 rfl rfl ?_
    obtain ⟨r_6, h_5, hF⟩ := am_b1_el hF
    refine g_cVz (pc := 16) (k := 1) (As := [.int a2]) (st := []) ky_X9_hasWall kl_X11_126 (s_X9_hasWall_1 (d := 1) (hPl) (Nat.le_refl _) h_5) rfl rfl rfl (hPl.lt (by decide)) (Nat.le_trans (by decide) hd) (Nat.le_of_ble_eq_true rfl) (Nat.le_refl _) (Nat.le_refl _) dX11_beside_16 ?_
    intro z_7
    refine g_if_eq (pc := 19) (tgt := 27) dX11_beside_19 rfl (fun c_8 => ?_) (fun c_8 => ?_)
    · replace hF := am_yes c_8 hF
      refine g_iconst (pc := 27) (v := (0 : Int32)) dX11_beside_27 rfl ?_
      cases hF
      exact g_zret (pc := 28) rfl (Or.inl rfl) (Nat.le_refl _) (Nat.le_refl _) dX11_beside_28 ⟨(Or.inl rfl), rfl, rfl, rfl, rfl⟩
    · replace hF := am_no c_8 hF
      refine g_iload_n (pc := 22) dX11_beside_22 rfl rfl ?_
      refine g_iload_n (pc := 23) dX11_beside_23 rfl rfl ?_
      refine g_icmp_ne (pc := 24) (tgt := 29) dX11_beside_24 rfl (fun c_9 => ?_) (fun c_9 => ?_)
      · replace hF := am_no c_9 hF
        refine g_aload_n (pc := 29) dX11_beside_29 rfl rfl ?_
        refine g_getR (pc := 30) (k := 0) (r := 1) kf_X11_12.r rfl rfl (hPl.get (by decide) rfl) (hPl.lt (by decide)) dX11_beside_30 ?_
        refine g_getR (pc := 33) (k := 1) (r := 10) kf_X11_150 rfl rfl (hPl.get (by decide) rfl) (hPl.lt (by decide)) dX11_beside_33 ?_
        refine g_iload_n (pc := 36) dX11_beside_36 rfl rfl ?_
        refine g_bipush (pc := 37) (v := (7 : Int32)) dX11_beside_37 rfl ?_
        refine g_imul (pc := 39) dX11_beside_39 ?_
        refine g_iload_n (pc := 40) dX11_beside_40 rfl rfl ?_
        refine g_iadd (pc := 41) dX11_beside_41 ?_
        refine g_iload_n (pc := 42) dX11_beside_42 rfl rfl ?_
        obtain ⟨v_11, hR_12, hF⟩ := am_b1_el hF
        have hJ_13 : G am_sc0 l d 0 0 mX11_beside (am_qz r N P I2) 51 [.ref 0, .int a1, .int a2, .int a3] [.int v_11, .int ((a1 * (7 : Int32)) + a2), .ref 10] N P I 0 0 := by
          obtain ⟨c_14, hF⟩ := am_gd hF
          obtain ⟨I_15, e_I_15, hF⟩ := am_let_el hF
          refine n_iast (pc := 51) (k := 10) e_I_15 rfl (hPl.lt (by decide)) (am_ix_use c_14) dX11_beside_51 ?_
          refine g_aload_n (pc := 52) dX11_beside_52 rfl rfl ?_
          refine g_getR (pc := 53) (k := 0) (r := 1) kf_X11_12.r rfl rfl (hPl.get (by decide) rfl) (hPl.lt (by decide)) dX11_beside_53 ?_
          refine g_getR (pc := 56) (k := 1) (r := 10) kf_X11_150 rfl rfl (hPl.get (by decide) rfl) (hPl.lt (by decide)) dX11_beside_56 ?_
          refine g_iload_n (pc := 59) dX11_beside_59 rfl rfl ?_
          refine g_bipush (pc := 60) (v := (7 : Int32)) dX11_beside_60 rfl ?_
          refine g_imul (pc := 62) dX11_beside_62 ?_
          refine g_iload_n (pc := 63) dX11_beside_63 rfl rfl ?_
          refine g_iadd (pc := 64) dX11_beside_64 ?_
          refine g_iload_n (pc := 65) dX11_beside_65 rfl rfl ?_
          refine g_if_eq (pc := 66) (tgt := 73) dX11_beside_66 rfl (fun c_16 => ?_) (fun c_16 => ?_)
          · replace hF := am_yes c_16 hF
            refine g_iconst (pc := 73) (v := (0 : Int32)) dX11_beside_73 rfl ?_
            obtain ⟨c_17, hF⟩ := am_gd hF
            obtain ⟨I_18, e_I_18, hF⟩ := am_let_el hF
            refine n_iast (pc := 74) (k := 10) e_I_18 rfl (hPl.lt (by decide)) (am_ix_use c_17) dX11_beside_74 ?_
            refine g_iconst (pc := 75) (v := (1 : Int32)) dX11_beside_75 rfl ?_
            cases hF
            exact g_zret (pc := 76) rfl (Or.inr rfl) (Nat.le_refl _) (Nat.le_refl _) dX11_beside_76 ⟨(Or.inr rfl), rfl, rfl, rfl, rfl⟩
          · replace hF := am_no c_16 hF
            refine g_iconst (pc := 69) (v := (1 : Int32)) dX11_beside_69 rfl ?_
            refine g_goto (pc := 70) (tgt := 74) dX11_beside_70 rfl ?_
            obtain ⟨c_19, hF⟩ := am_gd hF
            obtain ⟨I_20, e_I_20, hF⟩ := am_let_el hF
            refine n_iast (pc := 74) (k := 10) e_I_20 rfl (hPl.lt (by decide)) (am_ix_use c_19) dX11_beside_74 ?_
            refine g_iconst (pc := 75) (v := (1 : Int32)) dX11_beside_75 rfl ?_
            cases hF
            exact g_zret (pc := 76) rfl (Or.inr rfl) (Nat.le_refl _) (Nat.le_refl _) dX11_beside_76 ⟨(Or.inr rfl), rfl, rfl, rfl, rfl⟩
        clear hF
        have hF := hR_12
        clear hR_12
        refine g_if_eq (pc := 43) (tgt := 50) dX11_beside_43 rfl (fun c_10 => ?_) (fun c_10 => ?_)
        · replace hF := am_yes c_10 hF
          refine g_iconst (pc := 50) (v := (0 : Int32)) dX11_beside_50 rfl ?_
          cases hF
          exact hJ_13
        · replace hF := am_no c_10 hF
          refine g_iconst (pc := 46) (v := (1 : Int32)) dX11_beside_46 rfl ?_
          refine g_goto (pc := 47) (tgt := 51) dX11_beside_47 rfl ?_
          cases hF
          exact hJ_13
      · replace hF := am_yes c_9 hF
        refine g_iconst (pc := 27) (v := (0 : Int32)) dX11_beside_27 rfl ?_
        cases hF
        exact g_zret (pc := 28) rfl (Or.inl rfl) (Nat.le_refl _) (Nat.le_refl _) dX11_beside_28 ⟨(Or.inl rfl), rfl, rfl, rfl, rfl⟩
def F_X11_paint_0 (I : am_IT) (a1 : Int32) (a2 : Int32) : Option (Int32 × am_IT) := am_b1 (F_X9_hasWall_1 I a1) (fun (r_2 : Int32) => if r_2 = 0 then (some ((0 : Int32), I)) else (am_b1 (F_X9_hasColour_1 I a2) (fun (r_6 : Int32) => if r_6 = 0 then (some ((0 : Int32), I)) else (if am_ix a1 7 = true then (am_let (up2 I 3 a1.toNatClampNeg a2) (fun (I_10 : am_IT) => some ((1 : Int32), I_10))) else none))))
set_option maxRecDepth 100000 in
set_option maxHeartbeats 4000000 in
theorem s_X11_paint_0 {l : Launch} {d N : Nat} {P : am_PT} (hPl : am_Pl 94 N P) (hd : 2 ≤ d) {I : am_IT} {a1 : Int32} {a2 : Int32} {r : Int32} {I2 : am_IT} (hF : F_X11_paint_0 I a1 a2 = some (r, I2)) : am_C l d 0 0 mX11_paint [.ref 0, .int a1, .int a2] N P I (am_qz r N P I2) := by
  refine am_body (sc := am_sc0) (n := 0) (by decide +kernel) (by decide) rfl ?_
  change G am_sc0 l d 0 0 mX11_paint (am_qz r N P I2) 0 [.ref 0, .int a1, .int a2] [] N P I 0 0
  unfold F_X11_paint_0 at hF
  refine g_aload_n (pc := 0) dX11_paint_0 rfl rfl ?_
  refine g_getR (pc := 1) (k := 0) (r := 1) kf_X11_12.r rfl rfl (hPl.get (by decide) rfl) (hPl.lt (by decide)) dX11_paint_1 ?_
  refine g_iload_n (pc := 4) dX11_paint_4 rfl rfl ?_
  obtain ⟨r_2, h_1, hF⟩ := am_b1_el hF
  refine g_cVz (pc := 5) (k := 1) (As := [.int a1]) (st := []) ky_X9_hasWall kl_X11_126 (s_X9_hasWall_1 (d := 1) (hPl) (Nat.le_refl _) h_1) rfl rfl rfl (hPl.lt (by decide)) (Nat.le_trans (by decide) hd) (Nat.le_of_ble_eq_true rfl) (Nat.le_refl _) (Nat.le_refl _) dX11_paint_5 ?_
  intro z_3
  refine g_if_eq (pc := 8) (tgt := 22) dX11_paint_8 rfl (fun c_4 => ?_) (fun c_4 => ?_)
  · replace hF := am_yes c_4 hF
    refine g_iconst (pc := 22) (v := (0 : Int32)) dX11_paint_22 rfl ?_
    cases hF
    exact g_zret (pc := 23) rfl (Or.inl rfl) (Nat.le_refl _) (Nat.le_refl _) dX11_paint_23 ⟨(Or.inl rfl), rfl, rfl, rfl, rfl⟩
  · replace hF := am_no c_4 hF
    refine g_aload_n (pc := 11) dX11_paint_11 rfl rfl ?_
    refine g_getR (pc := 12) (k := 0) (r := 1) kf_X11_12.r rfl rfl (hPl.get (by decide) rfl) (hPl.lt (by decide)) dX11_paint_12 ?_
    refine g_iload_n (pc := 15) dX11_paint_15 rfl rfl ?_
    obtain ⟨r_6, h_5, hF⟩ := am_b1_el hF
    refine g_cVz (pc := 16) (k := 1) (As := [.int a2]) (st := []) ky_X9_hasColour kl_X11_93 (s_X9_hasColour_1 (d := 1) (hPl) (Nat.le_refl _) h_5) rfl rfl rfl (hPl.lt (by decide)) (Nat.le_trans (by decide) hd) (Nat.le_of_ble_eq_true rfl) (Nat.le_refl _) (Nat.le_refl _) dX11_paint_16 ?_
    intro z_7
    refine g_if_ne (pc := 19) (tgt := 24) dX11_paint_19 rfl (fun c_8 => ?_) (fun c_8 => ?_)
    · replace hF := am_no c_8 hF
      refine g_aload_n (pc := 24) dX11_paint_24 rfl rfl ?_
      refine g_getR (pc := 25) (k := 0) (r := 1) kf_X11_12.r rfl rfl (hPl.get (by decide) rfl) (hPl.lt (by decide)) dX11_paint_25 ?_
      refine g_getR (pc := 28) (k := 1) (r := 3) kf_X11_107 rfl rfl (hPl.get (by decide) rfl) (hPl.lt (by decide)) dX11_paint_28 ?_
      refine g_iload_n (pc := 31) dX11_paint_31 rfl rfl ?_
      refine g_iload_n (pc := 32) dX11_paint_32 rfl rfl ?_
      obtain ⟨c_9, hF⟩ := am_gd hF
      obtain ⟨I_10, e_I_10, hF⟩ := am_let_el hF
      refine n_iast (pc := 33) (k := 3) e_I_10 rfl (hPl.lt (by decide)) (am_ix_use c_9) dX11_paint_33 ?_
      refine g_iconst (pc := 34) (v := (1 : Int32)) dX11_paint_34 rfl ?_
      cases hF
      exact g_zret (pc := 35) rfl (Or.inr rfl) (Nat.le_refl _) (Nat.le_refl _) dX11_paint_35 ⟨(Or.inr rfl), rfl, rfl, rfl, rfl⟩
    · replace hF := am_yes c_8 hF
      refine g_iconst (pc := 22) (v := (0 : Int32)) dX11_paint_22 rfl ?_
      cases hF
      exact g_zret (pc := 23) rfl (Or.inl rfl) (Nat.le_refl _) (Nat.le_refl _) dX11_paint_23 ⟨(Or.inl rfl), rfl, rfl, rfl, rfl⟩
def F_X11_putNumber_0 (I : am_IT) (a1 : Int32) : Option (am_IT) := am_b1 (am_it am_fu (am_u2 (fun (l2_1 : Int32) (I_2 : am_IT) => if l2_1 < 0 then (some (.inr (I_2))) else (if (400 : Int32) ≤ (I_2 0 9) then (am_let (l2_1 + (-8 : Int32)) (fun (l2_11 : Int32) => some (.inl (l2_11, I_2)))) else (if am_ix (I_2 0 9) 400 = true then (am_let (up2 I_2 54 (I_2 0 9).toNatClampNeg (((a1.toUInt32 >>> (l2_1.toUInt32 &&& Int32.toUInt32 31)).toInt32) &&& (255 : Int32))) (fun (I_13 : am_IT) => am_let (up2 I_13 0 9 ((I_13 0 9) + (1 : Int32))) (fun (I_14 : am_IT) => am_let (l2_1 + (-8 : Int32)) (fun (l2_15 : Int32) => some (.inl (l2_15, I_14)))))) else none)))) ((24 : Int32), I)) (fun (I_3 : am_IT) => some I_3)
set_option maxRecDepth 100000 in
set_option maxHeartbeats 4000000 in
theorem s_X11_putNumber_0 {l : Launch} {d N : Nat} {P : am_PT} (hPl : am_Pl 94 N P) (hd : 1 ≤ d) {I : am_IT} {a1 : Int32} {I2 : am_IT} (hF : F_X11_putNumber_0 I a1 = some (I2)) : am_C l d 0 0 mX11_putNumber [.ref 0, .int a1] N P I (am_qv N P I2) := by
  refine am_body (sc := am_sc0) (n := 1) (by decide +kernel) (by decide) rfl ?_
  change G am_sc0 l d 0 0 mX11_putNumber (am_qv N P I2) 0 [.ref 0, .int a1, .null] [] N P I 0 0
  unfold F_X11_putNumber_0 at hF
  refine g_bipush (pc := 0) (v := (24 : Int32)) dX11_putNumber_0 rfl ?_
  refine n_istore_n (pc := 2) (ls2 := [.ref 0, .int a1, .int (24 : Int32)]) rfl rfl dX11_putNumber_2 rfl (Nat.le_of_ble_eq_true rfl) ?_
  obtain ⟨I_3, hL_7, hF⟩ := am_b1_el hF
  have hX_4 : G am_sc0 l d 0 0 mX11_putNumber (am_qv N P I2) 51 [.ref 0, .int a1, .null] [] N P I_3 0 0 := by
    cases hF
    exact g_vret (pc := 51) rfl (Nat.le_refl _) (Nat.le_refl _) dX11_putNumber_51 ⟨rfl, rfl, rfl, rfl⟩
  clear hF
  have hC := am_loop (C := fun x => G am_sc0 l d 0 0 mX11_putNumber (am_qv N P I2) 3 [.ref 0, .int a1, .int x.1] [] N P x.2 0 0) (by
    rintro ⟨l2_1, I_2⟩ rr hF ih_5 hE_6
    replace hF := am_u2_ap hF
    change G am_sc0 l d 0 0 mX11_putNumber (am_qv N P I2) 3 [.ref 0, .int a1, .int l2_1] [] N P I_2 0 0
    refine g_iload_n (pc := 3) dX11_putNumber_3 rfl rfl ?_
    refine g_if_lt (pc := 4) (tgt := 51) dX11_putNumber_4 rfl (fun c_9 => ?_) (fun c_9 => ?_)
    · replace hF := am_yes c_9 hF
      cases hF
      cases hE_6 _ rfl
      exact g_weak hX_4 ⟨Or.inr rfl, Or.inr rfl, Or.inl rfl, trivial⟩
    · replace hF := am_no c_9 hF
      refine g_aload_n (pc := 7) dX11_putNumber_7 rfl rfl ?_
      refine g_getI (pc := 8) (k := 0) kf_X11_73.r rfl rfl (hPl.lt (by decide)) dX11_putNumber_8 ?_
      refine g_aload_n (pc := 11) dX11_putNumber_11 rfl rfl ?_
      refine g_getR (pc := 12) (k := 0) (r := 54) kf_X11_69.r rfl rfl (hPl.get (by decide) rfl) (hPl.lt (by decide)) dX11_putNumber_12 ?_
      refine g_alen (pc := 15) (k := 54) (v := 400) rfl (hPl.lt (by decide)) rfl dX11_putNumber_15 ?_
      refine g_icmp_ge (pc := 16) (tgt := 45) dX11_putNumber_16 rfl (fun c_10 => ?_) (fun c_10 => ?_)
      · replace hF := am_yes c_10 hF
        obtain ⟨l2_11, e_l2_11, hF⟩ := am_let_el hF
        refine n_iinc (pc := 45) (ls2 := [.ref 0, .int a1, .int l2_11]) e_l2_11 (by rw [show Int32.ofInt (-8) = (-8 : Int32) from by decide]) rfl rfl dX11_putNumber_45 (Nat.le_of_ble_eq_true rfl) ?_
        refine g_goto (pc := 48) (tgt := 3) dX11_putNumber_48 rfl ?_
        cases hF
        exact ih_5 (l2_11, I_2) rfl
      · replace hF := am_no c_10 hF
        refine g_aload_n (pc := 19) dX11_putNumber_19 rfl rfl ?_
        refine g_getR (pc := 20) (k := 0) (r := 54) kf_X11_69.r rfl rfl (hPl.get (by decide) rfl) (hPl.lt (by decide)) dX11_putNumber_20 ?_
        refine g_aload_n (pc := 23) dX11_putNumber_23 rfl rfl ?_
        refine g_getI (pc := 24) (k := 0) kf_X11_73.r rfl rfl (hPl.lt (by decide)) dX11_putNumber_24 ?_
        refine g_iload_n (pc := 27) dX11_putNumber_27 rfl rfl ?_
        refine g_iload_n (pc := 28) dX11_putNumber_28 rfl rfl ?_
        refine g_iushr (pc := 29) dX11_putNumber_29 ?_
        refine g_sipush (pc := 30) (v := (255 : Int32)) dX11_putNumber_30 rfl ?_
        refine g_iand (pc := 33) dX11_putNumber_33 ?_
        obtain ⟨c_12, hF⟩ := am_gd hF
        obtain ⟨I_13, e_I_13, hF⟩ := am_let_el hF
        refine n_iast (pc := 34) (k := 54) e_I_13 rfl (hPl.lt (by decide)) (am_ix_use c_12) dX11_putNumber_34 ?_
        refine g_aload_n (pc := 35) dX11_putNumber_35 rfl rfl ?_
        refine g_dup (pc := 36) dX11_putNumber_36 ?_
        refine g_getI (pc := 37) (k := 0) kf_X11_73.r rfl rfl (hPl.lt (by decide)) dX11_putNumber_37 ?_
        refine g_iconst (pc := 40) (v := (1 : Int32)) dX11_putNumber_40 rfl ?_
        refine g_iadd (pc := 41) dX11_putNumber_41 ?_
        obtain ⟨I_14, e_I_14, hF⟩ := am_let_el hF
        refine n_putI (pc := 42) (k := 0) e_I_14 kf_X11_73 rfl rfl (hPl.lt (by decide)) dX11_putNumber_42 ?_
        obtain ⟨l2_15, e_l2_15, hF⟩ := am_let_el hF
        refine n_iinc (pc := 45) (ls2 := [.ref 0, .int a1, .int l2_15]) e_l2_15 (by rw [show Int32.ofInt (-8) = (-8 : Int32) from by decide]) rfl rfl dX11_putNumber_45 (Nat.le_of_ble_eq_true rfl) ?_
        refine g_goto (pc := 48) (tgt := 3) dX11_putNumber_48 rfl ?_
        cases hF
        exact ih_5 (l2_15, I_14) rfl
    ) _ _ hL_7
  exact hC
def F_X11_feed_0 (I : am_IT) (a1 : Int32) (a2 : Int32) (a3 : Int32) (a4 : Int32) (a5 : Int32) : Option (Int32 × am_IT) := if ((I 0 9) + (20 : Int32)) ≤ (400 : Int32) then (am_b1 (F_X11_putNumber_0 I a1) (fun (I_3 : am_IT) => am_b1 (F_X11_putNumber_0 I_3 a2) (fun (I_5 : am_IT) => am_b1 (F_X11_putNumber_0 I_5 a3) (fun (I_7 : am_IT) => am_b1 (F_X11_putNumber_0 I_7 a4) (fun (I_9 : am_IT) => am_b1 (F_X11_putNumber_0 I_9 a5) (fun (I_11 : am_IT) => some (I_11 0 9, I_11))))))) else (some ((-1 : Int32), I))
set_option maxRecDepth 100000 in
set_option maxHeartbeats 4000000 in
theorem s_X11_feed_0 {l : Launch} {d N : Nat} {P : am_PT} (hPl : am_Pl 94 N P) (hd : 2 ≤ d) {I : am_IT} {a1 : Int32} {a2 : Int32} {a3 : Int32} {a4 : Int32} {a5 : Int32} {r : Int32} {I2 : am_IT} (hF : F_X11_feed_0 I a1 a2 a3 a4 a5 = some (r, I2)) : am_C l d 0 0 mX11_feed [.ref 0, .int a1, .int a2, .int a3, .int a4, .int a5] N P I (am_qi r N P I2) := by
  refine am_body (sc := am_sc0) (n := 0) (by decide +kernel) (by decide) rfl ?_
  change G am_sc0 l d 0 0 mX11_feed (am_qi r N P I2) 0 [.ref 0, .int a1, .int a2, .int a3, .int a4, .int a5] [] N P I 0 0
  unfold F_X11_feed_0 at hF
  refine g_aload_n (pc := 0) dX11_feed_0 rfl rfl ?_
  refine g_getI (pc := 1) (k := 0) kf_X11_73.r rfl rfl (hPl.lt (by decide)) dX11_feed_1 ?_
  refine g_bipush (pc := 4) (v := (20 : Int32)) dX11_feed_4 rfl ?_
  refine g_iadd (pc := 6) dX11_feed_6 ?_
  refine g_sipush (pc := 7) (v := (400 : Int32)) dX11_feed_7 rfl ?_
  refine g_icmp_le (pc := 10) (tgt := 15) dX11_feed_10 rfl (fun c_1 => ?_) (fun c_1 => ?_)
  · replace hF := am_yes c_1 hF
    refine g_aload_n (pc := 15) dX11_feed_15 rfl rfl ?_
    refine g_iload_n (pc := 16) dX11_feed_16 rfl rfl ?_
    obtain ⟨I_3, h_2, hF⟩ := am_b1_el hF
    refine g_cVv (pc := 17) (k := 0) (As := [.int a1]) (st := []) ky_X11_putNumber kl_X11_153 (s_X11_putNumber_0 (d := 1) (hPl) (Nat.le_refl _) h_2) rfl rfl rfl (hPl.lt (by decide)) (Nat.le_trans (by decide) hd) (Nat.le_of_ble_eq_true rfl) (Nat.le_refl _) (Nat.le_refl _) dX11_feed_17 ?_
    refine g_aload_n (pc := 20) dX11_feed_20 rfl rfl ?_
    refine g_iload_n (pc := 21) dX11_feed_21 rfl rfl ?_
    obtain ⟨I_5, h_4, hF⟩ := am_b1_el hF
    refine g_cVv (pc := 22) (k := 0) (As := [.int a2]) (st := []) ky_X11_putNumber kl_X11_153 (s_X11_putNumber_0 (d := 1) (hPl) (Nat.le_refl _) h_4) rfl rfl rfl (hPl.lt (by decide)) (Nat.le_trans (by decide) hd) (Nat.le_of_ble_eq_true rfl) (Nat.le_refl _) (Nat.le_refl _) dX11_feed_22 ?_
    refine g_aload_n (pc := 25) dX11_feed_25 rfl rfl ?_
    refine g_iload_n (pc := 26) dX11_feed_26 rfl rfl ?_
    obtain ⟨I_7, h_6, hF⟩ := am_b1_el hF
    refine g_cVv (pc := 27) (k := 0) (As := [.int a3]) (st := []) ky_X11_putNumber kl_X11_153 (s_X11_putNumber_0 (d := 1) (hPl) (Nat.le_refl _) h_6) rfl rfl rfl (hPl.lt (by decide)) (Nat.le_trans (by decide) hd) (Nat.le_of_ble_eq_true rfl) (Nat.le_refl _) (Nat.le_refl _) dX11_feed_27 ?_
    refine g_aload_n (pc := 30) dX11_feed_30 rfl rfl ?_
    refine g_iload (pc := 31) dX11_feed_31 rfl ?_
    obtain ⟨I_9, h_8, hF⟩ := am_b1_el hF
    refine g_cVv (pc := 33) (k := 0) (As := [.int a4]) (st := []) ky_X11_putNumber kl_X11_153 (s_X11_putNumber_0 (d := 1) (hPl) (Nat.le_refl _) h_8) rfl rfl rfl (hPl.lt (by decide)) (Nat.le_trans (by decide) hd) (Nat.le_of_ble_eq_true rfl) (Nat.le_refl _) (Nat.le_refl _) dX11_feed_33 ?_
    refine g_aload_n (pc := 36) dX11_feed_36 rfl rfl ?_
    refine g_iload (pc := 37) dX11_feed_37 rfl ?_
    obtain ⟨I_11, h_10, hF⟩ := am_b1_el hF
    refine g_cVv (pc := 39) (k := 0) (As := [.int a5]) (st := []) ky_X11_putNumber kl_X11_153 (s_X11_putNumber_0 (d := 1) (hPl) (Nat.le_refl _) h_10) rfl rfl rfl (hPl.lt (by decide)) (Nat.le_trans (by decide) hd) (Nat.le_of_ble_eq_true rfl) (Nat.le_refl _) (Nat.le_refl _) dX11_feed_39 ?_
    refine g_aload_n (pc := 42) dX11_feed_42 rfl rfl ?_
    refine g_getI (pc := 43) (k := 0) kf_X11_73.r rfl rfl (hPl.lt (by decide)) dX11_feed_43 ?_
    cases hF
    exact g_iret (pc := 46) rfl (Nat.le_refl _) (Nat.le_refl _) dX11_feed_46 ⟨rfl, rfl, rfl, rfl⟩
  · replace hF := am_no c_1 hF
    refine g_iconst (pc := 13) (v := (-1 : Int32)) dX11_feed_13 (by decide) ?_
    cases hF
    exact g_iret (pc := 14) rfl (Nat.le_refl _) (Nat.le_refl _) dX11_feed_14 ⟨rfl, rfl, rfl, rfl⟩
def F_X11_end_0 (I : am_IT) (a1 : Int32) : Option (Int32 × am_IT) := am_b1 (F_X11_isWithin I a1 (0 : Int32) (I 0 9)) (fun (r_2 : Int32) => if r_2 = 0 then (some ((0 : Int32), I)) else (am_let (up2 I 0 9 a1) (fun (I_5 : am_IT) => some ((1 : Int32), I_5))))
set_option maxRecDepth 100000 in
set_option maxHeartbeats 4000000 in
theorem s_X11_end_0 {l : Launch} {d N : Nat} {P : am_PT} (hPl : am_Pl 94 N P) (hd : 2 ≤ d) {I : am_IT} {a1 : Int32} {r : Int32} {I2 : am_IT} (hF : F_X11_end_0 I a1 = some (r, I2)) : am_C l d 0 0 mX11_end [.ref 0, .int a1] N P I (am_qz r N P I2) := by
  refine am_body (sc := am_sc0) (n := 0) (by decide +kernel) (by decide) rfl ?_
  change G am_sc0 l d 0 0 mX11_end (am_qz r N P I2) 0 [.ref 0, .int a1] [] N P I 0 0
  unfold F_X11_end_0 at hF
  refine g_iload_n (pc := 0) dX11_end_0 rfl rfl ?_
  refine g_iconst (pc := 1) (v := (0 : Int32)) dX11_end_1 rfl ?_
  refine g_aload_n (pc := 2) dX11_end_2 rfl rfl ?_
  refine g_getI (pc := 3) (k := 0) kf_X11_73.r rfl rfl (hPl.lt (by decide)) dX11_end_3 ?_
  obtain ⟨r_2, h_1, hF⟩ := am_b1_el hF
  refine g_cSz (pc := 6) (As := [.int a1, .int (0 : Int32), .int (I 0 9)]) (st := []) ky_X11_isWithin kl_X11_97 (s_X11_isWithin (d := 1) (hPl) (Nat.le_refl _) h_1) rfl rfl (Nat.le_trans (by decide) hd) (Nat.le_of_ble_eq_true rfl) (Nat.le_refl _) (Nat.le_refl _) dX11_end_6 ?_
  intro z_3
  refine g_if_ne (pc := 9) (tgt := 14) dX11_end_9 rfl (fun c_4 => ?_) (fun c_4 => ?_)
  · replace hF := am_no c_4 hF
    refine g_aload_n (pc := 14) dX11_end_14 rfl rfl ?_
    refine g_iload_n (pc := 15) dX11_end_15 rfl rfl ?_
    obtain ⟨I_5, e_I_5, hF⟩ := am_let_el hF
    refine n_putI (pc := 16) (k := 0) e_I_5 kf_X11_73 rfl rfl (hPl.lt (by decide)) dX11_end_16 ?_
    refine g_iconst (pc := 19) (v := (1 : Int32)) dX11_end_19 rfl ?_
    cases hF
    exact g_zret (pc := 20) rfl (Or.inr rfl) (Nat.le_refl _) (Nat.le_refl _) dX11_end_20 ⟨(Or.inr rfl), rfl, rfl, rfl, rfl⟩
  · replace hF := am_yes c_4 hF
    refine g_iconst (pc := 12) (v := (0 : Int32)) dX11_end_12 rfl ?_
    cases hF
    exact g_zret (pc := 13) rfl (Or.inl rfl) (Nat.le_refl _) (Nat.le_refl _) dX11_end_13 ⟨(Or.inl rfl), rfl, rfl, rfl, rfl⟩
def F_X6_clear_48 (I : am_IT) : Option (am_IT) := am_let (up2 I 48 0 (0 : Int32)) (fun (I_1 : am_IT) => am_let (up2 I_1 48 1 (0 : Int32)) (fun (I_2 : am_IT) => some I_2))
set_option maxRecDepth 100000 in
set_option maxHeartbeats 4000000 in
theorem s_X6_clear_48 {l : Launch} {d N : Nat} {P : am_PT} (hPl : am_Pl 94 N P) (hd : 1 ≤ d) {I : am_IT} {I2 : am_IT} (hF : F_X6_clear_48 I = some (I2)) : am_C l d 0 0 mX6_clear [.ref 48] N P I (am_qv N P I2) := by
  refine am_body (sc := am_sc0) (n := 0) (by decide +kernel) (by decide) rfl ?_
  change G am_sc0 l d 0 0 mX6_clear (am_qv N P I2) 0 [.ref 48] [] N P I 0 0
  unfold F_X6_clear_48 at hF
  refine g_aload_n (pc := 0) dX6_clear_0 rfl rfl ?_
  refine g_iconst (pc := 1) (v := (0 : Int32)) dX6_clear_1 rfl ?_
  obtain ⟨I_1, e_I_1, hF⟩ := am_let_el hF
  refine n_putI (pc := 2) (k := 48) e_I_1 kf_X6_9 rfl rfl (hPl.lt (by decide)) dX6_clear_2 ?_
  refine g_aload_n (pc := 5) dX6_clear_5 rfl rfl ?_
  refine g_iconst (pc := 6) (v := (0 : Int32)) dX6_clear_6 rfl ?_
  obtain ⟨I_2, e_I_2, hF⟩ := am_let_el hF
  refine n_putI (pc := 7) (k := 48) e_I_2 kf_X6_15 rfl rfl (hPl.lt (by decide)) dX6_clear_7 ?_
  cases hF
  exact g_vret (pc := 10) rfl (Nat.le_refl _) (Nat.le_refl _) dX6_clear_10 ⟨rfl, rfl, rfl, rfl⟩
def F_X7_kindOf (I : am_IT) (a1 : Int32) : Option (Int32) := if a1 = (32 : Int32) then (some (1 : Int32)) else (if a1 = (10 : Int32) then (some (1 : Int32)) else (if a1 < (97 : Int32) then (if a1 < (65 : Int32) then (if a1 < (48 : Int32) then (some (0 : Int32)) else (if (57 : Int32) < a1 then (some (0 : Int32)) else (some (3 : Int32)))) else (if (90 : Int32) < a1 then (if a1 < (48 : Int32) then (some (0 : Int32)) else (if (57 : Int32) < a1 then (some (0 : Int32)) else (some (3 : Int32)))) else (some (2 : Int32)))) else (if a1 ≤ (122 : Int32) then (some (2 : Int32)) else (if a1 < (65 : Int32) then (if a1 < (48 : Int32) then (some (0 : Int32)) else (if (57 : Int32) < a1 then (some (0 : Int32)) else (some (3 : Int32)))) else (if (90 : Int32) < a1 then (if a1 < (48 : Int32) then (some (0 : Int32)) else (if (57 : Int32) < a1 then (some (0 : Int32)) else (some (3 : Int32)))) else (some (2 : Int32)))))))
set_option maxRecDepth 100000 in
set_option maxHeartbeats 4000000 in
theorem s_X7_kindOf {l : Launch} {d N : Nat} {P : am_PT} (hPl : am_Pl 94 N P) (hd : 1 ≤ d) {I : am_IT} {a1 : Int32} {r : Int32} (hF : F_X7_kindOf I a1 = some (r)) : am_C l d 0 0 mX7_kindOf [.int a1] N P I (am_qi r N P I) := by
  refine am_body (sc := am_sc0) (n := 0) (by decide +kernel) (by decide) rfl ?_
  change G am_sc0 l d 0 0 mX7_kindOf (am_qi r N P I) 0 [.int a1] [] N P I 0 0
  unfold F_X7_kindOf at hF
  refine g_iload_n (pc := 0) dX7_kindOf_0 rfl rfl ?_
  refine g_bipush (pc := 1) (v := (32 : Int32)) dX7_kindOf_1 rfl ?_
  refine g_icmp_eq (pc := 3) (tgt := 12) dX7_kindOf_3 rfl (fun c_1 => ?_) (fun c_1 => ?_)
  · replace hF := am_yes c_1 hF
    refine g_iconst (pc := 12) (v := (1 : Int32)) dX7_kindOf_12 rfl ?_
    cases hF
    exact g_iret (pc := 13) rfl (Nat.le_refl _) (Nat.le_refl _) dX7_kindOf_13 ⟨rfl, rfl, rfl, rfl⟩
  · replace hF := am_no c_1 hF
    refine g_iload_n (pc := 6) dX7_kindOf_6 rfl rfl ?_
    refine g_bipush (pc := 7) (v := (10 : Int32)) dX7_kindOf_7 rfl ?_
    refine g_icmp_ne (pc := 9) (tgt := 14) dX7_kindOf_9 rfl (fun c_2 => ?_) (fun c_2 => ?_)
    · replace hF := am_no c_2 hF
      refine g_iload_n (pc := 14) dX7_kindOf_14 rfl rfl ?_
      refine g_bipush (pc := 15) (v := (97 : Int32)) dX7_kindOf_15 rfl ?_
      refine g_icmp_lt (pc := 17) (tgt := 26) dX7_kindOf_17 rfl (fun c_3 => ?_) (fun c_3 => ?_)
      · replace hF := am_yes c_3 hF
        refine g_iload_n (pc := 26) dX7_kindOf_26 rfl rfl ?_
        refine g_bipush (pc := 27) (v := (65 : Int32)) dX7_kindOf_27 rfl ?_
        refine g_icmp_lt (pc := 29) (tgt := 40) dX7_kindOf_29 rfl (fun c_4 => ?_) (fun c_4 => ?_)
        · replace hF := am_yes c_4 hF
          refine g_iload_n (pc := 40) dX7_kindOf_40 rfl rfl ?_
          refine g_bipush (pc := 41) (v := (48 : Int32)) dX7_kindOf_41 rfl ?_
          refine g_icmp_lt (pc := 43) (tgt := 56) dX7_kindOf_43 rfl (fun c_5 => ?_) (fun c_5 => ?_)
          · replace hF := am_yes c_5 hF
            refine g_iconst (pc := 56) (v := (0 : Int32)) dX7_kindOf_56 rfl ?_
            cases hF
            exact g_iret (pc := 57) rfl (Nat.le_refl _) (Nat.le_refl _) dX7_kindOf_57 ⟨rfl, rfl, rfl, rfl⟩
          · replace hF := am_no c_5 hF
            refine g_iload_n (pc := 46) dX7_kindOf_46 rfl rfl ?_
            refine g_bipush (pc := 47) (v := (57 : Int32)) dX7_kindOf_47 rfl ?_
            refine g_icmp_gt (pc := 49) (tgt := 56) dX7_kindOf_49 rfl (fun c_6 => ?_) (fun c_6 => ?_)
            · replace hF := am_yes c_6 hF
              refine g_iconst (pc := 56) (v := (0 : Int32)) dX7_kindOf_56 rfl ?_
              cases hF
              exact g_iret (pc := 57) rfl (Nat.le_refl _) (Nat.le_refl _) dX7_kindOf_57 ⟨rfl, rfl, rfl, rfl⟩
            · replace hF := am_no c_6 hF
              refine g_iconst (pc := 52) (v := (3 : Int32)) dX7_kindOf_52 rfl ?_
              refine g_goto (pc := 53) (tgt := 57) dX7_kindOf_53 rfl ?_
              cases hF
              exact g_iret (pc := 57) rfl (Nat.le_refl _) (Nat.le_refl _) dX7_kindOf_57 ⟨rfl, rfl, rfl, rfl⟩
        · replace hF := am_no c_4 hF
          refine g_iload_n (pc := 32) dX7_kindOf_32 rfl rfl ?_
          refine g_bipush (pc := 33) (v := (90 : Int32)) dX7_kindOf_33 rfl ?_
          refine g_icmp_gt (pc := 35) (tgt := 40) dX7_kindOf_35 rfl (fun c_7 => ?_) (fun c_7 => ?_)
          · replace hF := am_yes c_7 hF
            refine g_iload_n (pc := 40) dX7_kindOf_40 rfl rfl ?_
            refine g_bipush (pc := 41) (v := (48 : Int32)) dX7_kindOf_41 rfl ?_
            refine g_icmp_lt (pc := 43) (tgt := 56) dX7_kindOf_43 rfl (fun c_8 => ?_) (fun c_8 => ?_)
            · replace hF := am_yes c_8 hF
              refine g_iconst (pc := 56) (v := (0 : Int32)) dX7_kindOf_56 rfl ?_
              cases hF
              exact g_iret (pc := 57) rfl (Nat.le_refl _) (Nat.le_refl _) dX7_kindOf_57 ⟨rfl, rfl, rfl, rfl⟩
            · replace hF := am_no c_8 hF
              refine g_iload_n (pc := 46) dX7_kindOf_46 rfl rfl ?_
              refine g_bipush (pc := 47) (v := (57 : Int32)) dX7_kindOf_47 rfl ?_
              refine g_icmp_gt (pc := 49) (tgt := 56) dX7_kindOf_49 rfl (fun c_9 => ?_) (fun c_9 => ?_)
              · replace hF := am_yes c_9 hF
                refine g_iconst (pc := 56) (v := (0 : Int32)) dX7_kindOf_56 rfl ?_
                cases hF
                exact g_iret (pc := 57) rfl (Nat.le_refl _) (Nat.le_refl _) dX7_kindOf_57 ⟨rfl, rfl, rfl, rfl⟩
              · replace hF := am_no c_9 hF
                refine g_iconst (pc := 52) (v := (3 : Int32)) dX7_kindOf_52 rfl ?_
                refine g_goto (pc := 53) (tgt := 57) dX7_kindOf_53 rfl ?_
                cases hF
                exact g_iret (pc := 57) rfl (Nat.le_refl _) (Nat.le_refl _) dX7_kindOf_57 ⟨rfl, rfl, rfl, rfl⟩
          · replace hF := am_no c_7 hF
            refine g_iconst (pc := 38) (v := (2 : Int32)) dX7_kindOf_38 rfl ?_
            cases hF
            exact g_iret (pc := 39) rfl (Nat.le_refl _) (Nat.le_refl _) dX7_kindOf_39 ⟨rfl, rfl, rfl, rfl⟩
      · replace hF := am_no c_3 hF
        refine g_iload_n (pc := 20) dX7_kindOf_20 rfl rfl ?_
        refine g_bipush (pc := 21) (v := (122 : Int32)) dX7_kindOf_21 rfl ?_
        refine g_icmp_le (pc := 23) (tgt := 38) dX7_kindOf_23 rfl (fun c_10 => ?_) (fun c_10 => ?_)
        · replace hF := am_yes c_10 hF
          refine g_iconst (pc := 38) (v := (2 : Int32)) dX7_kindOf_38 rfl ?_
          cases hF
          exact g_iret (pc := 39) rfl (Nat.le_refl _) (Nat.le_refl _) dX7_kindOf_39 ⟨rfl, rfl, rfl, rfl⟩
        · replace hF := am_no c_10 hF
          refine g_iload_n (pc := 26) dX7_kindOf_26 rfl rfl ?_
          refine g_bipush (pc := 27) (v := (65 : Int32)) dX7_kindOf_27 rfl ?_
          refine g_icmp_lt (pc := 29) (tgt := 40) dX7_kindOf_29 rfl (fun c_11 => ?_) (fun c_11 => ?_)
          · replace hF := am_yes c_11 hF
            refine g_iload_n (pc := 40) dX7_kindOf_40 rfl rfl ?_
            refine g_bipush (pc := 41) (v := (48 : Int32)) dX7_kindOf_41 rfl ?_
            refine g_icmp_lt (pc := 43) (tgt := 56) dX7_kindOf_43 rfl (fun c_12 => ?_) (fun c_12 => ?_)
            · replace hF := am_yes c_12 hF
              refine g_iconst (pc := 56) (v := (0 : Int32)) dX7_kindOf_56 rfl ?_
              cases hF
              exact g_iret (pc := 57) rfl (Nat.le_refl _) (Nat.le_refl _) dX7_kindOf_57 ⟨rfl, rfl, rfl, rfl⟩
            · replace hF := am_no c_12 hF
              refine g_iload_n (pc := 46) dX7_kindOf_46 rfl rfl ?_
              refine g_bipush (pc := 47) (v := (57 : Int32)) dX7_kindOf_47 rfl ?_
              refine g_icmp_gt (pc := 49) (tgt := 56) dX7_kindOf_49 rfl (fun c_13 => ?_) (fun c_13 => ?_)
              · replace hF := am_yes c_13 hF
                refine g_iconst (pc := 56) (v := (0 : Int32)) dX7_kindOf_56 rfl ?_
                cases hF
                exact g_iret (pc := 57) rfl (Nat.le_refl _) (Nat.le_refl _) dX7_kindOf_57 ⟨rfl, rfl, rfl, rfl⟩
              · replace hF := am_no c_13 hF
                refine g_iconst (pc := 52) (v := (3 : Int32)) dX7_kindOf_52 rfl ?_
                refine g_goto (pc := 53) (tgt := 57) dX7_kindOf_53 rfl ?_
                cases hF
                exact g_iret (pc := 57) rfl (Nat.le_refl _) (Nat.le_refl _) dX7_kindOf_57 ⟨rfl, rfl, rfl, rfl⟩
          · replace hF := am_no c_11 hF
            refine g_iload_n (pc := 32) dX7_kindOf_32 rfl rfl ?_
            refine g_bipush (pc := 33) (v := (90 : Int32)) dX7_kindOf_33 rfl ?_
            refine g_icmp_gt (pc := 35) (tgt := 40) dX7_kindOf_35 rfl (fun c_14 => ?_) (fun c_14 => ?_)
            · replace hF := am_yes c_14 hF
              refine g_iload_n (pc := 40) dX7_kindOf_40 rfl rfl ?_
              refine g_bipush (pc := 41) (v := (48 : Int32)) dX7_kindOf_41 rfl ?_
              refine g_icmp_lt (pc := 43) (tgt := 56) dX7_kindOf_43 rfl (fun c_15 => ?_) (fun c_15 => ?_)
              · replace hF := am_yes c_15 hF
                refine g_iconst (pc := 56) (v := (0 : Int32)) dX7_kindOf_56 rfl ?_
                cases hF
                exact g_iret (pc := 57) rfl (Nat.le_refl _) (Nat.le_refl _) dX7_kindOf_57 ⟨rfl, rfl, rfl, rfl⟩
              · replace hF := am_no c_15 hF
                refine g_iload_n (pc := 46) dX7_kindOf_46 rfl rfl ?_
                refine g_bipush (pc := 47) (v := (57 : Int32)) dX7_kindOf_47 rfl ?_
                refine g_icmp_gt (pc := 49) (tgt := 56) dX7_kindOf_49 rfl (fun c_16 => ?_) (fun c_16 => ?_)
                · replace hF := am_yes c_16 hF
                  refine g_iconst (pc := 56) (v := (0 : Int32)) dX7_kindOf_56 rfl ?_
                  cases hF
                  exact g_iret (pc := 57) rfl (Nat.le_refl _) (Nat.le_refl _) dX7_kindOf_57 ⟨rfl, rfl, rfl, rfl⟩
                · replace hF := am_no c_16 hF
                  refine g_iconst (pc := 52) (v := (3 : Int32)) dX7_kindOf_52 rfl ?_
                  refine g_goto (pc := 53) (tgt := 57) dX7_kindOf_53 rfl ?_
                  cases hF
                  exact g_iret (pc := 57) rfl (Nat.le_refl _) (Nat.le_refl _) dX7_kindOf_57 ⟨rfl, rfl, rfl, rfl⟩
            · replace hF := am_no c_14 hF
              refine g_iconst (pc := 38) (v := (2 : Int32)) dX7_kindOf_38 rfl ?_
              cases hF
              exact g_iret (pc := 39) rfl (Nat.le_refl _) (Nat.le_refl _) dX7_kindOf_39 ⟨rfl, rfl, rfl, rfl⟩
    · replace hF := am_yes c_2 hF
      refine g_iconst (pc := 12) (v := (1 : Int32)) dX7_kindOf_12 rfl ?_
      cases hF
      exact g_iret (pc := 13) rfl (Nat.le_refl _) (Nat.le_refl _) dX7_kindOf_13 ⟨rfl, rfl, rfl, rfl⟩
def F_X11_fault_0 (I : am_IT) (a1 : Int32) : Option (Int32) := if a1 = 0 then (some (I 0 10)) else (if a1 = (1 : Int32) then (some (I 0 11)) else (some (-1 : Int32)))
set_option maxRecDepth 100000 in
set_option maxHeartbeats 4000000 in
theorem s_X11_fault_0 {l : Launch} {d N : Nat} {P : am_PT} (hPl : am_Pl 94 N P) (hd : 1 ≤ d) {I : am_IT} {a1 : Int32} {r : Int32} (hF : F_X11_fault_0 I a1 = some (r)) : am_C l d 0 0 mX11_fault [.ref 0, .int a1] N P I (am_qi r N P I) := by
  refine am_body (sc := am_sc0) (n := 0) (by decide +kernel) (by decide) rfl ?_
  change G am_sc0 l d 0 0 mX11_fault (am_qi r N P I) 0 [.ref 0, .int a1] [] N P I 0 0
  unfold F_X11_fault_0 at hF
  refine g_iload_n (pc := 0) dX11_fault_0 rfl rfl ?_
  refine g_if_ne (pc := 1) (tgt := 9) dX11_fault_1 rfl (fun c_1 => ?_) (fun c_1 => ?_)
  · replace hF := am_no c_1 hF
    refine g_iload_n (pc := 9) dX11_fault_9 rfl rfl ?_
    refine g_iconst (pc := 10) (v := (1 : Int32)) dX11_fault_10 rfl ?_
    refine g_icmp_ne (pc := 11) (tgt := 21) dX11_fault_11 rfl (fun c_2 => ?_) (fun c_2 => ?_)
    · replace hF := am_no c_2 hF
      refine g_iconst (pc := 21) (v := (-1 : Int32)) dX11_fault_21 (by decide) ?_
      cases hF
      exact g_iret (pc := 22) rfl (Nat.le_refl _) (Nat.le_refl _) dX11_fault_22 ⟨rfl, rfl, rfl, rfl⟩
    · replace hF := am_yes c_2 hF
      refine g_aload_n (pc := 14) dX11_fault_14 rfl rfl ?_
      refine g_getI (pc := 15) (k := 0) kf_X11_80.r rfl rfl (hPl.lt (by decide)) dX11_fault_15 ?_
      refine g_goto (pc := 18) (tgt := 22) dX11_fault_18 rfl ?_
      cases hF
      exact g_iret (pc := 22) rfl (Nat.le_refl _) (Nat.le_refl _) dX11_fault_22 ⟨rfl, rfl, rfl, rfl⟩
  · replace hF := am_yes c_1 hF
    refine g_aload_n (pc := 4) dX11_fault_4 rfl rfl ?_
    refine g_getI (pc := 5) (k := 0) kf_X11_77.r rfl rfl (hPl.lt (by decide)) dX11_fault_5 ?_
    cases hF
    exact g_iret (pc := 8) rfl (Nat.le_refl _) (Nat.le_refl _) dX11_fault_8 ⟨rfl, rfl, rfl, rfl⟩
def F_X8_measure_23 (I : am_IT) : Option (am_IT) := if am_cpok (0 : Int32) (0 : Int32) (56 : Int32) 56 56 = true then (am_let (cpy2 I 5 24 (0 : Int32).toNatClampNeg (0 : Int32).toNatClampNeg (56 : Int32).toNatClampNeg) (fun (I_2 : am_IT) => am_b1 (am_it am_fu (am_u2 (fun (l1_3 : Int32) (I_4 : am_IT) => if (I_4 1 5) ≤ l1_3 then (some (.inr (I_4))) else (am_let (l1_3 * (3 : Int32)) (fun (l2_12 : Int32) => if am_ix (l2_12 + (2 : Int32)) 60 = true then (am_let ((I_4 1 2) - (I_4 6 (l2_12 + (2 : Int32)).toNatClampNeg)) (fun (l3_14 : Int32) => if am_ix (l2_12 + (0 : Int32)) 60 = true then (if am_ix (I_4 6 (l2_12 + (0 : Int32)).toNatClampNeg) 56 = true then (if am_ix (l2_12 + (1 : Int32)) 60 = true then (if am_ix (I_4 6 (l2_12 + (0 : Int32)).toNatClampNeg) 56 = true then (am_let (up2 I_4 24 (I_4 6 (l2_12 + (0 : Int32)).toNatClampNeg).toNatClampNeg ((I_4 24 (I_4 6 (l2_12 + (0 : Int32)).toNatClampNeg).toNatClampNeg) - (l3_14 * (I_4 6 (l2_12 + (1 : Int32)).toNatClampNeg)))) (fun (I_19 : am_IT) => am_let (l1_3 + (1 : Int32)) (fun (l1_20 : Int32) => some (.inl (l1_20, I_19))))) else none) else none) else none) else none)) else none)))) ((0 : Int32), I_2)) (fun (I_5 : am_IT) => am_b1 (am_it am_fu (am_u2 (fun (l1_21 : Int32) (I_22 : am_IT) => if (56 : Int32) ≤ l1_21 then (some (.inr (I_22))) else (if am_ix l1_21 56 = true then (if am_ix l1_21 56 = true then (am_let (up2 I_22 24 l1_21.toNatClampNeg (if (I_22 24 l1_21.toNatClampNeg) < (0 : Int32) then (0 : Int32) else (I_22 24 l1_21.toNatClampNeg))) (fun (I_32 : am_IT) => am_let (l1_21 + (1 : Int32)) (fun (l1_33 : Int32) => some (.inl (l1_33, I_32))))) else none) else none))) ((0 : Int32), I_5)) (fun (I_23 : am_IT) => some I_23)))) else none
set_option maxRecDepth 100000 in
set_option maxHeartbeats 4000000 in
theorem s_X8_measure_23 {l : Launch} {d N : Nat} {P : am_PT} (hPl : am_Pl 94 N P) (hd : 2 ≤ d) {I : am_IT} {I2 : am_IT} (hF : F_X8_measure_23 I = some (I2)) : am_C l d 0 0 mX8_measure [.ref 23] N P I (am_qv N P I2) := by
  refine am_body (sc := am_sc0) (n := 3) (by decide +kernel) (by decide) rfl ?_
  change G am_sc0 l d 0 0 mX8_measure (am_qv N P I2) 0 [.ref 23, .null, .null, .null] [] N P I 0 0
  unfold F_X8_measure_23 at hF
  refine g_aload_n (pc := 0) dX8_measure_0 rfl rfl ?_
  refine g_getR (pc := 1) (k := 23) (r := 1) kf_X8_15.r rfl rfl (hPl.get (by decide) rfl) (hPl.lt (by decide)) dX8_measure_1 ?_
  refine g_getR (pc := 4) (k := 1) (r := 5) kf_X8_19 rfl rfl (hPl.get (by decide) rfl) (hPl.lt (by decide)) dX8_measure_4 ?_
  refine g_iconst (pc := 7) (v := (0 : Int32)) dX8_measure_7 rfl ?_
  refine g_aload_n (pc := 8) dX8_measure_8 rfl rfl ?_
  refine g_getR (pc := 9) (k := 23) (r := 24) kf_X8_9.r rfl rfl (hPl.get (by decide) rfl) (hPl.lt (by decide)) dX8_measure_9 ?_
  refine g_iconst (pc := 12) (v := (0 : Int32)) dX8_measure_12 rfl ?_
  refine g_aload_n (pc := 13) dX8_measure_13 rfl rfl ?_
  refine g_getR (pc := 14) (k := 23) (r := 24) kf_X8_9.r rfl rfl (hPl.get (by decide) rfl) (hPl.lt (by decide)) dX8_measure_14 ?_
  refine g_alen (pc := 17) (k := 24) (v := 56) rfl (hPl.lt (by decide)) rfl dX8_measure_17 ?_
  obtain ⟨c_1, hF⟩ := am_gd hF
  obtain ⟨I_2, e_I_2, hF⟩ := am_let_el hF
  refine n_acopy (pc := 18) (a := 5) (b := 24) e_I_2 c_1 kl_X8_24 rfl rfl (hPl.lt (by decide)) (hPl.lt (by decide)) (Nat.le_trans (by decide) hd) (Nat.le_of_ble_eq_true rfl) dX8_measure_18 ?_
  refine g_iconst (pc := 21) (v := (0 : Int32)) dX8_measure_21 rfl ?_
  refine n_istore_n (pc := 22) (ls2 := [.ref 23, .int (0 : Int32), .null, .null]) rfl rfl dX8_measure_22 rfl (Nat.le_of_ble_eq_true rfl) ?_
  obtain ⟨I_5, hL_9, hF⟩ := am_b1_el hF
  have hX_6 : G am_sc0 l d 0 0 mX8_measure (am_qv N P I2) 96 [.ref 23, .null, .null, .null] [] N P I_5 0 0 := by
    refine g_iconst (pc := 96) (v := (0 : Int32)) dX8_measure_96 rfl ?_
    refine n_istore_n (pc := 97) (ls2 := [.ref 23, .int (0 : Int32), .null, .null]) rfl rfl dX8_measure_97 rfl (Nat.le_of_ble_eq_true rfl) ?_
    obtain ⟨I_23, hL_27, hF⟩ := am_b1_el hF
    have hX_24 : G am_sc0 l d 0 0 mX8_measure (am_qv N P I2) 129 [.ref 23, .null, .null, .null] [] N P I_23 0 0 := by
      cases hF
      exact g_vret (pc := 129) rfl (Nat.le_refl _) (Nat.le_refl _) dX8_measure_129 ⟨rfl, rfl, rfl, rfl⟩
    clear hF
    have hC := am_loop (C := fun x => G am_sc0 l d 0 0 mX8_measure (am_qv N P I2) 98 [.ref 23, .int x.1, .null, .null] [] N P x.2 0 0) (by
      rintro ⟨l1_21, I_22⟩ rr hF ih_25 hE_26
      replace hF := am_u2_ap hF
      change G am_sc0 l d 0 0 mX8_measure (am_qv N P I2) 98 [.ref 23, .int l1_21, .null, .null] [] N P I_22 0 0
      refine g_iload_n (pc := 98) dX8_measure_98 rfl rfl ?_
      refine g_aload_n (pc := 99) dX8_measure_99 rfl rfl ?_
      refine g_getR (pc := 100) (k := 23) (r := 24) kf_X8_9.r rfl rfl (hPl.get (by decide) rfl) (hPl.lt (by decide)) dX8_measure_100 ?_
      refine g_alen (pc := 103) (k := 24) (v := 56) rfl (hPl.lt (by decide)) rfl dX8_measure_103 ?_
      refine g_icmp_ge (pc := 104) (tgt := 129) dX8_measure_104 rfl (fun c_29 => ?_) (fun c_29 => ?_)
      · replace hF := am_yes c_29 hF
        cases hF
        cases hE_26 _ rfl
        exact g_weak hX_24 ⟨Or.inr rfl, Or.inl rfl, Or.inl rfl, Or.inl rfl, trivial⟩
      · replace hF := am_no c_29 hF
        refine g_aload_n (pc := 107) dX8_measure_107 rfl rfl ?_
        refine g_getR (pc := 108) (k := 23) (r := 24) kf_X8_9.r rfl rfl (hPl.get (by decide) rfl) (hPl.lt (by decide)) dX8_measure_108 ?_
        refine g_iload_n (pc := 111) dX8_measure_111 rfl rfl ?_
        refine g_aload_n (pc := 112) dX8_measure_112 rfl rfl ?_
        refine g_getR (pc := 113) (k := 23) (r := 24) kf_X8_9.r rfl rfl (hPl.get (by decide) rfl) (hPl.lt (by decide)) dX8_measure_113 ?_
        refine g_iload_n (pc := 116) dX8_measure_116 rfl rfl ?_
        obtain ⟨c_30, hF⟩ := am_gd hF
        refine g_iald (pc := 117) (k := 24) rfl (hPl.lt (by decide)) (am_ix_use c_30) dX8_measure_117 ?_
        refine g_iconst (pc := 118) (v := (0 : Int32)) dX8_measure_118 rfl ?_
        refine g_mmax (pc := 119) kl_X8_40 kz_maxs kz_mi kz_maxc (Nat.le_trans (by decide) hd) (Nat.le_of_ble_eq_true rfl) (Nat.le_refl _) (Nat.le_refl _) dX8_measure_119 ?_
        obtain ⟨c_31, hF⟩ := am_gd hF
        obtain ⟨I_32, e_I_32, hF⟩ := am_let_el hF
        refine n_iast (pc := 122) (k := 24) e_I_32 rfl (hPl.lt (by decide)) (am_ix_use c_31) dX8_measure_122 ?_
        obtain ⟨l1_33, e_l1_33, hF⟩ := am_let_el hF
        refine n_iinc (pc := 123) (ls2 := [.ref 23, .int l1_33, .null, .null]) e_l1_33 rfl rfl rfl dX8_measure_123 (Nat.le_of_ble_eq_true rfl) ?_
        refine g_goto (pc := 126) (tgt := 98) dX8_measure_126 rfl ?_
        cases hF
        exact ih_25 (l1_33, I_32) rfl
      ) _ _ hL_27
    exact hC
  clear hF
  have hC := am_loop (C := fun x => G am_sc0 l d 0 0 mX8_measure (am_qv N P I2) 23 [.ref 23, .int x.1, .null, .null] [] N P x.2 0 0) (by
    rintro ⟨l1_3, I_4⟩ rr hF ih_7 hE_8
    replace hF := am_u2_ap hF
    change G am_sc0 l d 0 0 mX8_measure (am_qv N P I2) 23 [.ref 23, .int l1_3, .null, .null] [] N P I_4 0 0
    refine g_iload_n (pc := 23) dX8_measure_23 rfl rfl ?_
    refine g_aload_n (pc := 24) dX8_measure_24 rfl rfl ?_
    refine g_getR (pc := 25) (k := 23) (r := 1) kf_X8_15.r rfl rfl (hPl.get (by decide) rfl) (hPl.lt (by decide)) dX8_measure_25 ?_
    refine g_getI (pc := 28) (k := 1) kf_X8_30.r rfl rfl (hPl.lt (by decide)) dX8_measure_28 ?_
    refine g_icmp_ge (pc := 31) (tgt := 96) dX8_measure_31 rfl (fun c_11 => ?_) (fun c_11 => ?_)
    · replace hF := am_yes c_11 hF
      cases hF
      cases hE_8 _ rfl
      exact g_weak hX_6 ⟨Or.inr rfl, Or.inl rfl, Or.inl rfl, Or.inl rfl, trivial⟩
    · replace hF := am_no c_11 hF
      refine g_iload_n (pc := 34) dX8_measure_34 rfl rfl ?_
      refine g_iconst (pc := 35) (v := (3 : Int32)) dX8_measure_35 rfl ?_
      refine g_imul (pc := 36) dX8_measure_36 ?_
      obtain ⟨l2_12, e_l2_12, hF⟩ := am_let_el hF
      refine n_istore_n (pc := 37) (ls2 := [.ref 23, .int l1_3, .int l2_12, .null]) e_l2_12 rfl dX8_measure_37 rfl (Nat.le_of_ble_eq_true rfl) ?_
      refine g_aload_n (pc := 38) dX8_measure_38 rfl rfl ?_
      refine g_getR (pc := 39) (k := 23) (r := 1) kf_X8_15.r rfl rfl (hPl.get (by decide) rfl) (hPl.lt (by decide)) dX8_measure_39 ?_
      refine g_getI (pc := 42) (k := 1) kf_X8_34.r rfl rfl (hPl.lt (by decide)) dX8_measure_42 ?_
      refine g_aload_n (pc := 45) dX8_measure_45 rfl rfl ?_
      refine g_getR (pc := 46) (k := 23) (r := 1) kf_X8_15.r rfl rfl (hPl.get (by decide) rfl) (hPl.lt (by decide)) dX8_measure_46 ?_
      refine g_getR (pc := 49) (k := 1) (r := 6) kf_X8_37 rfl rfl (hPl.get (by decide) rfl) (hPl.lt (by decide)) dX8_measure_49 ?_
      refine g_iload_n (pc := 52) dX8_measure_52 rfl rfl ?_
      refine g_iconst (pc := 53) (v := (2 : Int32)) dX8_measure_53 rfl ?_
      refine g_iadd (pc := 54) dX8_measure_54 ?_
      obtain ⟨c_13, hF⟩ := am_gd hF
      refine g_iald (pc := 55) (k := 6) rfl (hPl.lt (by decide)) (am_ix_use c_13) dX8_measure_55 ?_
      refine g_isub (pc := 56) dX8_measure_56 ?_
      obtain ⟨l3_14, e_l3_14, hF⟩ := am_let_el hF
      refine n_istore_n (pc := 57) (ls2 := [.ref 23, .int l1_3, .int l2_12, .int l3_14]) e_l3_14 rfl dX8_measure_57 rfl (Nat.le_of_ble_eq_true rfl) ?_
      refine g_aload_n (pc := 58) dX8_measure_58 rfl rfl ?_
      refine g_getR (pc := 59) (k := 23) (r := 24) kf_X8_9.r rfl rfl (hPl.get (by decide) rfl) (hPl.lt (by decide)) dX8_measure_59 ?_
      refine g_aload_n (pc := 62) dX8_measure_62 rfl rfl ?_
      refine g_getR (pc := 63) (k := 23) (r := 1) kf_X8_15.r rfl rfl (hPl.get (by decide) rfl) (hPl.lt (by decide)) dX8_measure_63 ?_
      refine g_getR (pc := 66) (k := 1) (r := 6) kf_X8_37 rfl rfl (hPl.get (by decide) rfl) (hPl.lt (by decide)) dX8_measure_66 ?_
      refine g_iload_n (pc := 69) dX8_measure_69 rfl rfl ?_
      refine g_iconst (pc := 70) (v := (0 : Int32)) dX8_measure_70 rfl ?_
      refine g_iadd (pc := 71) dX8_measure_71 ?_
      obtain ⟨c_15, hF⟩ := am_gd hF
      refine g_iald (pc := 72) (k := 6) rfl (hPl.lt (by decide)) (am_ix_use c_15) dX8_measure_72 ?_
      refine g_dup2 (pc := 73) dX8_measure_73 ?_
      obtain ⟨c_16, hF⟩ := am_gd hF
      refine g_iald (pc := 74) (k := 24) rfl (hPl.lt (by decide)) (am_ix_use c_16) dX8_measure_74 ?_
      refine g_iload_n (pc := 75) dX8_measure_75 rfl rfl ?_
      refine g_aload_n (pc := 76) dX8_measure_76 rfl rfl ?_
      refine g_getR (pc := 77) (k := 23) (r := 1) kf_X8_15.r rfl rfl (hPl.get (by decide) rfl) (hPl.lt (by decide)) dX8_measure_77 ?_
      refine g_getR (pc := 80) (k := 1) (r := 6) kf_X8_37 rfl rfl (hPl.get (by decide) rfl) (hPl.lt (by decide)) dX8_measure_80 ?_
      refine g_iload_n (pc := 83) dX8_measure_83 rfl rfl ?_
      refine g_iconst (pc := 84) (v := (1 : Int32)) dX8_measure_84 rfl ?_
      refine g_iadd (pc := 85) dX8_measure_85 ?_
      obtain ⟨c_17, hF⟩ := am_gd hF
      refine g_iald (pc := 86) (k := 6) rfl (hPl.lt (by decide)) (am_ix_use c_17) dX8_measure_86 ?_
      refine g_imul (pc := 87) dX8_measure_87 ?_
      refine g_isub (pc := 88) dX8_measure_88 ?_
      obtain ⟨c_18, hF⟩ := am_gd hF
      obtain ⟨I_19, e_I_19, hF⟩ := am_let_el hF
      refine n_iast (pc := 89) (k := 24) e_I_19 rfl (hPl.lt (by decide)) (am_ix_use c_18) dX8_measure_89 ?_
      obtain ⟨l1_20, e_l1_20, hF⟩ := am_let_el hF
      refine n_iinc (pc := 90) (ls2 := [.ref 23, .int l1_20, .int l2_12, .int l3_14]) e_l1_20 rfl rfl rfl dX8_measure_90 (Nat.le_of_ble_eq_true rfl) ?_
      refine g_goto (pc := 93) (tgt := 23) dX8_measure_93 rfl ?_
      cases hF
      exact g_weak (ih_7 (l1_20, I_19) rfl) ⟨Or.inr rfl, Or.inr rfl, Or.inl rfl, Or.inl rfl, trivial⟩
    ) _ _ hL_9
  exact hC
def F_X8_yardsOf_23 (I : am_IT) (a1 : Int32) (a2 : Int32) : Option (Int32) := if am_ix a1 7 = true then (if am_ix (((I 4 a1.toNatClampNeg) * (7 : Int32)) + a2) 56 = true then (some (I 24 (((I 4 a1.toNatClampNeg) * (7 : Int32)) + a2).toNatClampNeg)) else none) else none
set_option maxRecDepth 100000 in
set_option maxHeartbeats 4000000 in
theorem s_X8_yardsOf_23 {l : Launch} {d N : Nat} {P : am_PT} (hPl : am_Pl 94 N P) (hd : 1 ≤ d) {I : am_IT} {a1 : Int32} {a2 : Int32} {r : Int32} (hF : F_X8_yardsOf_23 I a1 a2 = some (r)) : am_C l d 0 0 mX8_yardsOf [.ref 23, .int a1, .int a2] N P I (am_qi r N P I) := by
  refine am_body (sc := am_sc0) (n := 0) (by decide +kernel) (by decide) rfl ?_
  change G am_sc0 l d 0 0 mX8_yardsOf (am_qi r N P I) 0 [.ref 23, .int a1, .int a2] [] N P I 0 0
  unfold F_X8_yardsOf_23 at hF
  refine g_aload_n (pc := 0) dX8_yardsOf_0 rfl rfl ?_
  refine g_getR (pc := 1) (k := 23) (r := 24) kf_X8_9.r rfl rfl (hPl.get (by decide) rfl) (hPl.lt (by decide)) dX8_yardsOf_1 ?_
  refine g_aload_n (pc := 4) dX8_yardsOf_4 rfl rfl ?_
  refine g_getR (pc := 5) (k := 23) (r := 1) kf_X8_15.r rfl rfl (hPl.get (by decide) rfl) (hPl.lt (by decide)) dX8_yardsOf_5 ?_
  refine g_getR (pc := 8) (k := 1) (r := 4) kf_X8_46 rfl rfl (hPl.get (by decide) rfl) (hPl.lt (by decide)) dX8_yardsOf_8 ?_
  refine g_iload_n (pc := 11) dX8_yardsOf_11 rfl rfl ?_
  obtain ⟨c_1, hF⟩ := am_gd hF
  refine g_iald (pc := 12) (k := 4) rfl (hPl.lt (by decide)) (am_ix_use c_1) dX8_yardsOf_12 ?_
  refine g_bipush (pc := 13) (v := (7 : Int32)) dX8_yardsOf_13 rfl ?_
  refine g_imul (pc := 15) dX8_yardsOf_15 ?_
  refine g_iload_n (pc := 16) dX8_yardsOf_16 rfl rfl ?_
  refine g_iadd (pc := 17) dX8_yardsOf_17 ?_
  obtain ⟨c_2, hF⟩ := am_gd hF
  refine g_iald (pc := 18) (k := 24) rfl (hPl.lt (by decide)) (am_ix_use c_2) dX8_yardsOf_18 ?_
  cases hF
  exact g_iret (pc := 19) rfl (Nat.le_refl _) (Nat.le_refl _) dX8_yardsOf_19 ⟨rfl, rfl, rfl, rfl⟩
def F_X11_sees_0 (I : am_IT) (a1 : Int32) (a2 : Int32) : Option (Int32 × am_IT) := am_b1 (F_X9_hasPerson_1 I a1) (fun (r_2 : Int32) => if r_2 = 0 then (some ((-1 : Int32), I)) else (am_b1 (F_X9_hasWall_1 I a2) (fun (r_6 : Int32) => if r_6 = 0 then (some ((-1 : Int32), I)) else (am_b1 (F_X8_measure_23 I) (fun (I_10 : am_IT) => am_b1 (F_X8_yardsOf_23 I_10 a1 a2) (fun (r_12 : Int32) => some (r_12, I_10)))))))
set_option maxRecDepth 100000 in
set_option maxHeartbeats 4000000 in
theorem s_X11_sees_0 {l : Launch} {d N : Nat} {P : am_PT} (hPl : am_Pl 94 N P) (hd : 3 ≤ d) {I : am_IT} {a1 : Int32} {a2 : Int32} {r : Int32} {I2 : am_IT} (hF : F_X11_sees_0 I a1 a2 = some (r, I2)) : am_C l d 0 0 mX11_sees [.ref 0, .int a1, .int a2] N P I (am_qi r N P I2) := by
  refine am_body (sc := am_sc0) (n := 0) (by decide +kernel) (by decide) rfl ?_
  change G am_sc0 l d 0 0 mX11_sees (am_qi r N P I2) 0 [.ref 0, .int a1, .int a2] [] N P I 0 0
  unfold F_X11_sees_0 at hF
  refine g_aload_n (pc := 0) dX11_sees_0 rfl rfl ?_
  refine g_getR (pc := 1) (k := 0) (r := 1) kf_X11_12.r rfl rfl (hPl.get (by decide) rfl) (hPl.lt (by decide)) dX11_sees_1 ?_
  refine g_iload_n (pc := 4) dX11_sees_4 rfl rfl ?_
  obtain ⟨r_2, h_1, hF⟩ := am_b1_el hF
  refine g_cVz (pc := 5) (k := 1) (As := [.int a1]) (st := []) ky_X9_hasPerson kl_X11_123 (s_X9_hasPerson_1 (d := 1) (hPl) (Nat.le_refl _) h_1) rfl rfl rfl (hPl.lt (by decide)) (Nat.le_trans (by decide) hd) (Nat.le_of_ble_eq_true rfl) (Nat.le_refl _) (Nat.le_refl _) dX11_sees_5 ?_
  intro z_3
  refine g_if_eq (pc := 8) (tgt := 22) dX11_sees_8 rfl (fun c_4 => ?_) (fun c_4 => ?_)
  · replace hF := am_yes c_4 hF
    refine g_iconst (pc := 22) (v := (-1 : Int32)) dX11_sees_22 (by decide) ?_
    cases hF
    exact g_iret (pc := 23) rfl (Nat.le_refl _) (Nat.le_refl _) dX11_sees_23 ⟨rfl, rfl, rfl, rfl⟩
  · replace hF := am_no c_4 hF
    refine g_aload_n (pc := 11) dX11_sees_11 rfl rfl ?_
    refine g_getR (pc := 12) (k := 0) (r := 1) kf_X11_12.r rfl rfl (hPl.get (by decide) rfl) (hPl.lt (by decide)) dX11_sees_12 ?_
    refine g_iload_n (pc := 15) dX11_sees_15 rfl rfl ?_
    obtain ⟨r_6, h_5, hF⟩ := am_b1_el hF
    refine g_cVz (pc := 16) (k := 1) (As := [.int a2]) (st := []) ky_X9_hasWall kl_X11_126 (s_X9_hasWall_1 (d := 1) (hPl) (Nat.le_refl _) h_5) rfl rfl rfl (hPl.lt (by decide)) (Nat.le_trans (by decide) hd) (Nat.le_of_ble_eq_true rfl) (Nat.le_refl _) (Nat.le_refl _) dX11_sees_16 ?_
    intro z_7
    refine g_if_ne (pc := 19) (tgt := 24) dX11_sees_19 rfl (fun c_8 => ?_) (fun c_8 => ?_)
    · replace hF := am_no c_8 hF
      refine g_aload_n (pc := 24) dX11_sees_24 rfl rfl ?_
      refine g_getR (pc := 25) (k := 0) (r := 23) kf_X11_21.r rfl rfl (hPl.get (by decide) rfl) (hPl.lt (by decide)) dX11_sees_25 ?_
      obtain ⟨I_10, h_9, hF⟩ := am_b1_el hF
      refine g_cVv (pc := 28) (k := 23) (As := []) (st := []) ky_X8_measure kl_X11_178 (s_X8_measure_23 (d := 2) (hPl) (Nat.le_refl _) h_9) rfl rfl rfl (hPl.lt (by decide)) (Nat.le_trans (by decide) hd) (Nat.le_of_ble_eq_true rfl) (Nat.le_refl _) (Nat.le_refl _) dX11_sees_28 ?_
      refine g_aload_n (pc := 31) dX11_sees_31 rfl rfl ?_
      refine g_getR (pc := 32) (k := 0) (r := 23) kf_X11_21.r rfl rfl (hPl.get (by decide) rfl) (hPl.lt (by decide)) dX11_sees_32 ?_
      refine g_iload_n (pc := 35) dX11_sees_35 rfl rfl ?_
      refine g_iload_n (pc := 36) dX11_sees_36 rfl rfl ?_
      obtain ⟨r_12, h_11, hF⟩ := am_b1_el hF
      refine g_cVi (pc := 37) (k := 23) (As := [.int a1, .int a2]) (st := []) ky_X8_yardsOf kl_X11_181 (s_X8_yardsOf_23 (d := 1) (hPl) (Nat.le_refl _) h_11) rfl rfl rfl (hPl.lt (by decide)) (Nat.le_trans (by decide) hd) (Nat.le_of_ble_eq_true rfl) (Nat.le_refl _) (Nat.le_refl _) dX11_sees_37 ?_
      cases hF
      exact g_iret (pc := 40) rfl (Nat.le_refl _) (Nat.le_refl _) dX11_sees_40 ⟨rfl, rfl, rfl, rfl⟩
    · replace hF := am_yes c_8 hF
      refine g_iconst (pc := 22) (v := (-1 : Int32)) dX11_sees_22 (by decide) ?_
      cases hF
      exact g_iret (pc := 23) rfl (Nat.le_refl _) (Nat.le_refl _) dX11_sees_23 ⟨rfl, rfl, rfl, rfl⟩
def F_X8_yardsFrom_23 (I : am_IT) (a1 : Int32) (a2 : Int32) : Option (Int32) := if am_ix ((a1 * (7 : Int32)) + a2) 56 = true then (some (I 24 ((a1 * (7 : Int32)) + a2).toNatClampNeg)) else none
set_option maxRecDepth 100000 in
set_option maxHeartbeats 4000000 in
theorem s_X8_yardsFrom_23 {l : Launch} {d N : Nat} {P : am_PT} (hPl : am_Pl 94 N P) (hd : 1 ≤ d) {I : am_IT} {a1 : Int32} {a2 : Int32} {r : Int32} (hF : F_X8_yardsFrom_23 I a1 a2 = some (r)) : am_C l d 0 0 mX8_yardsFrom [.ref 23, .int a1, .int a2] N P I (am_qi r N P I) := by
  refine am_body (sc := am_sc0) (n := 0) (by decide +kernel) (by decide) rfl ?_
  change G am_sc0 l d 0 0 mX8_yardsFrom (am_qi r N P I) 0 [.ref 23, .int a1, .int a2] [] N P I 0 0
  unfold F_X8_yardsFrom_23 at hF
  refine g_aload_n (pc := 0) dX8_yardsFrom_0 rfl rfl ?_
  refine g_getR (pc := 1) (k := 23) (r := 24) kf_X8_9.r rfl rfl (hPl.get (by decide) rfl) (hPl.lt (by decide)) dX8_yardsFrom_1 ?_
  refine g_iload_n (pc := 4) dX8_yardsFrom_4 rfl rfl ?_
  refine g_bipush (pc := 5) (v := (7 : Int32)) dX8_yardsFrom_5 rfl ?_
  refine g_imul (pc := 7) dX8_yardsFrom_7 ?_
  refine g_iload_n (pc := 8) dX8_yardsFrom_8 rfl rfl ?_
  refine g_iadd (pc := 9) dX8_yardsFrom_9 ?_
  obtain ⟨c_1, hF⟩ := am_gd hF
  refine g_iald (pc := 10) (k := 24) rfl (hPl.lt (by decide)) (am_ix_use c_1) dX8_yardsFrom_10 ?_
  cases hF
  exact g_iret (pc := 11) rfl (Nat.le_refl _) (Nat.le_refl _) dX8_yardsFrom_11 ⟨rfl, rfl, rfl, rfl⟩
def F_X8_worthOfTwo_23 (I : am_IT) (a1 : Int32) (a2 : Int32) (a3 : Int32) (a4 : Int32) : Option (Int32) := if am_ix ((a3 * (7 : Int32)) + a4) 49 = true then (if (I 10 ((a3 * (7 : Int32)) + a4).toNatClampNeg) = 0 then (some (0 : Int32)) else (if am_ix a1 7 = true then (am_b1 (F_X8_yardsFrom_23 I a2 a3) (fun (r_5 : Int32) => am_b1 (F_X8_yardsFrom_23 I a2 a4) (fun (r_7 : Int32) => some ((I 9 a1.toNatClampNeg) * (if r_7 < r_5 then r_7 else r_5))))) else none)) else none
set_option maxRecDepth 100000 in
set_option maxHeartbeats 4000000 in
theorem s_X8_worthOfTwo_23 {l : Launch} {d N : Nat} {P : am_PT} (hPl : am_Pl 94 N P) (hd : 2 ≤ d) {I : am_IT} {a1 : Int32} {a2 : Int32} {a3 : Int32} {a4 : Int32} {r : Int32} (hF : F_X8_worthOfTwo_23 I a1 a2 a3 a4 = some (r)) : am_C l d 0 0 mX8_worthOfTwo [.ref 23, .int a1, .int a2, .int a3, .int a4] N P I (am_qi r N P I) := by
  refine am_body (sc := am_sc0) (n := 0) (by decide +kernel) (by decide) rfl ?_
  change G am_sc0 l d 0 0 mX8_worthOfTwo (am_qi r N P I) 0 [.ref 23, .int a1, .int a2, .int a3, .int a4] [] N P I 0 0
  unfold F_X8_worthOfTwo_23 at hF
  refine g_aload_n (pc := 0) dX8_worthOfTwo_0 rfl rfl ?_
  refine g_getR (pc := 1) (k := 23) (r := 1) kf_X8_15.r rfl rfl (hPl.get (by decide) rfl) (hPl.lt (by decide)) dX8_worthOfTwo_1 ?_
  refine g_getR (pc := 4) (k := 1) (r := 10) kf_X8_49 rfl rfl (hPl.get (by decide) rfl) (hPl.lt (by decide)) dX8_worthOfTwo_4 ?_
  refine g_iload_n (pc := 7) dX8_worthOfTwo_7 rfl rfl ?_
  refine g_bipush (pc := 8) (v := (7 : Int32)) dX8_worthOfTwo_8 rfl ?_
  refine g_imul (pc := 10) dX8_worthOfTwo_10 ?_
  refine g_iload (pc := 11) dX8_worthOfTwo_11 rfl ?_
  refine g_iadd (pc := 13) dX8_worthOfTwo_13 ?_
  obtain ⟨c_1, hF⟩ := am_gd hF
  refine g_iald (pc := 14) (k := 10) rfl (hPl.lt (by decide)) (am_ix_use c_1) dX8_worthOfTwo_14 ?_
  refine g_if_ne (pc := 15) (tgt := 20) dX8_worthOfTwo_15 rfl (fun c_2 => ?_) (fun c_2 => ?_)
  · replace hF := am_no c_2 hF
    refine g_aload_n (pc := 20) dX8_worthOfTwo_20 rfl rfl ?_
    refine g_getR (pc := 21) (k := 23) (r := 1) kf_X8_15.r rfl rfl (hPl.get (by decide) rfl) (hPl.lt (by decide)) dX8_worthOfTwo_21 ?_
    refine g_getR (pc := 24) (k := 1) (r := 9) kf_X8_52 rfl rfl (hPl.get (by decide) rfl) (hPl.lt (by decide)) dX8_worthOfTwo_24 ?_
    refine g_iload_n (pc := 27) dX8_worthOfTwo_27 rfl rfl ?_
    obtain ⟨c_3, hF⟩ := am_gd hF
    refine g_iald (pc := 28) (k := 9) rfl (hPl.lt (by decide)) (am_ix_use c_3) dX8_worthOfTwo_28 ?_
    refine g_aload_n (pc := 29) dX8_worthOfTwo_29 rfl rfl ?_
    refine g_iload_n (pc := 30) dX8_worthOfTwo_30 rfl rfl ?_
    refine g_iload_n (pc := 31) dX8_worthOfTwo_31 rfl rfl ?_
    obtain ⟨r_5, h_4, hF⟩ := am_b1_el hF
    refine g_cVi (pc := 32) (k := 23) (As := [.int a2, .int a3]) (st := [.int (I 9 a1.toNatClampNeg)]) ky_X8_yardsFrom kl_X8_55 (s_X8_yardsFrom_23 (d := 1) (hPl) (Nat.le_refl _) h_4) rfl rfl rfl (hPl.lt (by decide)) (Nat.le_trans (by decide) hd) (Nat.le_of_ble_eq_true rfl) (Nat.le_refl _) (Nat.le_refl _) dX8_worthOfTwo_32 ?_
    refine g_aload_n (pc := 35) dX8_worthOfTwo_35 rfl rfl ?_
    refine g_iload_n (pc := 36) dX8_worthOfTwo_36 rfl rfl ?_
    refine g_iload (pc := 37) dX8_worthOfTwo_37 rfl ?_
    obtain ⟨r_7, h_6, hF⟩ := am_b1_el hF
    refine g_cVi (pc := 39) (k := 23) (As := [.int a2, .int a4]) (st := [.int r_5, .int (I 9 a1.toNatClampNeg)]) ky_X8_yardsFrom kl_X8_55 (s_X8_yardsFrom_23 (d := 1) (hPl) (Nat.le_refl _) h_6) rfl rfl rfl (hPl.lt (by decide)) (Nat.le_trans (by decide) hd) (Nat.le_of_ble_eq_true rfl) (Nat.le_refl _) (Nat.le_refl _) dX8_worthOfTwo_39 ?_
    refine g_mmin (pc := 42) kl_X8_58 kz_mins kz_mi kz_minc (Nat.le_trans (by decide) hd) (Nat.le_of_ble_eq_true rfl) (Nat.le_refl _) (Nat.le_refl _) dX8_worthOfTwo_42 ?_
    refine g_imul (pc := 45) dX8_worthOfTwo_45 ?_
    cases hF
    exact g_iret (pc := 46) rfl (Nat.le_refl _) (Nat.le_refl _) dX8_worthOfTwo_46 ⟨rfl, rfl, rfl, rfl⟩
  · replace hF := am_yes c_2 hF
    refine g_iconst (pc := 18) (v := (0 : Int32)) dX8_worthOfTwo_18 rfl ?_
    cases hF
    exact g_iret (pc := 19) rfl (Nat.le_refl _) (Nat.le_refl _) dX8_worthOfTwo_19 ⟨rfl, rfl, rfl, rfl⟩
def F_X8_worthIn_23_3 (I : am_IT) (a1 : Int32) (a2 : Int32) : Option (Int32) := am_b1 (am_it am_fu (am_u2 (fun (l4_1 : Int32) (l5_2 : Int32) => if (I 1 3) ≤ l5_2 then (some (.inr (l4_1))) else (am_b1 (F_X8_yardsFrom_23 I a2 l5_2) (fun (r_11 : Int32) => if am_ix l5_2 7 = true then (if am_ix ((a1 * (4 : Int32)) + (I 3 l5_2.toNatClampNeg)) 28 = true then (am_let (l4_1 + (r_11 * (I 7 ((a1 * (4 : Int32)) + (I 3 l5_2.toNatClampNeg)).toNatClampNeg))) (fun (l4_14 : Int32) => am_b1 (am_it am_fu (am_u2 (fun (l4_15 : Int32) (l6_16 : Int32) => if l5_2 ≤ l6_16 then (some (.inr (l4_15))) else (if am_ix l5_2 7 = true then (if am_ix l6_16 7 = true then (if (I 3 l5_2.toNatClampNeg) = (I 3 l6_16.toNatClampNeg) then (am_b1 (F_X8_worthOfTwo_23 I a1 a2 l5_2 l6_16) (fun (r_29 : Int32) => am_let (l4_15 + r_29) (fun (l4_30 : Int32) => am_let (l6_16 + (1 : Int32)) (fun (l6_31 : Int32) => some (.inl (l4_30, l6_31)))))) else (am_let (l6_16 + (1 : Int32)) (fun (l6_27 : Int32) => some (.inl (l4_15, l6_27))))) else none) else none))) (l4_14, (0 : Int32))) (fun (l4_17 : Int32) => am_let (l5_2 + (1 : Int32)) (fun (l5_32 : Int32) => some (.inl (l4_17, l5_32)))))) else none) else none)))) ((0 : Int32), (0 : Int32))) (fun (l4_3 : Int32) => some l4_3)
set_option maxRecDepth 100000 in
set_option maxHeartbeats 4000000 in
theorem s_X8_worthIn_23_3 {l : Launch} {d N : Nat} {P : am_PT} (hPl : am_Pl 94 N P) (hd : 3 ≤ d) {I : am_IT} {a1 : Int32} {a2 : Int32} {r : Int32} (hF : F_X8_worthIn_23_3 I a1 a2 = some (r)) : am_C l d 0 0 mX8_worthIn [.ref 23, .int a1, .int a2, .ref 3] N P I (am_qi r N P I) := by
  refine am_body (sc := am_sc0) (n := 3) (by decide +kernel) (by decide) rfl ?_
  change G am_sc0 l d 0 0 mX8_worthIn (am_qi r N P I) 0 [.ref 23, .int a1, .int a2, .ref 3, .null, .null, .null] [] N P I 0 0
  unfold F_X8_worthIn_23_3 at hF
  refine g_iconst (pc := 0) (v := (0 : Int32)) dX8_worthIn_0 rfl ?_
  refine n_istore (pc := 1) (ls2 := [.ref 23, .int a1, .int a2, .ref 3, .int (0 : Int32), .null, .null]) rfl rfl dX8_worthIn_1 (Nat.le_of_ble_eq_true rfl) ?_
  refine g_iconst (pc := 3) (v := (0 : Int32)) dX8_worthIn_3 rfl ?_
  refine n_istore (pc := 4) (ls2 := [.ref 23, .int a1, .int a2, .ref 3, .int (0 : Int32), .int (0 : Int32), .null]) rfl rfl dX8_worthIn_4 (Nat.le_of_ble_eq_true rfl) ?_
  obtain ⟨l4_3, hL_7, hF⟩ := am_b1_el hF
  have hX_4 : G am_sc0 l d 0 0 mX8_worthIn (am_qi r N P I) 95 [.ref 23, .int a1, .int a2, .ref 3, .int l4_3, .null, .null] [] N P I 0 0 := by
    refine g_iload (pc := 95) dX8_worthIn_95 rfl ?_
    cases hF
    exact g_iret (pc := 97) rfl (Nat.le_refl _) (Nat.le_refl _) dX8_worthIn_97 ⟨rfl, rfl, rfl, rfl⟩
  clear hF
  have hC := am_loop (C := fun x => G am_sc0 l d 0 0 mX8_worthIn (am_qi r N P I) 6 [.ref 23, .int a1, .int a2, .ref 3, .int x.1, .int x.2, .null] [] N P I 0 0) (by
    rintro ⟨l4_1, l5_2⟩ rr hF ih_5 hE_6
    replace hF := am_u2_ap hF
    change G am_sc0 l d 0 0 mX8_worthIn (am_qi r N P I) 6 [.ref 23, .int a1, .int a2, .ref 3, .int l4_1, .int l5_2, .null] [] N P I 0 0
    refine g_iload (pc := 6) dX8_worthIn_6 rfl ?_
    refine g_aload_n (pc := 8) dX8_worthIn_8 rfl rfl ?_
    refine g_getR (pc := 9) (k := 23) (r := 1) kf_X8_15.r rfl rfl (hPl.get (by decide) rfl) (hPl.lt (by decide)) dX8_worthIn_9 ?_
    refine g_getI (pc := 12) (k := 1) kf_X8_61.r rfl rfl (hPl.lt (by decide)) dX8_worthIn_12 ?_
    refine g_icmp_ge (pc := 15) (tgt := 95) dX8_worthIn_15 rfl (fun c_9 => ?_) (fun c_9 => ?_)
    · replace hF := am_yes c_9 hF
      cases hF
      cases hE_6 _ rfl
      exact g_weak hX_4 ⟨Or.inr rfl, Or.inr rfl, Or.inr rfl, Or.inr rfl, Or.inr rfl, Or.inl rfl, Or.inl rfl, trivial⟩
    · replace hF := am_no c_9 hF
      refine g_iload (pc := 18) dX8_worthIn_18 rfl ?_
      refine g_aload_n (pc := 20) dX8_worthIn_20 rfl rfl ?_
      refine g_iload_n (pc := 21) dX8_worthIn_21 rfl rfl ?_
      refine g_iload (pc := 22) dX8_worthIn_22 rfl ?_
      obtain ⟨r_11, h_10, hF⟩ := am_b1_el hF
      refine g_cVi (pc := 24) (k := 23) (As := [.int a2, .int l5_2]) (st := [.int l4_1]) ky_X8_yardsFrom kl_X8_55 (s_X8_yardsFrom_23 (d := 1) (hPl) (Nat.le_refl _) h_10) rfl rfl rfl (hPl.lt (by decide)) (Nat.le_trans (by decide) hd) (Nat.le_of_ble_eq_true rfl) (Nat.le_refl _) (Nat.le_refl _) dX8_worthIn_24 ?_
      refine g_aload_n (pc := 27) dX8_worthIn_27 rfl rfl ?_
      refine g_getR (pc := 28) (k := 23) (r := 1) kf_X8_15.r rfl rfl (hPl.get (by decide) rfl) (hPl.lt (by decide)) dX8_worthIn_28 ?_
      refine g_getR (pc := 31) (k := 1) (r := 7) kf_X8_64 rfl rfl (hPl.get (by decide) rfl) (hPl.lt (by decide)) dX8_worthIn_31 ?_
      refine g_iload_n (pc := 34) dX8_worthIn_34 rfl rfl ?_
      refine g_iconst (pc := 35) (v := (4 : Int32)) dX8_worthIn_35 rfl ?_
      refine g_imul (pc := 36) dX8_worthIn_36 ?_
      refine g_aload_n (pc := 37) dX8_worthIn_37 rfl rfl ?_
      refine g_iload (pc := 38) dX8_worthIn_38 rfl ?_
      obtain ⟨c_12, hF⟩ := am_gd hF
      refine g_iald (pc := 40) (k := 3) rfl (hPl.lt (by decide)) (am_ix_use c_12) dX8_worthIn_40 ?_
      refine g_iadd (pc := 41) dX8_worthIn_41 ?_
      obtain ⟨c_13, hF⟩ := am_gd hF
      refine g_iald (pc := 42) (k := 7) rfl (hPl.lt (by decide)) (am_ix_use c_13) dX8_worthIn_42 ?_
      refine g_imul (pc := 43) dX8_worthIn_43 ?_
      refine g_iadd (pc := 44) dX8_worthIn_44 ?_
      obtain ⟨l4_14, e_l4_14, hF⟩ := am_let_el hF
      refine n_istore (pc := 45) (ls2 := [.ref 23, .int a1, .int a2, .ref 3, .int l4_14, .int l5_2, .null]) e_l4_14 rfl dX8_worthIn_45 (Nat.le_of_ble_eq_true rfl) ?_
      refine g_iconst (pc := 47) (v := (0 : Int32)) dX8_worthIn_47 rfl ?_
      refine n_istore (pc := 48) (ls2 := [.ref 23, .int a1, .int a2, .ref 3, .int l4_14, .int l5_2, .int (0 : Int32)]) rfl rfl dX8_worthIn_48 (Nat.le_of_ble_eq_true rfl) ?_
      obtain ⟨l4_17, hL_21, hF⟩ := am_b1_el hF
      have hX_18 : G am_sc0 l d 0 0 mX8_worthIn (am_qi r N P I) 89 [.ref 23, .int a1, .int a2, .ref 3, .int l4_17, .int l5_2, .null] [] N P I 0 0 := by
        obtain ⟨l5_32, e_l5_32, hF⟩ := am_let_el hF
        refine n_iinc (pc := 89) (ls2 := [.ref 23, .int a1, .int a2, .ref 3, .int l4_17, .int l5_32, .null]) e_l5_32 rfl rfl rfl dX8_worthIn_89 (Nat.le_of_ble_eq_true rfl) ?_
        refine g_goto (pc := 92) (tgt := 6) dX8_worthIn_92 rfl ?_
        cases hF
        exact ih_5 (l4_17, l5_32) rfl
      clear hF
      have hC := am_loop (C := fun x => G am_sc0 l d 0 0 mX8_worthIn (am_qi r N P I) 50 [.ref 23, .int a1, .int a2, .ref 3, .int x.1, .int l5_2, .int x.2] [] N P I 0 0) (by
        rintro ⟨l4_15, l6_16⟩ rr hF ih_19 hE_20
        replace hF := am_u2_ap hF
        change G am_sc0 l d 0 0 mX8_worthIn (am_qi r N P I) 50 [.ref 23, .int a1, .int a2, .ref 3, .int l4_15, .int l5_2, .int l6_16] [] N P I 0 0
        refine g_iload (pc := 50) dX8_worthIn_50 rfl ?_
        refine g_iload (pc := 52) dX8_worthIn_52 rfl ?_
        refine g_icmp_ge (pc := 54) (tgt := 89) dX8_worthIn_54 rfl (fun c_23 => ?_) (fun c_23 => ?_)
        · replace hF := am_yes c_23 hF
          cases hF
          cases hE_20 _ rfl
          exact g_weak hX_18 ⟨Or.inr rfl, Or.inr rfl, Or.inr rfl, Or.inr rfl, Or.inr rfl, Or.inr rfl, Or.inl rfl, trivial⟩
        · replace hF := am_no c_23 hF
          refine g_aload_n (pc := 57) dX8_worthIn_57 rfl rfl ?_
          refine g_iload (pc := 58) dX8_worthIn_58 rfl ?_
          obtain ⟨c_24, hF⟩ := am_gd hF
          refine g_iald (pc := 60) (k := 3) rfl (hPl.lt (by decide)) (am_ix_use c_24) dX8_worthIn_60 ?_
          refine g_aload_n (pc := 61) dX8_worthIn_61 rfl rfl ?_
          refine g_iload (pc := 62) dX8_worthIn_62 rfl ?_
          obtain ⟨c_25, hF⟩ := am_gd hF
          refine g_iald (pc := 64) (k := 3) rfl (hPl.lt (by decide)) (am_ix_use c_25) dX8_worthIn_64 ?_
          refine g_icmp_ne (pc := 65) (tgt := 83) dX8_worthIn_65 rfl (fun c_26 => ?_) (fun c_26 => ?_)
          · replace hF := am_no c_26 hF
            obtain ⟨l6_27, e_l6_27, hF⟩ := am_let_el hF
            refine n_iinc (pc := 83) (ls2 := [.ref 23, .int a1, .int a2, .ref 3, .int l4_15, .int l5_2, .int l6_27]) e_l6_27 rfl rfl rfl dX8_worthIn_83 (Nat.le_of_ble_eq_true rfl) ?_
            refine g_goto (pc := 86) (tgt := 50) dX8_worthIn_86 rfl ?_
            cases hF
            exact ih_19 (l4_15, l6_27) rfl
          · replace hF := am_yes c_26 hF
            refine g_iload (pc := 68) dX8_worthIn_68 rfl ?_
            refine g_aload_n (pc := 70) dX8_worthIn_70 rfl rfl ?_
            refine g_iload_n (pc := 71) dX8_worthIn_71 rfl rfl ?_
            refine g_iload_n (pc := 72) dX8_worthIn_72 rfl rfl ?_
            refine g_iload (pc := 73) dX8_worthIn_73 rfl ?_
            refine g_iload (pc := 75) dX8_worthIn_75 rfl ?_
            obtain ⟨r_29, h_28, hF⟩ := am_b1_el hF
            refine g_cVi (pc := 77) (k := 23) (As := [.int a1, .int a2, .int l5_2, .int l6_16]) (st := [.int l4_15]) ky_X8_worthOfTwo kl_X8_67 (s_X8_worthOfTwo_23 (d := 2) (hPl) (Nat.le_refl _) h_28) rfl rfl rfl (hPl.lt (by decide)) (Nat.le_trans (by decide) hd) (Nat.le_of_ble_eq_true rfl) (Nat.le_refl _) (Nat.le_refl _) dX8_worthIn_77 ?_
            refine g_iadd (pc := 80) dX8_worthIn_80 ?_
            obtain ⟨l4_30, e_l4_30, hF⟩ := am_let_el hF
            refine n_istore (pc := 81) (ls2 := [.ref 23, .int a1, .int a2, .ref 3, .int l4_30, .int l5_2, .int l6_16]) e_l4_30 rfl dX8_worthIn_81 (Nat.le_of_ble_eq_true rfl) ?_
            obtain ⟨l6_31, e_l6_31, hF⟩ := am_let_el hF
            refine n_iinc (pc := 83) (ls2 := [.ref 23, .int a1, .int a2, .ref 3, .int l4_30, .int l5_2, .int l6_31]) e_l6_31 rfl rfl rfl dX8_worthIn_83 (Nat.le_of_ble_eq_true rfl) ?_
            refine g_goto (pc := 86) (tgt := 50) dX8_worthIn_86 rfl ?_
            cases hF
            exact ih_19 (l4_30, l6_31) rfl
        ) _ _ hL_21
      exact hC
    ) _ _ hL_7
  exact hC
def F_X8_worthTo_23_3 (I : am_IT) (a1 : Int32) : Option (Int32) := if am_ix a1 7 = true then (am_b1 (F_X8_worthIn_23_3 I a1 (I 4 a1.toNatClampNeg)) (fun (r_3 : Int32) => some r_3)) else none
set_option maxRecDepth 100000 in
set_option maxHeartbeats 4000000 in
theorem s_X8_worthTo_23_3 {l : Launch} {d N : Nat} {P : am_PT} (hPl : am_Pl 94 N P) (hd : 4 ≤ d) {I : am_IT} {a1 : Int32} {r : Int32} (hF : F_X8_worthTo_23_3 I a1 = some (r)) : am_C l d 0 0 mX8_worthTo [.ref 23, .int a1, .ref 3] N P I (am_qi r N P I) := by
  refine am_body (sc := am_sc0) (n := 0) (by decide +kernel) (by decide) rfl ?_
  change G am_sc0 l d 0 0 mX8_worthTo (am_qi r N P I) 0 [.ref 23, .int a1, .ref 3] [] N P I 0 0
  unfold F_X8_worthTo_23_3 at hF
  refine g_aload_n (pc := 0) dX8_worthTo_0 rfl rfl ?_
  refine g_iload_n (pc := 1) dX8_worthTo_1 rfl rfl ?_
  refine g_aload_n (pc := 2) dX8_worthTo_2 rfl rfl ?_
  refine g_getR (pc := 3) (k := 23) (r := 1) kf_X8_15.r rfl rfl (hPl.get (by decide) rfl) (hPl.lt (by decide)) dX8_worthTo_3 ?_
  refine g_getR (pc := 6) (k := 1) (r := 4) kf_X8_46 rfl rfl (hPl.get (by decide) rfl) (hPl.lt (by decide)) dX8_worthTo_6 ?_
  refine g_iload_n (pc := 9) dX8_worthTo_9 rfl rfl ?_
  obtain ⟨c_1, hF⟩ := am_gd hF
  refine g_iald (pc := 10) (k := 4) rfl (hPl.lt (by decide)) (am_ix_use c_1) dX8_worthTo_10 ?_
  refine g_aload_n (pc := 11) dX8_worthTo_11 rfl rfl ?_
  obtain ⟨r_3, h_2, hF⟩ := am_b1_el hF
  refine g_cVi (pc := 12) (k := 23) (As := [.int a1, .int (I 4 a1.toNatClampNeg), .ref 3]) (st := []) ky_X8_worthIn kl_X8_71 (s_X8_worthIn_23_3 (d := 3) (hPl) (Nat.le_refl _) h_2) rfl rfl rfl (hPl.lt (by decide)) (Nat.le_trans (by decide) hd) (Nat.le_of_ble_eq_true rfl) (Nat.le_refl _) (Nat.le_refl _) dX8_worthTo_12 ?_
  cases hF
  exact g_iret (pc := 15) rfl (Nat.le_refl _) (Nat.le_refl _) dX8_worthTo_15 ⟨rfl, rfl, rfl, rfl⟩
def F_X11_worth_0 (I : am_IT) (a1 : Int32) : Option (Int32 × am_IT) := am_b1 (F_X9_hasPerson_1 I a1) (fun (r_2 : Int32) => if r_2 = 0 then (some ((-100000 : Int32), I)) else (am_b1 (F_X8_measure_23 I) (fun (I_6 : am_IT) => am_b1 (F_X8_worthTo_23_3 I_6 a1) (fun (r_8 : Int32) => some (r_8, I_6)))))
set_option maxRecDepth 100000 in
set_option maxHeartbeats 4000000 in
theorem s_X11_worth_0 {l : Launch} {d N : Nat} {P : am_PT} (hPl : am_Pl 94 N P) (hd : 5 ≤ d) {I : am_IT} {a1 : Int32} {r : Int32} {I2 : am_IT} (hF : F_X11_worth_0 I a1 = some (r, I2)) : am_C l d 0 0 mX11_worth [.ref 0, .int a1] N P I (am_qi r N P I2) := by
  refine am_body (sc := am_sc0) (n := 0) (by decide +kernel) (by decide) rfl ?_
  change G am_sc0 l d 0 0 mX11_worth (am_qi r N P I2) 0 [.ref 0, .int a1] [] N P I 0 0
  unfold F_X11_worth_0 at hF
  refine g_aload_n (pc := 0) dX11_worth_0 rfl rfl ?_
  refine g_getR (pc := 1) (k := 0) (r := 1) kf_X11_12.r rfl rfl (hPl.get (by decide) rfl) (hPl.lt (by decide)) dX11_worth_1 ?_
  refine g_iload_n (pc := 4) dX11_worth_4 rfl rfl ?_
  obtain ⟨r_2, h_1, hF⟩ := am_b1_el hF
  refine g_cVz (pc := 5) (k := 1) (As := [.int a1]) (st := []) ky_X9_hasPerson kl_X11_123 (s_X9_hasPerson_1 (d := 1) (hPl) (Nat.le_refl _) h_1) rfl rfl rfl (hPl.lt (by decide)) (Nat.le_trans (by decide) hd) (Nat.le_of_ble_eq_true rfl) (Nat.le_refl _) (Nat.le_refl _) dX11_worth_5 ?_
  intro z_3
  refine g_if_ne (pc := 8) (tgt := 14) dX11_worth_8 rfl (fun c_4 => ?_) (fun c_4 => ?_)
  · replace hF := am_no c_4 hF
    refine g_aload_n (pc := 14) dX11_worth_14 rfl rfl ?_
    refine g_getR (pc := 15) (k := 0) (r := 23) kf_X11_21.r rfl rfl (hPl.get (by decide) rfl) (hPl.lt (by decide)) dX11_worth_15 ?_
    obtain ⟨I_6, h_5, hF⟩ := am_b1_el hF
    refine g_cVv (pc := 18) (k := 23) (As := []) (st := []) ky_X8_measure kl_X11_178 (s_X8_measure_23 (d := 2) (hPl) (Nat.le_refl _) h_5) rfl rfl rfl (hPl.lt (by decide)) (Nat.le_trans (by decide) hd) (Nat.le_of_ble_eq_true rfl) (Nat.le_refl _) (Nat.le_refl _) dX11_worth_18 ?_
    refine g_aload_n (pc := 21) dX11_worth_21 rfl rfl ?_
    refine g_getR (pc := 22) (k := 0) (r := 23) kf_X11_21.r rfl rfl (hPl.get (by decide) rfl) (hPl.lt (by decide)) dX11_worth_22 ?_
    refine g_iload_n (pc := 25) dX11_worth_25 rfl rfl ?_
    refine g_aload_n (pc := 26) dX11_worth_26 rfl rfl ?_
    refine g_getR (pc := 27) (k := 0) (r := 1) kf_X11_12.r rfl rfl (hPl.get (by decide) rfl) (hPl.lt (by decide)) dX11_worth_27 ?_
    refine g_getR (pc := 30) (k := 1) (r := 3) kf_X11_107 rfl rfl (hPl.get (by decide) rfl) (hPl.lt (by decide)) dX11_worth_30 ?_
    obtain ⟨r_8, h_7, hF⟩ := am_b1_el hF
    refine g_cVi (pc := 33) (k := 23) (As := [.int a1, .ref 3]) (st := []) ky_X8_worthTo kl_X11_186 (s_X8_worthTo_23_3 (d := 4) (hPl) (Nat.le_refl _) h_7) rfl rfl rfl (hPl.lt (by decide)) (Nat.le_trans (by decide) hd) (Nat.le_of_ble_eq_true rfl) (Nat.le_refl _) (Nat.le_refl _) dX11_worth_33 ?_
    cases hF
    exact g_iret (pc := 36) rfl (Nat.le_refl _) (Nat.le_refl _) dX11_worth_36 ⟨rfl, rfl, rfl, rfl⟩
  · replace hF := am_yes c_4 hF
    refine g_ldc (pc := 11) dX11_worth_11 kc_X11_185 ?_
    cases hF
    exact g_iret (pc := 13) rfl (Nat.le_refl _) (Nat.le_refl _) dX11_worth_13 ⟨rfl, rfl, rfl, rfl⟩
def F_J7_fill_53178_32 (I : am_IT) (a2 : Int32) : Option (am_IT) := am_b1 (am_it am_fu (am_u2 (fun (l2_1 : Int32) (I_2 : am_IT) => if (28 : Int32) ≤ l2_1 then (some (.inr (I_2))) else (if am_ix l2_1 28 = true then (am_let (up2 I_2 32 l2_1.toNatClampNeg a2) (fun (I_11 : am_IT) => am_let (l2_1 + (1 : Int32)) (fun (l2_12 : Int32) => some (.inl (l2_12, I_11))))) else none))) ((0 : Int32), I)) (fun (I_3 : am_IT) => some I_3)
set_option maxRecDepth 100000 in
set_option maxHeartbeats 4000000 in
theorem s_J7_fill_53178_32 {l : Launch} {d N : Nat} {P : am_PT} (hPl : am_Pl 94 N P) (hd : 1 ≤ d) {I : am_IT} {a2 : Int32} {I2 : am_IT} (hF : F_J7_fill_53178_32 I a2 = some (I2)) : am_C l d 0 0 mJ7_fill_53178 [.ref 32, .int a2] N P I (am_qv N P I2) := by
  refine am_body (sc := am_sc0) (n := 2) (by decide +kernel) (by decide) rfl ?_
  change G am_sc0 l d 0 0 mJ7_fill_53178 (am_qv N P I2) 0 [.ref 32, .int a2, .null, .null] [] N P I 0 0
  unfold F_J7_fill_53178_32 at hF
  refine g_iconst (pc := 0) (v := (0 : Int32)) dJ7_fill_53178_0 rfl ?_
  refine n_istore_n (pc := 1) (ls2 := [.ref 32, .int a2, .int (0 : Int32), .null]) rfl rfl dJ7_fill_53178_1 rfl (Nat.le_of_ble_eq_true rfl) ?_
  refine g_aload_n (pc := 2) dJ7_fill_53178_2 rfl rfl ?_
  refine g_alen (pc := 3) (k := 32) (v := 28) rfl (hPl.lt (by decide)) rfl dJ7_fill_53178_3 ?_
  refine n_istore_n (pc := 4) (ls2 := [.ref 32, .int a2, .int (0 : Int32), .int (28 : Int32)]) rfl rfl dJ7_fill_53178_4 rfl (Nat.le_of_ble_eq_true rfl) ?_
  obtain ⟨I_3, hL_7, hF⟩ := am_b1_el hF
  have hX_4 : G am_sc0 l d 0 0 mJ7_fill_53178 (am_qv N P I2) 20 [.ref 32, .int a2, .null, .int (28 : Int32)] [] N P I_3 0 0 := by
    cases hF
    exact g_vret (pc := 20) rfl (Nat.le_refl _) (Nat.le_refl _) dJ7_fill_53178_20 ⟨rfl, rfl, rfl, rfl⟩
  clear hF
  have hC := am_loop (C := fun x => G am_sc0 l d 0 0 mJ7_fill_53178 (am_qv N P I2) 5 [.ref 32, .int a2, .int x.1, .int (28 : Int32)] [] N P x.2 0 0) (by
    rintro ⟨l2_1, I_2⟩ rr hF ih_5 hE_6
    replace hF := am_u2_ap hF
    change G am_sc0 l d 0 0 mJ7_fill_53178 (am_qv N P I2) 5 [.ref 32, .int a2, .int l2_1, .int (28 : Int32)] [] N P I_2 0 0
    refine g_iload_n (pc := 5) dJ7_fill_53178_5 rfl rfl ?_
    refine g_iload_n (pc := 6) dJ7_fill_53178_6 rfl rfl ?_
    refine g_icmp_ge (pc := 7) (tgt := 20) dJ7_fill_53178_7 rfl (fun c_9 => ?_) (fun c_9 => ?_)
    · replace hF := am_yes c_9 hF
      cases hF
      cases hE_6 _ rfl
      exact g_weak hX_4 ⟨Or.inr rfl, Or.inr rfl, Or.inl rfl, Or.inr rfl, trivial⟩
    · replace hF := am_no c_9 hF
      refine g_aload_n (pc := 10) dJ7_fill_53178_10 rfl rfl ?_
      refine g_iload_n (pc := 11) dJ7_fill_53178_11 rfl rfl ?_
      refine g_iload_n (pc := 12) dJ7_fill_53178_12 rfl rfl ?_
      obtain ⟨c_10, hF⟩ := am_gd hF
      obtain ⟨I_11, e_I_11, hF⟩ := am_let_el hF
      refine n_iast (pc := 13) (k := 32) e_I_11 rfl (hPl.lt (by decide)) (am_ix_use c_10) dJ7_fill_53178_13 ?_
      obtain ⟨l2_12, e_l2_12, hF⟩ := am_let_el hF
      refine n_iinc (pc := 14) (ls2 := [.ref 32, .int a2, .int l2_12, .int (28 : Int32)]) e_l2_12 rfl rfl rfl dJ7_fill_53178_14 (Nat.le_of_ble_eq_true rfl) ?_
      refine g_goto (pc := 17) (tgt := 5) dJ7_fill_53178_17 rfl ?_
      cases hF
      exact ih_5 (l2_12, I_11) rfl
    ) _ _ hL_7
  exact hC
def F_J7_fill_53178_33 (I : am_IT) (a2 : Int32) : Option (am_IT) := am_b1 (am_it am_fu (am_u2 (fun (l2_1 : Int32) (I_2 : am_IT) => if (49 : Int32) ≤ l2_1 then (some (.inr (I_2))) else (if am_ix l2_1 49 = true then (am_let (up2 I_2 33 l2_1.toNatClampNeg a2) (fun (I_11 : am_IT) => am_let (l2_1 + (1 : Int32)) (fun (l2_12 : Int32) => some (.inl (l2_12, I_11))))) else none))) ((0 : Int32), I)) (fun (I_3 : am_IT) => some I_3)
set_option maxRecDepth 100000 in
set_option maxHeartbeats 4000000 in
theorem s_J7_fill_53178_33 {l : Launch} {d N : Nat} {P : am_PT} (hPl : am_Pl 94 N P) (hd : 1 ≤ d) {I : am_IT} {a2 : Int32} {I2 : am_IT} (hF : F_J7_fill_53178_33 I a2 = some (I2)) : am_C l d 0 0 mJ7_fill_53178 [.ref 33, .int a2] N P I (am_qv N P I2) := by
  refine am_body (sc := am_sc0) (n := 2) (by decide +kernel) (by decide) rfl ?_
  change G am_sc0 l d 0 0 mJ7_fill_53178 (am_qv N P I2) 0 [.ref 33, .int a2, .null, .null] [] N P I 0 0
  unfold F_J7_fill_53178_33 at hF
  refine g_iconst (pc := 0) (v := (0 : Int32)) dJ7_fill_53178_0 rfl ?_
  refine n_istore_n (pc := 1) (ls2 := [.ref 33, .int a2, .int (0 : Int32), .null]) rfl rfl dJ7_fill_53178_1 rfl (Nat.le_of_ble_eq_true rfl) ?_
  refine g_aload_n (pc := 2) dJ7_fill_53178_2 rfl rfl ?_
  refine g_alen (pc := 3) (k := 33) (v := 49) rfl (hPl.lt (by decide)) rfl dJ7_fill_53178_3 ?_
  refine n_istore_n (pc := 4) (ls2 := [.ref 33, .int a2, .int (0 : Int32), .int (49 : Int32)]) rfl rfl dJ7_fill_53178_4 rfl (Nat.le_of_ble_eq_true rfl) ?_
  obtain ⟨I_3, hL_7, hF⟩ := am_b1_el hF
  have hX_4 : G am_sc0 l d 0 0 mJ7_fill_53178 (am_qv N P I2) 20 [.ref 33, .int a2, .null, .int (49 : Int32)] [] N P I_3 0 0 := by
    cases hF
    exact g_vret (pc := 20) rfl (Nat.le_refl _) (Nat.le_refl _) dJ7_fill_53178_20 ⟨rfl, rfl, rfl, rfl⟩
  clear hF
  have hC := am_loop (C := fun x => G am_sc0 l d 0 0 mJ7_fill_53178 (am_qv N P I2) 5 [.ref 33, .int a2, .int x.1, .int (49 : Int32)] [] N P x.2 0 0) (by
    rintro ⟨l2_1, I_2⟩ rr hF ih_5 hE_6
    replace hF := am_u2_ap hF
    change G am_sc0 l d 0 0 mJ7_fill_53178 (am_qv N P I2) 5 [.ref 33, .int a2, .int l2_1, .int (49 : Int32)] [] N P I_2 0 0
    refine g_iload_n (pc := 5) dJ7_fill_53178_5 rfl rfl ?_
    refine g_iload_n (pc := 6) dJ7_fill_53178_6 rfl rfl ?_
    refine g_icmp_ge (pc := 7) (tgt := 20) dJ7_fill_53178_7 rfl (fun c_9 => ?_) (fun c_9 => ?_)
    · replace hF := am_yes c_9 hF
      cases hF
      cases hE_6 _ rfl
      exact g_weak hX_4 ⟨Or.inr rfl, Or.inr rfl, Or.inl rfl, Or.inr rfl, trivial⟩
    · replace hF := am_no c_9 hF
      refine g_aload_n (pc := 10) dJ7_fill_53178_10 rfl rfl ?_
      refine g_iload_n (pc := 11) dJ7_fill_53178_11 rfl rfl ?_
      refine g_iload_n (pc := 12) dJ7_fill_53178_12 rfl rfl ?_
      obtain ⟨c_10, hF⟩ := am_gd hF
      obtain ⟨I_11, e_I_11, hF⟩ := am_let_el hF
      refine n_iast (pc := 13) (k := 33) e_I_11 rfl (hPl.lt (by decide)) (am_ix_use c_10) dJ7_fill_53178_13 ?_
      obtain ⟨l2_12, e_l2_12, hF⟩ := am_let_el hF
      refine n_iinc (pc := 14) (ls2 := [.ref 33, .int a2, .int l2_12, .int (49 : Int32)]) e_l2_12 rfl rfl rfl dJ7_fill_53178_14 (Nat.le_of_ble_eq_true rfl) ?_
      refine g_goto (pc := 17) (tgt := 5) dJ7_fill_53178_17 rfl ?_
      cases hF
      exact ih_5 (l2_12, I_11) rfl
    ) _ _ hL_7
  exact hC
def F_X0_addOne_30 (I : am_IT) (a1 : Int32) : Option (am_IT) := am_b1 (am_it am_fu (am_u2 (fun (l2_1 : Int32) (I_2 : am_IT) => if (I_2 1 3) ≤ l2_1 then (some (.inr (I_2))) else (am_b1 (am_it am_fu (am_u2 (fun (l3_10 : Int32) (I_11 : am_IT) => if (I_11 1 0) ≤ l3_10 then (some (.inr (I_11))) else (if am_ix ((l2_1 * (4 : Int32)) + l3_10) 28 = true then (am_b1 (F_X8_yardsOf_23 I_11 a1 l2_1) (fun (r_21 : Int32) => if am_ix ((a1 * (4 : Int32)) + l3_10) 28 = true then (if am_ix ((l2_1 * (4 : Int32)) + l3_10) 28 = true then (am_let (up2 I_11 32 ((l2_1 * (4 : Int32)) + l3_10).toNatClampNeg ((I_11 32 ((l2_1 * (4 : Int32)) + l3_10).toNatClampNeg) + (r_21 * (I_11 7 ((a1 * (4 : Int32)) + l3_10).toNatClampNeg)))) (fun (I_24 : am_IT) => am_let (l3_10 + (1 : Int32)) (fun (l3_25 : Int32) => some (.inl (l3_25, I_24))))) else none) else none)) else none))) ((0 : Int32), I_2)) (fun (I_12 : am_IT) => am_b1 (am_it am_fu (am_u2 (fun (l3_26 : Int32) (I_27 : am_IT) => if l2_1 ≤ l3_26 then (some (.inr (I_27))) else (if am_ix ((l2_1 * (7 : Int32)) + l3_26) 49 = true then (if am_ix a1 7 = true then (am_b1 (F_X8_worthOfTwo_23 I_27 a1 (I_27 4 a1.toNatClampNeg) l2_1 l3_26) (fun (r_38 : Int32) => if am_ix ((l2_1 * (7 : Int32)) + l3_26) 49 = true then (am_let (up2 I_27 33 ((l2_1 * (7 : Int32)) + l3_26).toNatClampNeg ((I_27 33 ((l2_1 * (7 : Int32)) + l3_26).toNatClampNeg) + r_38)) (fun (I_40 : am_IT) => am_let (l3_26 + (1 : Int32)) (fun (l3_41 : Int32) => some (.inl (l3_41, I_40))))) else none)) else none) else none))) ((0 : Int32), I_12)) (fun (I_28 : am_IT) => am_let (l2_1 + (1 : Int32)) (fun (l2_42 : Int32) => some (.inl (l2_42, I_28)))))))) ((0 : Int32), I)) (fun (I_3 : am_IT) => some I_3)
set_option maxRecDepth 100000 in
set_option maxHeartbeats 4000000 in
theorem s_X0_addOne_30 {l : Launch} {d N : Nat} {P : am_PT} (hPl : am_Pl 94 N P) (hd : 3 ≤ d) {I : am_IT} {a1 : Int32} {I2 : am_IT} (hF : F_X0_addOne_30 I a1 = some (I2)) : am_C l d 0 0 mX0_addOne [.ref 30, .int a1] N P I (am_qv N P I2) := by
  refine am_body (sc := am_sc0) (n := 2) (by decide +kernel) (by decide) rfl ?_
  change G am_sc0 l d 0 0 mX0_addOne (am_qv N P I2) 0 [.ref 30, .int a1, .null, .null] [] N P I 0 0
  unfold F_X0_addOne_30 at hF
  refine g_iconst (pc := 0) (v := (0 : Int32)) dX0_addOne_0 rfl ?_
  refine n_istore_n (pc := 1) (ls2 := [.ref 30, .int a1, .int (0 : Int32), .null]) rfl rfl dX0_addOne_1 rfl (Nat.le_of_ble_eq_true rfl) ?_
  obtain ⟨I_3, hL_7, hF⟩ := am_b1_el hF
  have hX_4 : G am_sc0 l d 0 0 mX0_addOne (am_qv N P I2) 120 [.ref 30, .int a1, .null, .null] [] N P I_3 0 0 := by
    cases hF
    exact g_vret (pc := 120) rfl (Nat.le_refl _) (Nat.le_refl _) dX0_addOne_120 ⟨rfl, rfl, rfl, rfl⟩
  clear hF
  have hC := am_loop (C := fun x => G am_sc0 l d 0 0 mX0_addOne (am_qv N P I2) 2 [.ref 30, .int a1, .int x.1, .null] [] N P x.2 0 0) (by
    rintro ⟨l2_1, I_2⟩ rr hF ih_5 hE_6
    replace hF := am_u2_ap hF
    change G am_sc0 l d 0 0 mX0_addOne (am_qv N P I2) 2 [.ref 30, .int a1, .int l2_1, .null] [] N P I_2 0 0
    refine g_iload_n (pc := 2) dX0_addOne_2 rfl rfl ?_
    refine g_aload_n (pc := 3) dX0_addOne_3 rfl rfl ?_
    refine g_getR (pc := 4) (k := 30) (r := 1) kf_X0_31.r rfl rfl (hPl.get (by decide) rfl) (hPl.lt (by decide)) dX0_addOne_4 ?_
    refine g_getI (pc := 7) (k := 1) kf_X0_54.r rfl rfl (hPl.lt (by decide)) dX0_addOne_7 ?_
    refine g_icmp_ge (pc := 10) (tgt := 120) dX0_addOne_10 rfl (fun c_9 => ?_) (fun c_9 => ?_)
    · replace hF := am_yes c_9 hF
      cases hF
      cases hE_6 _ rfl
      exact g_weak hX_4 ⟨Or.inr rfl, Or.inr rfl, Or.inl rfl, Or.inl rfl, trivial⟩
    · replace hF := am_no c_9 hF
      refine g_iconst (pc := 13) (v := (0 : Int32)) dX0_addOne_13 rfl ?_
      refine n_istore_n (pc := 14) (ls2 := [.ref 30, .int a1, .int l2_1, .int (0 : Int32)]) rfl rfl dX0_addOne_14 rfl (Nat.le_of_ble_eq_true rfl) ?_
      obtain ⟨I_12, hL_16, hF⟩ := am_b1_el hF
      have hX_13 : G am_sc0 l d 0 0 mX0_addOne (am_qv N P I2) 68 [.ref 30, .int a1, .int l2_1, .null] [] N P I_12 0 0 := by
        refine g_iconst (pc := 68) (v := (0 : Int32)) dX0_addOne_68 rfl ?_
        refine n_istore_n (pc := 69) (ls2 := [.ref 30, .int a1, .int l2_1, .int (0 : Int32)]) rfl rfl dX0_addOne_69 rfl (Nat.le_of_ble_eq_true rfl) ?_
        obtain ⟨I_28, hL_32, hF⟩ := am_b1_el hF
        have hX_29 : G am_sc0 l d 0 0 mX0_addOne (am_qv N P I2) 114 [.ref 30, .int a1, .int l2_1, .null] [] N P I_28 0 0 := by
          obtain ⟨l2_42, e_l2_42, hF⟩ := am_let_el hF
          refine n_iinc (pc := 114) (ls2 := [.ref 30, .int a1, .int l2_42, .null]) e_l2_42 rfl rfl rfl dX0_addOne_114 (Nat.le_of_ble_eq_true rfl) ?_
          refine g_goto (pc := 117) (tgt := 2) dX0_addOne_117 rfl ?_
          cases hF
          exact ih_5 (l2_42, I_28) rfl
        clear hF
        have hC := am_loop (C := fun x => G am_sc0 l d 0 0 mX0_addOne (am_qv N P I2) 70 [.ref 30, .int a1, .int l2_1, .int x.1] [] N P x.2 0 0) (by
          rintro ⟨l3_26, I_27⟩ rr hF ih_30 hE_31
          replace hF := am_u2_ap hF
          change G am_sc0 l d 0 0 mX0_addOne (am_qv N P I2) 70 [.ref 30, .int a1, .int l2_1, .int l3_26] [] N P I_27 0 0
          refine g_iload_n (pc := 70) dX0_addOne_70 rfl rfl ?_
          refine g_iload_n (pc := 71) dX0_addOne_71 rfl rfl ?_
          refine g_icmp_ge (pc := 72) (tgt := 114) dX0_addOne_72 rfl (fun c_34 => ?_) (fun c_34 => ?_)
          · replace hF := am_yes c_34 hF
            cases hF
            cases hE_31 _ rfl
            exact g_weak hX_29 ⟨Or.inr rfl, Or.inr rfl, Or.inr rfl, Or.inl rfl, trivial⟩
          · replace hF := am_no c_34 hF
            refine g_aload_n (pc := 75) dX0_addOne_75 rfl rfl ?_
            refine g_getR (pc := 76) (k := 30) (r := 33) kf_X0_18.r rfl rfl (hPl.get (by decide) rfl) (hPl.lt (by decide)) dX0_addOne_76 ?_
            refine g_iload_n (pc := 79) dX0_addOne_79 rfl rfl ?_
            refine g_bipush (pc := 80) (v := (7 : Int32)) dX0_addOne_80 rfl ?_
            refine g_imul (pc := 82) dX0_addOne_82 ?_
            refine g_iload_n (pc := 83) dX0_addOne_83 rfl rfl ?_
            refine g_iadd (pc := 84) dX0_addOne_84 ?_
            refine g_dup2 (pc := 85) dX0_addOne_85 ?_
            obtain ⟨c_35, hF⟩ := am_gd hF
            refine g_iald (pc := 86) (k := 33) rfl (hPl.lt (by decide)) (am_ix_use c_35) dX0_addOne_86 ?_
            refine g_aload_n (pc := 87) dX0_addOne_87 rfl rfl ?_
            refine g_getR (pc := 88) (k := 30) (r := 23) kf_X0_35.r rfl rfl (hPl.get (by decide) rfl) (hPl.lt (by decide)) dX0_addOne_88 ?_
            refine g_iload_n (pc := 91) dX0_addOne_91 rfl rfl ?_
            refine g_aload_n (pc := 92) dX0_addOne_92 rfl rfl ?_
            refine g_getR (pc := 93) (k := 30) (r := 1) kf_X0_31.r rfl rfl (hPl.get (by decide) rfl) (hPl.lt (by decide)) dX0_addOne_93 ?_
            refine g_getR (pc := 96) (k := 1) (r := 4) kf_X0_107 rfl rfl (hPl.get (by decide) rfl) (hPl.lt (by decide)) dX0_addOne_96 ?_
            refine g_iload_n (pc := 99) dX0_addOne_99 rfl rfl ?_
            obtain ⟨c_36, hF⟩ := am_gd hF
            refine g_iald (pc := 100) (k := 4) rfl (hPl.lt (by decide)) (am_ix_use c_36) dX0_addOne_100 ?_
            refine g_iload_n (pc := 101) dX0_addOne_101 rfl rfl ?_
            refine g_iload_n (pc := 102) dX0_addOne_102 rfl rfl ?_
            obtain ⟨r_38, h_37, hF⟩ := am_b1_el hF
            refine g_cVi (pc := 103) (k := 23) (As := [.int a1, .int (I_27 4 a1.toNatClampNeg), .int l2_1, .int l3_26]) (st := [.int (I_27 33 ((l2_1 * (7 : Int32)) + l3_26).toNatClampNeg), .int ((l2_1 * (7 : Int32)) + l3_26), .ref 33]) ky_X8_worthOfTwo kl_X0_110 (s_X8_worthOfTwo_23 (d := 2) (hPl) (Nat.le_refl _) h_37) rfl rfl rfl (hPl.lt (by decide)) (Nat.le_trans (by decide) hd) (Nat.le_of_ble_eq_true rfl) (Nat.le_refl _) (Nat.le_refl _) dX0_addOne_103 ?_
            refine g_iadd (pc := 106) dX0_addOne_106 ?_
            obtain ⟨c_39, hF⟩ := am_gd hF
            obtain ⟨I_40, e_I_40, hF⟩ := am_let_el hF
            refine n_iast (pc := 107) (k := 33) e_I_40 rfl (hPl.lt (by decide)) (am_ix_use c_39) dX0_addOne_107 ?_
            obtain ⟨l3_41, e_l3_41, hF⟩ := am_let_el hF
            refine n_iinc (pc := 108) (ls2 := [.ref 30, .int a1, .int l2_1, .int l3_41]) e_l3_41 rfl rfl rfl dX0_addOne_108 (Nat.le_of_ble_eq_true rfl) ?_
            refine g_goto (pc := 111) (tgt := 70) dX0_addOne_111 rfl ?_
            cases hF
            exact ih_30 (l3_41, I_40) rfl
          ) _ _ hL_32
        exact hC
      clear hF
      have hC := am_loop (C := fun x => G am_sc0 l d 0 0 mX0_addOne (am_qv N P I2) 15 [.ref 30, .int a1, .int l2_1, .int x.1] [] N P x.2 0 0) (by
        rintro ⟨l3_10, I_11⟩ rr hF ih_14 hE_15
        replace hF := am_u2_ap hF
        change G am_sc0 l d 0 0 mX0_addOne (am_qv N P I2) 15 [.ref 30, .int a1, .int l2_1, .int l3_10] [] N P I_11 0 0
        refine g_iload_n (pc := 15) dX0_addOne_15 rfl rfl ?_
        refine g_aload_n (pc := 16) dX0_addOne_16 rfl rfl ?_
        refine g_getR (pc := 17) (k := 30) (r := 1) kf_X0_31.r rfl rfl (hPl.get (by decide) rfl) (hPl.lt (by decide)) dX0_addOne_17 ?_
        refine g_getI (pc := 20) (k := 1) kf_X0_97.r rfl rfl (hPl.lt (by decide)) dX0_addOne_20 ?_
        refine g_icmp_ge (pc := 23) (tgt := 68) dX0_addOne_23 rfl (fun c_18 => ?_) (fun c_18 => ?_)
        · replace hF := am_yes c_18 hF
          cases hF
          cases hE_15 _ rfl
          exact g_weak hX_13 ⟨Or.inr rfl, Or.inr rfl, Or.inr rfl, Or.inl rfl, trivial⟩
        · replace hF := am_no c_18 hF
          refine g_aload_n (pc := 26) dX0_addOne_26 rfl rfl ?_
          refine g_getR (pc := 27) (k := 30) (r := 32) kf_X0_15.r rfl rfl (hPl.get (by decide) rfl) (hPl.lt (by decide)) dX0_addOne_27 ?_
          refine g_iload_n (pc := 30) dX0_addOne_30 rfl rfl ?_
          refine g_iconst (pc := 31) (v := (4 : Int32)) dX0_addOne_31 rfl ?_
          refine g_imul (pc := 32) dX0_addOne_32 ?_
          refine g_iload_n (pc := 33) dX0_addOne_33 rfl rfl ?_
          refine g_iadd (pc := 34) dX0_addOne_34 ?_
          refine g_dup2 (pc := 35) dX0_addOne_35 ?_
          obtain ⟨c_19, hF⟩ := am_gd hF
          refine g_iald (pc := 36) (k := 32) rfl (hPl.lt (by decide)) (am_ix_use c_19) dX0_addOne_36 ?_
          refine g_aload_n (pc := 37) dX0_addOne_37 rfl rfl ?_
          refine g_getR (pc := 38) (k := 30) (r := 23) kf_X0_35.r rfl rfl (hPl.get (by decide) rfl) (hPl.lt (by decide)) dX0_addOne_38 ?_
          refine g_iload_n (pc := 41) dX0_addOne_41 rfl rfl ?_
          refine g_iload_n (pc := 42) dX0_addOne_42 rfl rfl ?_
          obtain ⟨r_21, h_20, hF⟩ := am_b1_el hF
          refine g_cVi (pc := 43) (k := 23) (As := [.int a1, .int l2_1]) (st := [.int (I_11 32 ((l2_1 * (4 : Int32)) + l3_10).toNatClampNeg), .int ((l2_1 * (4 : Int32)) + l3_10), .ref 32]) ky_X8_yardsOf kl_X0_100 (s_X8_yardsOf_23 (d := 1) (hPl) (Nat.le_refl _) h_20) rfl rfl rfl (hPl.lt (by decide)) (Nat.le_trans (by decide) hd) (Nat.le_of_ble_eq_true rfl) (Nat.le_refl _) (Nat.le_refl _) dX0_addOne_43 ?_
          refine g_aload_n (pc := 46) dX0_addOne_46 rfl rfl ?_
          refine g_getR (pc := 47) (k := 30) (r := 1) kf_X0_31.r rfl rfl (hPl.get (by decide) rfl) (hPl.lt (by decide)) dX0_addOne_47 ?_
          refine g_getR (pc := 50) (k := 1) (r := 7) kf_X0_104 rfl rfl (hPl.get (by decide) rfl) (hPl.lt (by decide)) dX0_addOne_50 ?_
          refine g_iload_n (pc := 53) dX0_addOne_53 rfl rfl ?_
          refine g_iconst (pc := 54) (v := (4 : Int32)) dX0_addOne_54 rfl ?_
          refine g_imul (pc := 55) dX0_addOne_55 ?_
          refine g_iload_n (pc := 56) dX0_addOne_56 rfl rfl ?_
          refine g_iadd (pc := 57) dX0_addOne_57 ?_
          obtain ⟨c_22, hF⟩ := am_gd hF
          refine g_iald (pc := 58) (k := 7) rfl (hPl.lt (by decide)) (am_ix_use c_22) dX0_addOne_58 ?_
          refine g_imul (pc := 59) dX0_addOne_59 ?_
          refine g_iadd (pc := 60) dX0_addOne_60 ?_
          obtain ⟨c_23, hF⟩ := am_gd hF
          obtain ⟨I_24, e_I_24, hF⟩ := am_let_el hF
          refine n_iast (pc := 61) (k := 32) e_I_24 rfl (hPl.lt (by decide)) (am_ix_use c_23) dX0_addOne_61 ?_
          obtain ⟨l3_25, e_l3_25, hF⟩ := am_let_el hF
          refine n_iinc (pc := 62) (ls2 := [.ref 30, .int a1, .int l2_1, .int l3_25]) e_l3_25 rfl rfl rfl dX0_addOne_62 (Nat.le_of_ble_eq_true rfl) ?_
          refine g_goto (pc := 65) (tgt := 15) dX0_addOne_65 rfl ?_
          cases hF
          exact ih_14 (l3_25, I_24) rfl
        ) _ _ hL_16
      exact hC
    ) _ _ hL_7
  exact hC
