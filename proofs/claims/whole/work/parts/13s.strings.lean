section GS
variable {sc : am_ST} {l : Launch} {d mc ms : Nat} {mi : am_M} {Q : Option Value → Nat → am_PT → am_IT → Prop} {pc : Nat} {ls st : List Value} {N : Nat} {P : am_PT} {I : am_IT} {nc ns : Nat}
theorem g_ldcS0 (hc : mi.1.cls = "PaintedByOthers$RuleReader") (hdg : decode mi.2.1 pc = .ok (.ldc 128, 2)) (kk : G sc l d mc ms mi Q (pc + 2) ls (.ref 1000000 :: st) N P I nc ns) : G sc l d mc ms mi Q pc ls st N P I nc ns := by
  intro p e s m args below meth c dC dI ca ad A H locs lsA ad0 N0 X hN h0
  obtain ⟨⟨hx, hb, hml, hr, hlk, hnm, hown, hts, hnw⟩, ⟨⟨hP, hD, hPB⟩, hK, hS, hA, hSX, hSC⟩, ⟨hbl, hbs, hL⟩⟩ := id X
  exact va_ldcS hx hb hown (by rw [hc]; exact hSX.2.2.2.1) hdg (kk p e s m args below meth c dC dI ca ad A H locs lsA ad0 N0 (X.stk (bdd_cons (Or.inr (by decide)) hbs)) hN h0)
theorem g_i2b {x : Int32} (hdg : decode mi.2.1 pc = .ok (.i2b, 1)) (kk : G sc l d mc ms mi Q (pc + 1) ls (.int x.toInt8.toInt32 :: st) N P I nc ns) : G sc l d mc ms mi Q pc ls (.int x :: st) N P I nc ns := by
  intro p e s m args below meth c dC dI ca ad A H locs lsA ad0 N0 X hN h0
  obtain ⟨⟨hx, hb, hml, hr, hlk, hnm, hown, hts, hnw⟩, ⟨⟨hP, hD, hPB⟩, hK, hS, hA, hSX, hSC⟩, ⟨hbl, hbs, hL⟩⟩ := id X
  exact lv_i2b hx hb hdg rfl (kk p e s m args below meth c dC dI ca ad A H locs lsA ad0 N0 (X.stk (bdd_cons trivial (bdd_tl hbs))) hN h0)
theorem g_ldcS1 (hc : mi.1.cls = "PaintedByOthers$RuleReader") (hdg : decode mi.2.1 pc = .ok (.ldc 121, 2)) (kk : G sc l d mc ms mi Q (pc + 2) ls (.ref 1000001 :: st) N P I nc ns) : G sc l d mc ms mi Q pc ls st N P I nc ns := by
  intro p e s m args below meth c dC dI ca ad A H locs lsA ad0 N0 X hN h0
  obtain ⟨⟨hx, hb, hml, hr, hlk, hnm, hown, hts, hnw⟩, ⟨⟨hP, hD, hPB⟩, hK, hS, hA, hSX, hSC⟩, ⟨hbl, hbs, hL⟩⟩ := id X
  exact va_ldcS hx hb hown (by rw [hc]; exact hSX.2.2.2.2) hdg (kk p e s m args below meth c dC dI ca ad A H locs lsA ad0 N0 (X.stk (bdd_cons (Or.inr (by decide)) hbs)) hN h0)
theorem g_strV {i k k2 idx : Nat} (hi : i < 2) (hk : k = 1000000 + i) (hk2 : k2 = 1000010 + i) (hl : Cond.fieldLink mi.1.cls idx "java/lang/String" "value" "[B" ∈ lwg) (hdg : decode mi.2.1 pc = .ok (.getfield idx, 3)) (kk : G sc l d mc ms mi Q (pc + 3) ls (.ref k2 :: st) N P I nc ns) : G sc l d mc ms mi Q pc ls (.ref k :: st) N P I nc ns := by
  subst hk; subst hk2
  intro p e s m args below meth c dC dI ca ad A H locs lsA ad0 N0 X hN h0
  obtain ⟨⟨hx, hb, hml, hr, hlk, hnm, hown, hts, hnw⟩, ⟨⟨hP, hD, hPB⟩, hK, hS, hA, hSX, hSC⟩, ⟨hbl, hbs, hL⟩⟩ := id X
  exact vk_getf hx hb (hSX.1.1 i hi).2.2.1 hS hown (hts _ hl) (fun _ h => h) hdg (kk p e s m args below meth c dC dI ca ad A H locs lsA ad0 N0 (X.stk (bdd_cons (Or.inr (by omega)) (bdd_tl hbs))) hN h0)
theorem g_strC {i k idx : Nat} (hi : i < 2) (hk : k = 1000000 + i) (hl : Cond.fieldLink mi.1.cls idx "java/lang/String" "coder" "B" ∈ lwg) (hdg : decode mi.2.1 pc = .ok (.getfield idx, 3)) (kk : G sc l d mc ms mi Q (pc + 3) ls (.int 0 :: st) N P I nc ns) : G sc l d mc ms mi Q pc ls (.ref k :: st) N P I nc ns := by
  subst hk
  intro p e s m args below meth c dC dI ca ad A H locs lsA ad0 N0 X hN h0
  obtain ⟨⟨hx, hb, hml, hr, hlk, hnm, hown, hts, hnw⟩, ⟨⟨hP, hD, hPB⟩, hK, hS, hA, hSX, hSC⟩, ⟨hbl, hbs, hL⟩⟩ := id X
  exact vk_getf hx hb (hSX.1.1 i hi).2.1 hS hown (hts _ hl) (fun _ h => h) hdg (kk p e s m args below meth c dC dI ca ad A H locs lsA ad0 N0 (X.stk (bdd_cons trivial (bdd_tl hbs))) hN h0)
theorem g_getsC {idx : Nat} (hl : Cond.fieldLink mi.1.cls idx "java/lang/String" "COMPACT_STRINGS" "Z" ∈ lwg) (hdg : decode mi.2.1 pc = .ok (.getstatic idx, 3)) (kk : G sc l d mc ms mi Q (pc + 3) ls (.int 1 :: st) N P I nc ns) : G sc l d mc ms mi Q pc ls st N P I nc ns := by
  intro p e s m args below meth c dC dI ca ad A H locs lsA ad0 N0 X hN h0
  obtain ⟨⟨hx, hb, hml, hr, hlk, hnm, hown, hts, hnw⟩, ⟨⟨hP, hD, hPB⟩, hK, hS, hA, hSX, hSC⟩, ⟨hbl, hbs, hL⟩⟩ := id X
  exact va_gets hx hb hSX.2.1 hS hown (hts _ hl) (fun _ h => h) hdg (kk p e s m args below meth c dC dI ca ad A H locs lsA ad0 N0 (X.stk (bdd_cons trivial hbs)) hN h0)
theorem g_getsF {idx : Nat} (hl : Cond.fieldLink mi.1.cls idx "jdk/internal/util/Preconditions" "SIOOBE_FORMATTER" "Ljava/util/function/BiFunction;" ∈ lwg) (hdg : decode mi.2.1 pc = .ok (.getstatic idx, 3)) (kk : ∀ w : Value, am_bv N w → G sc l d mc ms mi Q (pc + 3) ls (w :: st) N P I nc ns) : G sc l d mc ms mi Q pc ls st N P I nc ns := by
  intro p e s m args below meth c dC dI ca ad A H locs lsA ad0 N0 X hN h0
  obtain ⟨⟨hx, hb, hml, hr, hlk, hnm, hown, hts, hnw⟩, ⟨⟨hP, hD, hPB⟩, hK, hS, hA, hSX, hSC⟩, ⟨hbl, hbs, hL⟩⟩ := id X
  rcases hSX.2.2.1 with h | h
  · exact va_gets hx hb h hS hown (hts _ hl) (fun _ h => h) hdg (kk .null trivial p e s m args below meth c dC dI ca ad A H locs lsA ad0 N0 (X.stk (bdd_cons trivial hbs)) hN h0)
  · exact va_gets hx hb h hS hown (hts _ hl) (fun _ h => h) hdg (kk (.ref 1000020) (Or.inr (by decide)) p e s m args below meth c dC dI ca ad A H locs lsA ad0 N0 (X.stk (bdd_cons (Or.inr (by decide)) hbs)) hN h0)
theorem g_blen {i k : Nat} {v : Int32} (hi : i < 2) (hk : k = 1000010 + i) (hv : Int32.ofNat (am_sl.getD i 0) = v) (hdg : decode mi.2.1 pc = .ok (.arraylength, 1)) (kk : G sc l d mc ms mi Q (pc + 1) ls (.int v :: st) N P I nc ns) : G sc l d mc ms mi Q pc ls (.ref k :: st) N P I nc ns := by
  subst hk
  intro p e s m args below meth c dC dI ca ad A H locs lsA ad0 N0 X hN h0
  obtain ⟨⟨hx, hb, hml, hr, hlk, hnm, hown, hts, hnw⟩, ⟨⟨hP, hD, hPB⟩, hK, hS, hA, hSX, hSC⟩, ⟨hbl, hbs, hL⟩⟩ := id X
  exact va_tlen hx hb (hSX.1.1 i hi).2.2.2 hS hv hdg (kk p e s m args below meth c dC dI ca ad A H locs lsA ad0 N0 (X.stk (bdd_cons trivial (bdd_tl hbs))) hN h0)
def am_sc (i : Nat) (j : Nat) : Int32 := (am_sb.getD i []).getD j 0
theorem g_bald {i k n : Nat} {j : Int32} (hi : i < 2) (hk : k = 1000010 + i) (hn : am_sl.getD i 0 = n) (hin : vp_in j n) (hdg : decode mi.2.1 pc = .ok (.baload, 1)) (kk : G sc l d mc ms mi Q (pc + 1) ls (.int (am_sc i j.toNatClampNeg) :: st) N P I nc ns) : G sc l d mc ms mi Q pc ls (.int j :: .ref k :: st) N P I nc ns := by
  subst hk; subst hn
  intro p e s m args below meth c dC dI ca ad A H locs lsA ad0 N0 X hN h0
  obtain ⟨⟨hx, hb, hml, hr, hlk, hnm, hown, hts, hnw⟩, ⟨⟨hP, hD, hPB⟩, hK, hS, hA, hSX, hSC⟩, ⟨hbl, hbs, hL⟩⟩ := id X
  exact va_tb hx hb (hSX.1.1 i hi).2.2.2 hS hin rfl hdg (kk p e s m args below meth c dC dI ca ad A H locs lsA ad0 N0 (X.stk (bdd_cons trivial (bdd_tl (bdd_tl hbs)))) hN h0)
theorem g_xret {x : Int32} {t : FieldType} (hr : mi.2.2.2 = some t) (hn : narrow t (.int x) = .int x) (hc : nc ≤ mc) (hs : ns ≤ ms) (hdg : decode mi.2.1 pc = .ok (.ireturn, 1)) (hq : Q (some (.int x)) N P I) : G sc l d mc ms mi Q pc ls [.int x] N P I nc ns := by
  intro p e s m args below meth c dC dI ca ad A H locs lsA ad0 N0 X hN h0
  have he := am_end X hN h0 hq (fun y hy => by cases hy; exact trivial)
  obtain ⟨⟨hx, hb, hml, hr2, hlk, hnm, hown, hts, hnw⟩, ⟨⟨hP, hD, hPB⟩, hK, hS, hA, hSX, hSC⟩, ⟨hbl, hbs, hL⟩⟩ := id X
  exact W.widen hc hs (W.zret hx hb (hr2.trans hr) hn he hS.2.2 hdg hlk)
def am_yT (mi' : am_M) (n : Nat) : Prop := am_y mi' n ∧ Cond.instanceMethod mi'.1 ∈ lwg ∧ Cond.selects mi'.1.cls mi'.1 mi'.1 ∈ lwg ∧ mi'.1.cls = "java/lang/String"
theorem g_cT {idx i k n d1 : Nat} {m1 : am_M} {As As2 : List Value} {I2 : am_IT} {Q1 : Option Value → Nat → am_PT → am_IT → Prop} (hy : am_yT m1 n) (hi : i < 2) (hk : k = 1000000 + i) (hl : Cond.methodLink mi.1.cls idx m1.1 ∈ lwg) (hC : am_C l d1 0 0 m1 (.ref k :: As) N P I Q1) (hAs : As2 = As.reverse ++ .ref k :: st) (hn : As.length = n) (hd : d1 + 1 ≤ d) (hst : st.length ≤ 8) (hc : nc ≤ mc) (hs : ns ≤ ms) (hdg : decode mi.2.1 pc = .ok (.invokevirtual idx, 3))
    (kk : ∀ (v : Option Value) (N' : Nat) (P' : am_PT) (I' : am_IT), Q1 v N' P' I' → G sc l d mc ms mi Q (pc + 3) ls (v.toList ++ st) N' P' I' nc ns) : G sc l d mc ms mi Q pc ls As2 N P I nc ns := by
  intro p e s m args below meth c dC dI ca ad A H locs lsA ad0 N0 X hN h0
  subst hAs
  have Xr := X.stk (st' := st) (fun v hv => X.2.2.2.1 v (List.mem_append_right _ (List.mem_cons_of_mem _ hv)))
  obtain ⟨⟨hx, hb, hml, hr, hlk, hnm, hown, hts, hnw⟩, ⟨⟨hP, hD, hPB⟩, hK, hS, hA, hSX, hSC⟩, ⟨hbl, hbs, hL⟩⟩ := id X
  obtain ⟨hy0, hin, hsel, hcl⟩ := hy
  have hbA : ∀ v ∈ Value.ref k :: As, am_bv N v := fun v hv => hbs v (by
    rcases List.mem_cons.mp hv with h | h
    · rw [h]; exact List.mem_append_right _ List.mem_cons_self
    · exact List.mem_append_left _ (List.mem_reverse.mpr h))
  have hst2 : (As.reverse ++ .ref k :: st).map (cv ad) = (As.map (cv ad)).reverse ++ .ref (ad k) :: st.map (cv ad) := by
    rw [List.map_append, List.map_reverse]; rfl
  have hrv : ∃ cell : Cell, H[ad k]? = some cell ∧ cell.vm.isStatics = false ∧ s.vm.findClass m1.1.cls = some cell.cls := by
    rw [hk, hcl]
    have h9 := vk_recv hSX.1 hi hS
    exact h9
  rw [hst2]
  refine am_go Xr hN h0 (va_runV (As := As.map (cv ad)) (b := ad k) (n := n) ⟨hx, hb, hml, hown, hts⟩ (hC dC dI ca ad H.size hbA) ⟨am_callB hts hy0 hl (am_room hd hy0.2.2.2), hts _ hin, hts _ hsel⟩ ⟨am_blind, hrv, fun U hU hW => am_pre X _ U hU hW⟩ rfl (by rw [List.length_map]; exact hn) hL.1.1 rfl (by rw [bdd_cat Xr.2.2.2.1]; show 2 * 0 + _ ≤ 8; omega) hdg ⟨hc, hs⟩) kk
theorem g_cTi {idx i k n d1 : Nat} {m1 : am_M} {As As2 : List Value} {I2 : am_IT} {r : Int32} (hy : am_yT m1 n) (hi : i < 2) (hk : k = 1000000 + i) (hl : Cond.methodLink mi.1.cls idx m1.1 ∈ lwg) (hC : am_C l d1 0 0 m1 (.ref k :: As) N P I (am_qi r N P I2)) (hAs : As2 = As.reverse ++ .ref k :: st) (hn : As.length = n) (hd : d1 + 1 ≤ d) (hst : st.length ≤ 8) (hc : nc ≤ mc) (hs : ns ≤ ms) (hdg : decode mi.2.1 pc = .ok (.invokevirtual idx, 3))
    (kk : G sc l d mc ms mi Q (pc + 3) ls (.int r :: st) N P I2 nc ns) : G sc l d mc ms mi Q pc ls As2 N P I nc ns := by
  refine g_cT (I2 := I2) hy hi hk hl hC hAs hn hd hst hc hs hdg ?_
  rintro _ _ _ _ ⟨rfl, rfl, rfl, rfl⟩
  exact kk
theorem g_cTz {idx i k n d1 : Nat} {m1 : am_M} {As As2 : List Value} {I2 : am_IT} {r : Int32} (hy : am_yT m1 n) (hi : i < 2) (hk : k = 1000000 + i) (hl : Cond.methodLink mi.1.cls idx m1.1 ∈ lwg) (hC : am_C l d1 0 0 m1 (.ref k :: As) N P I (am_qz r N P I2)) (hAs : As2 = As.reverse ++ .ref k :: st) (hn : As.length = n) (hd : d1 + 1 ≤ d) (hst : st.length ≤ 8) (hc : nc ≤ mc) (hs : ns ≤ ms) (hdg : decode mi.2.1 pc = .ok (.invokevirtual idx, 3))
    (kk : (r = 0 ∨ r = 1) → G sc l d mc ms mi Q (pc + 3) ls (.int r :: st) N P I2 nc ns) : G sc l d mc ms mi Q pc ls As2 N P I nc ns := by
  refine g_cT (I2 := I2) hy hi hk hl hC hAs hn hd hst hc hs hdg ?_
  rintro _ _ _ _ ⟨h01, rfl, rfl, rfl, rfl⟩
  exact kk h01
end GS
abbrev mJ0_length_8abf5 : am_M := (yJ0_length_8abf5, cJ0_length_8abf5, 1, (some .int))
theorem ky_J0_length_8abf5 : am_yT mJ0_length_8abf5 0 := ⟨⟨mem_lwg (mem_t3 (List.mem_of_getElem? (i := 98) rfl)) rfl, mem_lwg (mem_t1 (List.mem_of_getElem? (i := 16) (by decide +kernel))) rfl, by decide +kernel, by decide⟩, mem_lwg (mem_t3 (List.mem_of_getElem? (i := 96) (by decide +kernel))) rfl, mem_lwg (mem_t3 (List.mem_of_getElem? (i := 97) (by decide +kernel))) rfl, rfl⟩
abbrev mJ0_coder_7d493 : am_M := (yJ0_coder_7d493, cJ0_coder_7d493, 1, (some .byte))
theorem ky_J0_coder_7d493 : am_yT mJ0_coder_7d493 0 := ⟨⟨mem_lwg (mem_t3 (List.mem_of_getElem? (i := 102) rfl)) rfl, mem_lwg (mem_t1 (List.mem_of_getElem? (i := 16) (by decide +kernel))) rfl, by decide +kernel, by decide⟩, mem_lwg (mem_t3 (List.mem_of_getElem? (i := 100) (by decide +kernel))) rfl, mem_lwg (mem_t3 (List.mem_of_getElem? (i := 101) (by decide +kernel))) rfl, rfl⟩
abbrev mJ0_charAt_5068e : am_M := (yJ0_charAt_5068e, cJ0_charAt_5068e, 2, (some .char))
theorem ky_J0_charAt_5068e : am_yT mJ0_charAt_5068e 1 := ⟨⟨mem_lwg (mem_t3 (List.mem_of_getElem? (i := 108) rfl)) rfl, mem_lwg (mem_t1 (List.mem_of_getElem? (i := 16) (by decide +kernel))) rfl, by decide +kernel, by decide⟩, mem_lwg (mem_t3 (List.mem_of_getElem? (i := 106) (by decide +kernel))) rfl, mem_lwg (mem_t3 (List.mem_of_getElem? (i := 107) (by decide +kernel))) rfl, rfl⟩
abbrev mJ0_isLatin1_aae02 : am_M := (yJ0_isLatin1_aae02, cJ0_isLatin1_aae02, 1, (some .boolean))
theorem ky_J0_isLatin1_aae02 : am_yT mJ0_isLatin1_aae02 0 := ⟨⟨mem_lwg (mem_t3 (List.mem_of_getElem? (i := 112) rfl)) rfl, mem_lwg (mem_t1 (List.mem_of_getElem? (i := 16) (by decide +kernel))) rfl, by decide +kernel, by decide⟩, mem_lwg (mem_t3 (List.mem_of_getElem? (i := 110) (by decide +kernel))) rfl, mem_lwg (mem_t3 (List.mem_of_getElem? (i := 111) (by decide +kernel))) rfl, rfl⟩
abbrev mJ1_charAt_3b067 : am_M := (yJ1_charAt_3b067, cJ1_charAt_3b067, 2, (some .char))
theorem ky_J1_charAt_3b067 : am_yS mJ1_charAt_3b067 2 := ⟨⟨mem_lwg (mem_t3 (List.mem_of_getElem? (i := 115) rfl)) rfl, mem_lwg (mem_t1 (List.mem_of_getElem? (i := 17) (by decide +kernel))) rfl, by decide +kernel, by decide⟩, mem_lwg (mem_t3 (List.mem_of_getElem? (i := 114) (by decide +kernel))) rfl⟩
abbrev mJ0_checkIndex_df160 : am_M := (yJ0_checkIndex_df160, cJ0_checkIndex_df160, 2, none)
theorem ky_J0_checkIndex_df160 : am_yS mJ0_checkIndex_df160 2 := ⟨⟨mem_lwg (mem_t3 (List.mem_of_getElem? (i := 118) rfl)) rfl, mem_lwg (mem_t1 (List.mem_of_getElem? (i := 16) (by decide +kernel))) rfl, by decide +kernel, by decide⟩, mem_lwg (mem_t3 (List.mem_of_getElem? (i := 117) (by decide +kernel))) rfl⟩
abbrev mJ3_checkIndex_8e157 : am_M := (yJ3_checkIndex_8e157, cJ3_checkIndex_8e157, 3, (some .int))
theorem ky_J3_checkIndex_8e157 : am_yS mJ3_checkIndex_8e157 3 := ⟨⟨mem_lwg (mem_t3 (List.mem_of_getElem? (i := 123) rfl)) rfl, mem_lwg (mem_t1 (List.mem_of_getElem? (i := 18) (by decide +kernel))) rfl, by decide +kernel, by decide⟩, mem_lwg (mem_t3 (List.mem_of_getElem? (i := 122) (by decide +kernel))) rfl⟩
abbrev mJ0_indexOf_0f7a4 : am_M := (yJ0_indexOf_0f7a4, cJ0_indexOf_0f7a4, 2, (some .int))
theorem ky_J0_indexOf_0f7a4 : am_yT mJ0_indexOf_0f7a4 1 := ⟨⟨mem_lwg (mem_t3 (List.mem_of_getElem? (i := 153) rfl)) rfl, mem_lwg (mem_t1 (List.mem_of_getElem? (i := 16) (by decide +kernel))) rfl, by decide +kernel, by decide⟩, mem_lwg (mem_t3 (List.mem_of_getElem? (i := 151) (by decide +kernel))) rfl, mem_lwg (mem_t3 (List.mem_of_getElem? (i := 152) (by decide +kernel))) rfl, rfl⟩
abbrev mJ0_indexOf_7cf53 : am_M := (yJ0_indexOf_7cf53, cJ0_indexOf_7cf53, 3, (some .int))
theorem ky_J0_indexOf_7cf53 : am_yT mJ0_indexOf_7cf53 2 := ⟨⟨mem_lwg (mem_t3 (List.mem_of_getElem? (i := 157) rfl)) rfl, mem_lwg (mem_t1 (List.mem_of_getElem? (i := 16) (by decide +kernel))) rfl, by decide +kernel, by decide⟩, mem_lwg (mem_t3 (List.mem_of_getElem? (i := 155) (by decide +kernel))) rfl, mem_lwg (mem_t3 (List.mem_of_getElem? (i := 156) (by decide +kernel))) rfl, rfl⟩
abbrev mJ1_canEncode_9a6ad : am_M := (yJ1_canEncode_9a6ad, cJ1_canEncode_9a6ad, 1, (some .boolean))
theorem ky_J1_canEncode_9a6ad : am_yS mJ1_canEncode_9a6ad 1 := ⟨⟨mem_lwg (mem_t3 (List.mem_of_getElem? (i := 164) rfl)) rfl, mem_lwg (mem_t1 (List.mem_of_getElem? (i := 17) (by decide +kernel))) rfl, by decide +kernel, by decide⟩, mem_lwg (mem_t3 (List.mem_of_getElem? (i := 163) (by decide +kernel))) rfl⟩
abbrev mJ1_indexOf_4cfef : am_M := (yJ1_indexOf_4cfef, cJ1_indexOf_4cfef, 4, (some .int))
theorem ky_J1_indexOf_4cfef : am_yS mJ1_indexOf_4cfef 4 := ⟨⟨mem_lwg (mem_t3 (List.mem_of_getElem? (i := 161) rfl)) rfl, mem_lwg (mem_t1 (List.mem_of_getElem? (i := 17) (by decide +kernel))) rfl, by decide +kernel, by decide⟩, mem_lwg (mem_t3 (List.mem_of_getElem? (i := 160) (by decide +kernel))) rfl⟩
abbrev mJ1_indexOfChar_4cfef : am_M := (yJ1_indexOfChar_4cfef, cJ1_indexOfChar_4cfef, 6, (some .int))
theorem ky_J1_indexOfChar_4cfef : am_yS mJ1_indexOfChar_4cfef 4 := ⟨⟨mem_lwg (mem_t3 (List.mem_of_getElem? (i := 171) rfl)) rfl, mem_lwg (mem_t1 (List.mem_of_getElem? (i := 17) (by decide +kernel))) rfl, by decide +kernel, by decide⟩, mem_lwg (mem_t3 (List.mem_of_getElem? (i := 170) (by decide +kernel))) rfl⟩
theorem kl_J0_335 : Cond.methodLink RJ0 335 yJ0_coder_7d493 ∈ lwg := mem_lwg (mem_t3 (List.mem_of_getElem? (i := 99) (by decide +kernel))) rfl
theorem kl_J0_492 : Cond.methodLink RJ0 492 yJ0_isLatin1_aae02 ∈ lwg := mem_lwg (mem_t3 (List.mem_of_getElem? (i := 109) (by decide +kernel))) rfl
theorem kl_J0_495 : Cond.methodLink RJ0 495 yJ1_charAt_3b067 ∈ lwg := mem_lwg (mem_t3 (List.mem_of_getElem? (i := 113) (by decide +kernel))) rfl
theorem kl_J0_498 : Cond.methodLink RJ0 498 yJ2_charAt_3b067 ∈ lwg := mem_lwg (mem_t3 (List.mem_of_getElem? (i := 124) (by decide +kernel))) rfl
theorem kl_J0_505 : Cond.methodLink RJ0 505 yJ0_length_8abf5 ∈ lwg := mem_lwg (mem_t3 (List.mem_of_getElem? (i := 158) (by decide +kernel))) rfl
theorem kl_J0_633 : Cond.methodLink RJ0 633 yJ0_indexOf_7cf53 ∈ lwg := mem_lwg (mem_t3 (List.mem_of_getElem? (i := 154) (by decide +kernel))) rfl
theorem kl_J0_637 : Cond.methodLink RJ0 637 yJ1_indexOf_4cfef ∈ lwg := mem_lwg (mem_t3 (List.mem_of_getElem? (i := 159) (by decide +kernel))) rfl
theorem kl_J0_640 : Cond.methodLink RJ0 640 yJ2_indexOf_4cfef ∈ lwg := mem_lwg (mem_t3 (List.mem_of_getElem? (i := 172) (by decide +kernel))) rfl
theorem kl_J0_1059 : Cond.methodLink RJ0 1059 yJ3_checkIndex_8e157 ∈ lwg := mem_lwg (mem_t3 (List.mem_of_getElem? (i := 121) (by decide +kernel))) rfl
theorem kl_J0_1062 : Cond.methodLink RJ0 1062 yJ3_checkFromToIndex_8c36e ∈ lwg := mem_lwg (mem_t3 (List.mem_of_getElem? (i := 187) (by decide +kernel))) rfl
theorem kl_J1_9 : Cond.methodLink RJ1 9 yJ0_checkIndex_df160 ∈ lwg := mem_lwg (mem_t3 (List.mem_of_getElem? (i := 116) (by decide +kernel))) rfl
theorem kl_J1_38 : Cond.methodLink RJ1 38 Lib.Math.min.name ∈ lwg := mem_lwg (mem_t3 (List.mem_of_getElem? (i := 168) (by decide +kernel))) rfl
theorem kl_J1_88 : Cond.methodLink RJ1 88 yJ1_canEncode_9a6ad ∈ lwg := mem_lwg (mem_t3 (List.mem_of_getElem? (i := 162) (by decide +kernel))) rfl
theorem kl_J1_92 : Cond.methodLink RJ1 92 Lib.Math.max.name ∈ lwg := mem_lwg (mem_t3 (List.mem_of_getElem? (i := 165) (by decide +kernel))) rfl
theorem kl_J1_95 : Cond.methodLink RJ1 95 yJ1_indexOfChar_4cfef ∈ lwg := mem_lwg (mem_t3 (List.mem_of_getElem? (i := 169) (by decide +kernel))) rfl
theorem kl_J2_48 : Cond.methodLink RJ2 48 yJ2_length_9d52b ∈ lwg := mem_lwg (mem_t3 (List.mem_of_getElem? (i := 130) (by decide +kernel))) rfl
theorem kl_J2_67 : Cond.methodLink RJ2 67 yJ2_checkIndex_2214a ∈ lwg := mem_lwg (mem_t3 (List.mem_of_getElem? (i := 127) (by decide +kernel))) rfl
theorem kl_J2_71 : Cond.methodLink RJ2 71 yJ2_getChar_3b067 ∈ lwg := mem_lwg (mem_t3 (List.mem_of_getElem? (i := 134) (by decide +kernel))) rfl
theorem kl_J2_96 : Cond.methodLink RJ2 96 yJ2_checkBoundsBeginEnd_d044e ∈ lwg := mem_lwg (mem_t3 (List.mem_of_getElem? (i := 181) (by decide +kernel))) rfl
theorem kl_J2_157 : Cond.methodLink RJ2 157 yJ11_highSurrogate_5068e ∈ lwg := mem_lwg (mem_t3 (List.mem_of_getElem? (i := 199) (by decide +kernel))) rfl
theorem kl_J2_161 : Cond.methodLink RJ2 161 yJ11_lowSurrogate_5068e ∈ lwg := mem_lwg (mem_t3 (List.mem_of_getElem? (i := 203) (by decide +kernel))) rfl
theorem kl_J2_164 : Cond.methodLink RJ2 164 yJ11_isValidCodePoint_9a6ad ∈ lwg := mem_lwg (mem_t3 (List.mem_of_getElem? (i := 196) (by decide +kernel))) rfl
theorem kl_J2_183 : Cond.methodLink RJ2 183 Lib.Math.min.name ∈ lwg := mem_lwg (mem_t3 (List.mem_of_getElem? (i := 176) (by decide +kernel))) rfl
theorem kl_J2_224 : Cond.methodLink RJ2 224 Lib.Math.max.name ∈ lwg := mem_lwg (mem_t3 (List.mem_of_getElem? (i := 175) (by decide +kernel))) rfl
theorem kl_J2_228 : Cond.methodLink RJ2 228 yJ2_indexOfChar_4cfef ∈ lwg := mem_lwg (mem_t3 (List.mem_of_getElem? (i := 178) (by decide +kernel))) rfl
theorem kl_J2_232 : Cond.methodLink RJ2 232 yJ2_indexOfSupplementary_4cfef ∈ lwg := mem_lwg (mem_t3 (List.mem_of_getElem? (i := 193) (by decide +kernel))) rfl
theorem kl_J2_241 : Cond.methodLink RJ2 241 yJ0_checkBoundsBeginEnd_23922 ∈ lwg := mem_lwg (mem_t3 (List.mem_of_getElem? (i := 184) (by decide +kernel))) rfl
theorem kl_J2_244 : Cond.methodLink RJ2 244 yJ2_indexOfCharUnsafe_4cfef ∈ lwg := mem_lwg (mem_t3 (List.mem_of_getElem? (i := 190) (by decide +kernel))) rfl
theorem kl_J2_414 : Cond.methodLink RJ2 414 yJ0_checkIndex_df160 ∈ lwg := mem_lwg (mem_t3 (List.mem_of_getElem? (i := 133) (by decide +kernel))) rfl
theorem kf_J0_9 : Cond.fieldLink RJ0 9 "java/lang/String" "value" "[B" ∈ lwg := mem_lwg (mem_t8 (List.mem_of_getElem? (i := 40) (by decide +kernel))) rfl
theorem kf_J0_15 : Cond.fieldLink RJ0 15 "java/lang/String" "coder" "B" ∈ lwg := mem_lwg (mem_t8 (List.mem_of_getElem? (i := 41) (by decide +kernel))) rfl
theorem kf_J0_38 : Cond.fieldLink RJ0 38 "java/lang/String" "COMPACT_STRINGS" "Z" ∈ lwg := mem_lwg (mem_t3 (List.mem_of_getElem? (i := 103) (by decide +kernel))) rfl
theorem kf_J0_1053 : Cond.fieldLink RJ0 1053 "jdk/internal/util/Preconditions" "SIOOBE_FORMATTER" "Ljava/util/function/BiFunction;" ∈ lwg := mem_lwg (mem_t3 (List.mem_of_getElem? (i := 119) (by decide +kernel))) rfl
theorem kf_J2_44 : Cond.fieldLink RJ2 44 "java/lang/StringUTF16" "$assertionsDisabled" "Z" ∈ lwg := mem_lwg (mem_t3 (List.mem_of_getElem? (i := 137) (by decide +kernel))) rfl
theorem kf_J2_59 : Cond.fieldLink RJ2 59 "java/lang/StringUTF16" "HI_BYTE_SHIFT" "I" ∈ lwg := mem_lwg (mem_t3 (List.mem_of_getElem? (i := 139) (by decide +kernel))) rfl
theorem kf_J2_63 : Cond.fieldLink RJ2 63 "java/lang/StringUTF16" "LO_BYTE_SHIFT" "I" ∈ lwg := mem_lwg (mem_t3 (List.mem_of_getElem? (i := 141) (by decide +kernel))) rfl
