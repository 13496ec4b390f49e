/-! the script, the law's numbers -/
abbrev mL_law : am_M := (yL_law, cL_law, 4, some .boolean)
def am_bz (x : Int32) : Int32 := if x = 0 then 0 else 1
theorem am_bz01 (x : Int32) : am_bz x = 0 ∨ am_bz x = 1 := by
  unfold am_bz
  split
  · exact Or.inl rfl
  · exact Or.inr rfl
def am_PP (b : Bool) (N : Nat) (P : am_PT) : Prop := am_Pl 94 N P ∧ (match b with
  | true => N = 116 ∧ P 0 12 = some 94 ∧ am_plb 116 P = true
  | false => N = 94 ∧ P 0 12 = none ∧ am_plb 94 P = true)
def am_nn (i nc ns : Nat) : Prop := nc ≤ 1000 + 100 * i ∧ ns ≤ 20000 + 2000 * i
section GLW
variable {sc : am_ST} {l : Launch} {d mc ms : Nat} {mi : am_M} {Q : Option Value → Nat → am_PT → am_IT → Prop} {pc : Nat} {ls st : List Value} {N : Nat} {P : am_PT} {I : am_IT} {nc ns : Nat}
theorem g_sld {x : Int32} {j : Nat} (hm : mi.1.name = "law") (hx : x = nI j) (hj : j < sc.1) (hL : sc.1 < 2 ^ 31) (hdg : decode mi.2.1 pc = .ok (.iaload, 1)) (kk : G sc l d mc ms mi Q (pc + 1) ls (.int (sc.2 j) :: st) N P I nc ns) : G sc l d mc ms mi Q pc ls (.int x :: .ref 1000030 :: st) N P I nc ns := by
  subst hx
  intro p e s m args below meth c dC dI ca ad A H locs lsA ad0 N0 X hN h0
  obtain ⟨⟨hx, hb, hml, hr, hlk, hnm, hown, hts, hnw⟩, ⟨⟨hP, hD, hPB⟩, hK, hS, hA, hSX, hSC⟩, ⟨hbl, hbs, hL1⟩⟩ := id X
  obtain ⟨k1, k2, k3⟩ := hSC hm
  refine va_sld hx hb k1 k2 k3 hS (vp_in_nI hj hL) hdg ?_
  rw [nI_clamp (by omega)]
  exact kk p e s m args below meth c dC dI ca ad A H locs lsA ad0 N0 (X.stk (bdd_cons trivial (bdd_tl (bdd_tl hbs)))) hN h0
theorem g_slen (hm : mi.1.name = "law") (hdg : decode mi.2.1 pc = .ok (.arraylength, 1)) (kk : G sc l d mc ms mi Q (pc + 1) ls (.int (nI sc.1) :: st) N P I nc ns) : G sc l d mc ms mi Q pc ls (.ref 1000030 :: st) N P I nc ns := by
  intro p e s m args below meth c dC dI ca ad A H locs lsA ad0 N0 X hN h0
  obtain ⟨⟨hx, hb, hml, hr, hlk, hnm, hown, hts, hnw⟩, ⟨⟨hP, hD, hPB⟩, hK, hS, hA, hSX, hSC⟩, ⟨hbl, hbs, hL1⟩⟩ := id X
  obtain ⟨k1, k2, k3⟩ := hSC hm
  exact va_slen hx hb k1 k2 k3 hS hdg (kk p e s m args below meth c dC dI ca ad A H locs lsA ad0 N0 (X.stk (bdd_cons trivial (bdd_tl hbs))) hN h0)
/-- 'x != 0' as a value -/
theorem g_bz {x : Int32} (h1 : decode mi.2.1 pc = .ok (.ifCond .eq 7, 3)) (e1 : pc + 3 = pc + 3) (h2 : decode mi.2.1 (pc + 3) = .ok (.iconst 1, 1)) (h3 : decode mi.2.1 (pc + 4) = .ok (.goto 4, 3)) (e2 : pc + 4 = pc + 4) (h4 : decode mi.2.1 (pc + 7) = .ok (.iconst 0, 1)) (kk : G sc l d mc ms mi Q (pc + 8) ls (.int (am_bz x) :: st) N P I nc ns) : G sc l d mc ms mi Q pc ls (.int x :: st) N P I nc ns := by
  refine g_if_eq (tgt := pc + 7) h1 (by omega) (fun c => ?_) (fun c => ?_)
  · refine g_iconst (v := 0) h4 rfl ?_
    rw [show am_bz x = 0 from if_pos c] at kk
    exact kk
  · refine g_iconst (v := 1) h2 rfl ?_
    refine g_goto (tgt := pc + 8) h3 (by omega) ?_
    rw [show am_bz x = 1 from if_neg c] at kk
    exact kk
end GLW
def am_op0 (RI : Bool → am_IT → Prop) : Prop := ∀ (b : Bool) (I : am_IT) (a1 : Int32), RI b I → ∃ (r : Int32) (I1 : am_IT) (I2 : am_IT), F_X11_state_0 I a1 = some (r, I1) ∧ F_X12_state_55 I1 a1 = some (r, I2) ∧ RI b I2
set_option maxRecDepth 100000 in
set_option maxHeartbeats 4000000 in
theorem law_c0 {RI : Bool → am_IT → Prop} (ho : am_op0 RI) {sc : am_ST} {l : Launch} {Q : Option Value → Nat → am_PT → am_IT → Prop} {b : Bool} {i N : Nat} {P : am_PT} {I : am_IT} {nc ns : Nat} (hi : i + 6 ≤ sc.1) (hL : sc.1 ≤ 3072) (hP : am_Pl 94 N P) (hR : RI b I) (hc : nc ≤ 600000) (hs : ns ≤ 7302250)
    (next : ∀ I2 : am_IT, RI b I2 → G sc l 2048 600000 7302250 mL_law Q 1304 [.ref 1000030, .ref 0, .ref 55, .int (nI i)] [] N P I2 nc ns) : G sc l 2048 600000 7302250 mL_law Q 184 [.ref 1000030, .ref 0, .ref 55, .int (nI i)] [] N P I nc ns := by
  obtain ⟨r, I1, I2, h1, h2, h3⟩ := ho b I (sc.2 (i + 1)) hR
  refine g_aload_n (pc := 184) dL_law_184 rfl rfl ?_
  refine g_aload_n (pc := 185) dL_law_185 rfl rfl ?_
  refine g_iload_n (pc := 186) dL_law_186 rfl rfl ?_
  refine g_iconst (pc := 187) (v := 1) dL_law_187 rfl ?_
  refine g_iadd (pc := 188) dL_law_188 ?_
  refine g_sld (pc := 189) (j := i + 1) rfl (nI_add i 1) (by omega) (Nat.lt_of_le_of_lt hL (by decide)) dL_law_189 ?_
  refine g_cVi (pc := 190) (k := 0) (As := [.int (sc.2 (i + 1))]) (st := []) ky_X11_state kl_L_13 (s_X11_state_0 (d := 1) hP (Nat.le_refl _) h1) rfl rfl rfl (hP.lt (by decide)) (by decide) (Nat.le_of_ble_eq_true rfl) hc hs dL_law_190 ?_
  refine g_aload_n (pc := 193) dL_law_193 rfl rfl ?_
  refine g_aload_n (pc := 194) dL_law_194 rfl rfl ?_
  refine g_iload_n (pc := 195) dL_law_195 rfl rfl ?_
  refine g_iconst (pc := 196) (v := 1) dL_law_196 rfl ?_
  refine g_iadd (pc := 197) dL_law_197 ?_
  refine g_sld (pc := 198) (j := i + 1) rfl (nI_add i 1) (by omega) (Nat.lt_of_le_of_lt hL (by decide)) dL_law_198 ?_
  refine g_cVi (pc := 199) (k := 55) (As := [.int (sc.2 (i + 1))]) (st := [.int r]) ky_X12_state kl_L_17 (s_X12_state_55 (d := 1) hP (Nat.le_refl _) h2) rfl rfl rfl (hP.lt (by decide)) (by decide) (Nat.le_of_ble_eq_true rfl) hc hs dL_law_199 ?_
  refine g_icmp_eq (pc := 202) (tgt := 1304) dL_law_202 rfl (fun _ => next I2 h3) (fun c => absurd rfl c)
def am_op1 (RI : Bool → am_IT → Prop) : Prop := ∀ (b : Bool) (I : am_IT) (a1 : Int32), RI b I → ∃ (r : Int32) (I1 : am_IT) (I2 : am_IT), F_X11_colours_0 I a1 = some (r, I1) ∧ F_X12_colours_55 I1 a1 = some (r, I2) ∧ RI b I2
set_option maxRecDepth 100000 in
set_option maxHeartbeats 4000000 in
theorem law_c1 {RI : Bool → am_IT → Prop} (ho : am_op1 RI) {sc : am_ST} {l : Launch} {Q : Option Value → Nat → am_PT → am_IT → Prop} {b : Bool} {i N : Nat} {P : am_PT} {I : am_IT} {nc ns : Nat} (hi : i + 6 ≤ sc.1) (hL : sc.1 ≤ 3072) (hP : am_Pl 94 N P) (hR : RI b I) (hc : nc ≤ 600000) (hs : ns ≤ 7302250)
    (next : ∀ I2 : am_IT, RI b I2 → G sc l 2048 600000 7302250 mL_law Q 1304 [.ref 1000030, .ref 0, .ref 55, .int (nI i)] [] N P I2 nc ns) : G sc l 2048 600000 7302250 mL_law Q 207 [.ref 1000030, .ref 0, .ref 55, .int (nI i)] [] N P I nc ns := by
  obtain ⟨r, I1, I2, h1, h2, h3⟩ := ho b I (sc.2 (i + 1)) hR
  refine g_aload_n (pc := 207) dL_law_207 rfl rfl ?_
  refine g_aload_n (pc := 208) dL_law_208 rfl rfl ?_
  refine g_iload_n (pc := 209) dL_law_209 rfl rfl ?_
  refine g_iconst (pc := 210) (v := 1) dL_law_210 rfl ?_
  refine g_iadd (pc := 211) dL_law_211 ?_
  refine g_sld (pc := 212) (j := i + 1) rfl (nI_add i 1) (by omega) (Nat.lt_of_le_of_lt hL (by decide)) dL_law_212 ?_
  refine g_cVz (pc := 213) (k := 0) (As := [.int (sc.2 (i + 1))]) (st := []) ky_X11_colours kl_L_18 (s_X11_colours_0 (d := 4) hP (Nat.le_refl _) h1) rfl rfl rfl (hP.lt (by decide)) (by decide) (Nat.le_of_ble_eq_true rfl) hc hs dL_law_213 ?_
  intro _
  refine g_aload_n (pc := 216) dL_law_216 rfl rfl ?_
  refine g_aload_n (pc := 217) dL_law_217 rfl rfl ?_
  refine g_iload_n (pc := 218) dL_law_218 rfl rfl ?_
  refine g_iconst (pc := 219) (v := 1) dL_law_219 rfl ?_
  refine g_iadd (pc := 220) dL_law_220 ?_
  refine g_sld (pc := 221) (j := i + 1) rfl (nI_add i 1) (by omega) (Nat.lt_of_le_of_lt hL (by decide)) dL_law_221 ?_
  refine g_cVz (pc := 222) (k := 55) (As := [.int (sc.2 (i + 1))]) (st := [.int r]) ky_X12_colours kl_L_22 (s_X12_colours_55 (d := 2) hP (Nat.le_refl _) h2) rfl rfl rfl (hP.lt (by decide)) (by decide) (Nat.le_of_ble_eq_true rfl) hc hs dL_law_222 ?_
  intro _
  refine g_icmp_eq (pc := 225) (tgt := 1304) dL_law_225 rfl (fun _ => next I2 h3) (fun c => absurd rfl c)
def am_op2 (RI : Bool → am_IT → Prop) : Prop := ∀ (b : Bool) (I : am_IT) (a1 a2 : Int32), RI b I → ∃ (r : Int32) (I1 : am_IT) (I2 : am_IT), F_X11_pot_0 I a1 a2 = some (r, I1) ∧ F_X12_pot_55 I1 a1 a2 = some (r, I2) ∧ RI b I2
set_option maxRecDepth 100000 in
set_option maxHeartbeats 4000000 in
theorem law_c2 {RI : Bool → am_IT → Prop} (ho : am_op2 RI) {sc : am_ST} {l : Launch} {Q : Option Value → Nat → am_PT → am_IT → Prop} {b : Bool} {i N : Nat} {P : am_PT} {I : am_IT} {nc ns : Nat} (hi : i + 6 ≤ sc.1) (hL : sc.1 ≤ 3072) (hP : am_Pl 94 N P) (hR : RI b I) (hc : nc ≤ 600000) (hs : ns ≤ 7302250)
    (next : ∀ I2 : am_IT, RI b I2 → G sc l 2048 600000 7302250 mL_law Q 1304 [.ref 1000030, .ref 0, .ref 55, .int (nI i)] [] N P I2 nc ns) : G sc l 2048 600000 7302250 mL_law Q 230 [.ref 1000030, .ref 0, .ref 55, .int (nI i)] [] N P I nc ns := by
  obtain ⟨r, I1, I2, h1, h2, h3⟩ := ho b I (sc.2 (i + 1)) (sc.2 (i + 2)) hR
  refine g_aload_n (pc := 230) dL_law_230 rfl rfl ?_
  refine g_aload_n (pc := 231) dL_law_231 rfl rfl ?_
  refine g_iload_n (pc := 232) dL_law_232 rfl rfl ?_
  refine g_iconst (pc := 233) (v := 1) dL_law_233 rfl ?_
  refine g_iadd (pc := 234) dL_law_234 ?_
  refine g_sld (pc := 235) (j := i + 1) rfl (nI_add i 1) (by omega) (Nat.lt_of_le_of_lt hL (by decide)) dL_law_235 ?_
  refine g_aload_n (pc := 236) dL_law_236 rfl rfl ?_
  refine g_iload_n (pc := 237) dL_law_237 rfl rfl ?_
  refine g_iconst (pc := 238) (v := 2) dL_law_238 rfl ?_
  refine g_iadd (pc := 239) dL_law_239 ?_
  refine g_sld (pc := 240) (j := i + 2) rfl (nI_add i 2) (by omega) (Nat.lt_of_le_of_lt hL (by decide)) dL_law_240 ?_
  refine g_cVz (pc := 241) (k := 0) (As := [.int (sc.2 (i + 1)), .int (sc.2 (i + 2))]) (st := []) ky_X11_pot kl_L_23 (s_X11_pot_0 (d := 2) hP (Nat.le_refl _) h1) rfl rfl rfl (hP.lt (by decide)) (by decide) (Nat.le_of_ble_eq_true rfl) hc hs dL_law_241 ?_
  intro _
  refine g_aload_n (pc := 244) dL_law_244 rfl rfl ?_
  refine g_aload_n (pc := 245) dL_law_245 rfl rfl ?_
  refine g_iload_n (pc := 246) dL_law_246 rfl rfl ?_
  refine g_iconst (pc := 247) (v := 1) dL_law_247 rfl ?_
  refine g_iadd (pc := 248) dL_law_248 ?_
  refine g_sld (pc := 249) (j := i + 1) rfl (nI_add i 1) (by omega) (Nat.lt_of_le_of_lt hL (by decide)) dL_law_249 ?_
  refine g_aload_n (pc := 250) dL_law_250 rfl rfl ?_
  refine g_iload_n (pc := 251) dL_law_251 rfl rfl ?_
  refine g_iconst (pc := 252) (v := 2) dL_law_252 rfl ?_
  refine g_iadd (pc := 253) dL_law_253 ?_
  refine g_sld (pc := 254) (j := i + 2) rfl (nI_add i 2) (by omega) (Nat.lt_of_le_of_lt hL (by decide)) dL_law_254 ?_
  refine g_cVz (pc := 255) (k := 55) (As := [.int (sc.2 (i + 1)), .int (sc.2 (i + 2))]) (st := [.int r]) ky_X12_pot kl_L_27 (s_X12_pot_55 (d := 2) hP (Nat.le_refl _) h2) rfl rfl rfl (hP.lt (by decide)) (by decide) (Nat.le_of_ble_eq_true rfl) hc hs dL_law_255 ?_
  intro _
  refine g_icmp_eq (pc := 258) (tgt := 1304) dL_law_258 rfl (fun _ => next I2 h3) (fun c => absurd rfl c)
def am_op3 (RI : Bool → am_IT → Prop) : Prop := ∀ (b : Bool) (I : am_IT) (a1 : Int32), RI b I → ∃ (r : Int32) (I1 : am_IT) (I2 : am_IT), F_X11_wall_0 I a1 = some (r, I1) ∧ F_X12_wall_55 I1 a1 = some (r, I2) ∧ RI b I2
set_option maxRecDepth 100000 in
set_option maxHeartbeats 4000000 in
theorem law_c3 {RI : Bool → am_IT → Prop} (ho : am_op3 RI) {sc : am_ST} {l : Launch} {Q : Option Value → Nat → am_PT → am_IT → Prop} {b : Bool} {i N : Nat} {P : am_PT} {I : am_IT} {nc ns : Nat} (hi : i + 6 ≤ sc.1) (hL : sc.1 ≤ 3072) (hP : am_Pl 94 N P) (hR : RI b I) (hc : nc ≤ 600000) (hs : ns ≤ 7302250)
    (next : ∀ I2 : am_IT, RI b I2 → G sc l 2048 600000 7302250 mL_law Q 1304 [.ref 1000030, .ref 0, .ref 55, .int (nI i)] [] N P I2 nc ns) : G sc l 2048 600000 7302250 mL_law Q 263 [.ref 1000030, .ref 0, .ref 55, .int (nI i)] [] N P I nc ns := by
  obtain ⟨r, I1, I2, h1, h2, h3⟩ := ho b I (sc.2 (i + 1)) hR
  refine g_aload_n (pc := 263) dL_law_263 rfl rfl ?_
  refine g_aload_n (pc := 264) dL_law_264 rfl rfl ?_
  refine g_iload_n (pc := 265) dL_law_265 rfl rfl ?_
  refine g_iconst (pc := 266) (v := 1) dL_law_266 rfl ?_
  refine g_iadd (pc := 267) dL_law_267 ?_
  refine g_sld (pc := 268) (j := i + 1) rfl (nI_add i 1) (by omega) (Nat.lt_of_le_of_lt hL (by decide)) dL_law_268 ?_
  refine g_cVi (pc := 269) (k := 0) (As := [.int (sc.2 (i + 1))]) (st := []) ky_X11_wall kl_L_28 (s_X11_wall_0 (d := 2) hP (Nat.le_refl _) h1) rfl rfl rfl (hP.lt (by decide)) (by decide) (Nat.le_of_ble_eq_true rfl) hc hs dL_law_269 ?_
  refine g_aload_n (pc := 272) dL_law_272 rfl rfl ?_
  refine g_aload_n (pc := 273) dL_law_273 rfl rfl ?_
  refine g_iload_n (pc := 274) dL_law_274 rfl rfl ?_
  refine g_iconst (pc := 275) (v := 1) dL_law_275 rfl ?_
  refine g_iadd (pc := 276) dL_law_276 ?_
  refine g_sld (pc := 277) (j := i + 1) rfl (nI_add i 1) (by omega) (Nat.lt_of_le_of_lt hL (by decide)) dL_law_277 ?_
  refine g_cVi (pc := 278) (k := 55) (As := [.int (sc.2 (i + 1))]) (st := [.int r]) ky_X12_wall kl_L_31 (s_X12_wall_55 (d := 2) hP (Nat.le_refl _) h2) rfl rfl rfl (hP.lt (by decide)) (by decide) (Nat.le_of_ble_eq_true rfl) hc hs dL_law_278 ?_
  refine g_icmp_eq (pc := 281) (tgt := 1304) dL_law_281 rfl (fun _ => next I2 h3) (fun c => absurd rfl c)
def am_op4 (RI : Bool → am_IT → Prop) : Prop := ∀ (b : Bool) (I : am_IT) (a1 : Int32), RI b I → ∃ (r : Int32) (I1 : am_IT) (I2 : am_IT), F_X11_person_0 I a1 = some (r, I1) ∧ F_X12_person_55 I1 a1 = some (r, I2) ∧ RI b I2
set_option maxRecDepth 100000 in
set_option maxHeartbeats 4000000 in
theorem law_c4 {RI : Bool → am_IT → Prop} (ho : am_op4 RI) {sc : am_ST} {l : Launch} {Q : Option Value → Nat → am_PT → am_IT → Prop} {b : Bool} {i N : Nat} {P : am_PT} {I : am_IT} {nc ns : Nat} (hi : i + 6 ≤ sc.1) (hL : sc.1 ≤ 3072) (hP : am_Pl 94 N P) (hR : RI b I) (hc : nc ≤ 600000) (hs : ns ≤ 7302250)
    (next : ∀ I2 : am_IT, RI b I2 → G sc l 2048 600000 7302250 mL_law Q 1304 [.ref 1000030, .ref 0, .ref 55, .int (nI i)] [] N P I2 nc ns) : G sc l 2048 600000 7302250 mL_law Q 286 [.ref 1000030, .ref 0, .ref 55, .int (nI i)] [] N P I nc ns := by
  obtain ⟨r, I1, I2, h1, h2, h3⟩ := ho b I (sc.2 (i + 1)) hR
  refine g_aload_n (pc := 286) dL_law_286 rfl rfl ?_
  refine g_aload_n (pc := 287) dL_law_287 rfl rfl ?_
  refine g_iload_n (pc := 288) dL_law_288 rfl rfl ?_
  refine g_iconst (pc := 289) (v := 1) dL_law_289 rfl ?_
  refine g_iadd (pc := 290) dL_law_290 ?_
  refine g_sld (pc := 291) (j := i + 1) rfl (nI_add i 1) (by omega) (Nat.lt_of_le_of_lt hL (by decide)) dL_law_291 ?_
  refine g_cVi (pc := 292) (k := 0) (As := [.int (sc.2 (i + 1))]) (st := []) ky_X11_person kl_L_32 (s_X11_person_0 (d := 3) hP (Nat.le_refl _) h1) rfl rfl rfl (hP.lt (by decide)) (by decide) (Nat.le_of_ble_eq_true rfl) hc hs dL_law_292 ?_
  refine g_aload_n (pc := 295) dL_law_295 rfl rfl ?_
  refine g_aload_n (pc := 296) dL_law_296 rfl rfl ?_
  refine g_iload_n (pc := 297) dL_law_297 rfl rfl ?_
  refine g_iconst (pc := 298) (v := 1) dL_law_298 rfl ?_
  refine g_iadd (pc := 299) dL_law_299 ?_
  refine g_sld (pc := 300) (j := i + 1) rfl (nI_add i 1) (by omega) (Nat.lt_of_le_of_lt hL (by decide)) dL_law_300 ?_
  refine g_cVi (pc := 301) (k := 55) (As := [.int (sc.2 (i + 1))]) (st := [.int r]) ky_X12_person kl_L_35 (s_X12_person_55 (d := 2) hP (Nat.le_refl _) h2) rfl rfl rfl (hP.lt (by decide)) (by decide) (Nat.le_of_ble_eq_true rfl) hc hs dL_law_301 ?_
  refine g_icmp_eq (pc := 304) (tgt := 1304) dL_law_304 rfl (fun _ => next I2 h3) (fun c => absurd rfl c)
def am_op5 (RI : Bool → am_IT → Prop) : Prop := ∀ (b : Bool) (I : am_IT) (a1 a2 : Int32), RI b I → ∃ (r : Int32) (I1 : am_IT) (I2 : am_IT), F_X11_move_0 I a1 a2 = some (r, I1) ∧ F_X12_move_55 I1 a1 a2 = some (r, I2) ∧ RI b I2
set_option maxRecDepth 100000 in
set_option maxHeartbeats 4000000 in
theorem law_c5 {RI : Bool → am_IT → Prop} (ho : am_op5 RI) {sc : am_ST} {l : Launch} {Q : Option Value → Nat → am_PT → am_IT → Prop} {b : Bool} {i N : Nat} {P : am_PT} {I : am_IT} {nc ns : Nat} (hi : i + 6 ≤ sc.1) (hL : sc.1 ≤ 3072) (hP : am_Pl 94 N P) (hR : RI b I) (hc : nc ≤ 600000) (hs : ns ≤ 7302250)
    (next : ∀ I2 : am_IT, RI b I2 → G sc l 2048 600000 7302250 mL_law Q 1304 [.ref 1000030, .ref 0, .ref 55, .int (nI i)] [] N P I2 nc ns) : G sc l 2048 600000 7302250 mL_law Q 309 [.ref 1000030, .ref 0, .ref 55, .int (nI i)] [] N P I nc ns := by
  obtain ⟨r, I1, I2, h1, h2, h3⟩ := ho b I (sc.2 (i + 1)) (sc.2 (i + 2)) hR
  refine g_aload_n (pc := 309) dL_law_309 rfl rfl ?_
  refine g_aload_n (pc := 310) dL_law_310 rfl rfl ?_
  refine g_iload_n (pc := 311) dL_law_311 rfl rfl ?_
  refine g_iconst (pc := 312) (v := 1) dL_law_312 rfl ?_
  refine g_iadd (pc := 313) dL_law_313 ?_
  refine g_sld (pc := 314) (j := i + 1) rfl (nI_add i 1) (by omega) (Nat.lt_of_le_of_lt hL (by decide)) dL_law_314 ?_
  refine g_aload_n (pc := 315) dL_law_315 rfl rfl ?_
  refine g_iload_n (pc := 316) dL_law_316 rfl rfl ?_
  refine g_iconst (pc := 317) (v := 2) dL_law_317 rfl ?_
  refine g_iadd (pc := 318) dL_law_318 ?_
  refine g_sld (pc := 319) (j := i + 2) rfl (nI_add i 2) (by omega) (Nat.lt_of_le_of_lt hL (by decide)) dL_law_319 ?_
  refine g_cVz (pc := 320) (k := 0) (As := [.int (sc.2 (i + 1)), .int (sc.2 (i + 2))]) (st := []) ky_X11_move kl_L_36 (s_X11_move_0 (d := 3) hP (Nat.le_refl _) h1) rfl rfl rfl (hP.lt (by decide)) (by decide) (Nat.le_of_ble_eq_true rfl) hc hs dL_law_320 ?_
  intro _
  refine g_aload_n (pc := 323) dL_law_323 rfl rfl ?_
  refine g_aload_n (pc := 324) dL_law_324 rfl rfl ?_
  refine g_iload_n (pc := 325) dL_law_325 rfl rfl ?_
  refine g_iconst (pc := 326) (v := 1) dL_law_326 rfl ?_
  refine g_iadd (pc := 327) dL_law_327 ?_
  refine g_sld (pc := 328) (j := i + 1) rfl (nI_add i 1) (by omega) (Nat.lt_of_le_of_lt hL (by decide)) dL_law_328 ?_
  refine g_aload_n (pc := 329) dL_law_329 rfl rfl ?_
  refine g_iload_n (pc := 330) dL_law_330 rfl rfl ?_
  refine g_iconst (pc := 331) (v := 2) dL_law_331 rfl ?_
  refine g_iadd (pc := 332) dL_law_332 ?_
  refine g_sld (pc := 333) (j := i + 2) rfl (nI_add i 2) (by omega) (Nat.lt_of_le_of_lt hL (by decide)) dL_law_333 ?_
  refine g_cVz (pc := 334) (k := 55) (As := [.int (sc.2 (i + 1)), .int (sc.2 (i + 2))]) (st := [.int r]) ky_X12_move kl_L_39 (s_X12_move_55 (d := 2) hP (Nat.le_refl _) h2) rfl rfl rfl (hP.lt (by decide)) (by decide) (Nat.le_of_ble_eq_true rfl) hc hs dL_law_334 ?_
  intro _
  refine g_icmp_eq (pc := 337) (tgt := 1304) dL_law_337 rfl (fun _ => next I2 h3) (fun c => absurd rfl c)
def am_op6 (RI : Bool → am_IT → Prop) : Prop := ∀ (b : Bool) (I : am_IT) (a1 a2 a3 : Int32), RI b I → ∃ (r : Int32) (I1 : am_IT) (I2 : am_IT), F_X11_view_0 I a1 a2 a3 = some (r, I1) ∧ F_X12_view_55 I1 a1 a2 a3 = some (r, I2) ∧ RI b I2
set_option maxRecDepth 100000 in
set_option maxHeartbeats 4000000 in
theorem law_c6 {RI : Bool → am_IT → Prop} (ho : am_op6 RI) {sc : am_ST} {l : Launch} {Q : Option Value → Nat → am_PT → am_IT → Prop} {b : Bool} {i N : Nat} {P : am_PT} {I : am_IT} {nc ns : Nat} (hi : i + 6 ≤ sc.1) (hL : sc.1 ≤ 3072) (hP : am_Pl 94 N P) (hR : RI b I) (hc : nc ≤ 600000) (hs : ns ≤ 7302250)
    (next : ∀ I2 : am_IT, RI b I2 → G sc l 2048 600000 7302250 mL_law Q 1304 [.ref 1000030, .ref 0, .ref 55, .int (nI i)] [] N P I2 nc ns) : G sc l 2048 600000 7302250 mL_law Q 342 [.ref 1000030, .ref 0, .ref 55, .int (nI i)] [] N P I nc ns := by
  obtain ⟨r, I1, I2, h1, h2, h3⟩ := ho b I (sc.2 (i + 1)) (sc.2 (i + 2)) (sc.2 (i + 3)) hR
  refine g_aload_n (pc := 342) dL_law_342 rfl rfl ?_
  refine g_aload_n (pc := 343) dL_law_343 rfl rfl ?_
  refine g_iload_n (pc := 344) dL_law_344 rfl rfl ?_
  refine g_iconst (pc := 345) (v := 1) dL_law_345 rfl ?_
  refine g_iadd (pc := 346) dL_law_346 ?_
  refine g_sld (pc := 347) (j := i + 1) rfl (nI_add i 1) (by omega) (Nat.lt_of_le_of_lt hL (by decide)) dL_law_347 ?_
  refine g_aload_n (pc := 348) dL_law_348 rfl rfl ?_
  refine g_iload_n (pc := 349) dL_law_349 rfl rfl ?_
  refine g_iconst (pc := 350) (v := 2) dL_law_350 rfl ?_
  refine g_iadd (pc := 351) dL_law_351 ?_
  refine g_sld (pc := 352) (j := i + 2) rfl (nI_add i 2) (by omega) (Nat.lt_of_le_of_lt hL (by decide)) dL_law_352 ?_
  refine g_aload_n (pc := 353) dL_law_353 rfl rfl ?_
  refine g_iload_n (pc := 354) dL_law_354 rfl rfl ?_
  refine g_iconst (pc := 355) (v := 3) dL_law_355 rfl ?_
  refine g_iadd (pc := 356) dL_law_356 ?_
  refine g_sld (pc := 357) (j := i + 3) rfl (nI_add i 3) (by omega) (Nat.lt_of_le_of_lt hL (by decide)) dL_law_357 ?_
  refine g_cVz (pc := 358) (k := 0) (As := [.int (sc.2 (i + 1)), .int (sc.2 (i + 2)), .int (sc.2 (i + 3))]) (st := []) ky_X11_view kl_L_40 (s_X11_view_0 (d := 3) hP (Nat.le_refl _) h1) rfl rfl rfl (hP.lt (by decide)) (by decide) (Nat.le_of_ble_eq_true rfl) hc hs dL_law_358 ?_
  intro _
  refine g_aload_n (pc := 361) dL_law_361 rfl rfl ?_
  refine g_aload_n (pc := 362) dL_law_362 rfl rfl ?_
  refine g_iload_n (pc := 363) dL_law_363 rfl rfl ?_
  refine g_iconst (pc := 364) (v := 1) dL_law_364 rfl ?_
  refine g_iadd (pc := 365) dL_law_365 ?_
  refine g_sld (pc := 366) (j := i + 1) rfl (nI_add i 1) (by omega) (Nat.lt_of_le_of_lt hL (by decide)) dL_law_366 ?_
  refine g_aload_n (pc := 367) dL_law_367 rfl rfl ?_
  refine g_iload_n (pc := 368) dL_law_368 rfl rfl ?_
  refine g_iconst (pc := 369) (v := 2) dL_law_369 rfl ?_
  refine g_iadd (pc := 370) dL_law_370 ?_
  refine g_sld (pc := 371) (j := i + 2) rfl (nI_add i 2) (by omega) (Nat.lt_of_le_of_lt hL (by decide)) dL_law_371 ?_
  refine g_aload_n (pc := 372) dL_law_372 rfl rfl ?_
  refine g_iload_n (pc := 373) dL_law_373 rfl rfl ?_
  refine g_iconst (pc := 374) (v := 3) dL_law_374 rfl ?_
  refine g_iadd (pc := 375) dL_law_375 ?_
  refine g_sld (pc := 376) (j := i + 3) rfl (nI_add i 3) (by omega) (Nat.lt_of_le_of_lt hL (by decide)) dL_law_376 ?_
  refine g_cVz (pc := 377) (k := 55) (As := [.int (sc.2 (i + 1)), .int (sc.2 (i + 2)), .int (sc.2 (i + 3))]) (st := [.int r]) ky_X12_view kl_L_44 (s_X12_view_55 (d := 2) hP (Nat.le_refl _) h2) rfl rfl rfl (hP.lt (by decide)) (by decide) (Nat.le_of_ble_eq_true rfl) hc hs dL_law_377 ?_
  intro _
  refine g_icmp_eq (pc := 380) (tgt := 1304) dL_law_380 rfl (fun _ => next I2 h3) (fun c => absurd rfl c)
def am_op7 (RI : Bool → am_IT → Prop) : Prop := ∀ (b : Bool) (I : am_IT) (a1 a2 a3 : Int32), RI b I → ∃ (r : Int32) (I1 : am_IT) (I2 : am_IT), F_X11_tree_0 I a1 a2 a3 = some (r, I1) ∧ F_X12_tree_55 I1 a1 a2 a3 = some (r, I2) ∧ RI b I2
set_option maxRecDepth 100000 in
set_option maxHeartbeats 4000000 in
theorem law_c7 {RI : Bool → am_IT → Prop} (ho : am_op7 RI) {sc : am_ST} {l : Launch} {Q : Option Value → Nat → am_PT → am_IT → Prop} {b : Bool} {i N : Nat} {P : am_PT} {I : am_IT} {nc ns : Nat} (hi : i + 6 ≤ sc.1) (hL : sc.1 ≤ 3072) (hP : am_Pl 94 N P) (hR : RI b I) (hc : nc ≤ 600000) (hs : ns ≤ 7302250)
    (next : ∀ I2 : am_IT, RI b I2 → G sc l 2048 600000 7302250 mL_law Q 1304 [.ref 1000030, .ref 0, .ref 55, .int (nI i)] [] N P I2 nc ns) : G sc l 2048 600000 7302250 mL_law Q 385 [.ref 1000030, .ref 0, .ref 55, .int (nI i)] [] N P I nc ns := by
  obtain ⟨r, I1, I2, h1, h2, h3⟩ := ho b I (sc.2 (i + 1)) (sc.2 (i + 2)) (sc.2 (i + 3)) hR
  refine g_aload_n (pc := 385) dL_law_385 rfl rfl ?_
  refine g_aload_n (pc := 386) dL_law_386 rfl rfl ?_
  refine g_iload_n (pc := 387) dL_law_387 rfl rfl ?_
  refine g_iconst (pc := 388) (v := 1) dL_law_388 rfl ?_
  refine g_iadd (pc := 389) dL_law_389 ?_
  refine g_sld (pc := 390) (j := i + 1) rfl (nI_add i 1) (by omega) (Nat.lt_of_le_of_lt hL (by decide)) dL_law_390 ?_
  refine g_aload_n (pc := 391) dL_law_391 rfl rfl ?_
  refine g_iload_n (pc := 392) dL_law_392 rfl rfl ?_
  refine g_iconst (pc := 393) (v := 2) dL_law_393 rfl ?_
  refine g_iadd (pc := 394) dL_law_394 ?_
  refine g_sld (pc := 395) (j := i + 2) rfl (nI_add i 2) (by omega) (Nat.lt_of_le_of_lt hL (by decide)) dL_law_395 ?_
  refine g_aload_n (pc := 396) dL_law_396 rfl rfl ?_
  refine g_iload_n (pc := 397) dL_law_397 rfl rfl ?_
  refine g_iconst (pc := 398) (v := 3) dL_law_398 rfl ?_
  refine g_iadd (pc := 399) dL_law_399 ?_
  refine g_sld (pc := 400) (j := i + 3) rfl (nI_add i 3) (by omega) (Nat.lt_of_le_of_lt hL (by decide)) dL_law_400 ?_
  refine g_cVi (pc := 401) (k := 0) (As := [.int (sc.2 (i + 1)), .int (sc.2 (i + 2)), .int (sc.2 (i + 3))]) (st := []) ky_X11_tree kl_L_45 (s_X11_tree_0 (d := 3) hP (Nat.le_refl _) h1) rfl rfl rfl (hP.lt (by decide)) (by decide) (Nat.le_of_ble_eq_true rfl) hc hs dL_law_401 ?_
  refine g_aload_n (pc := 404) dL_law_404 rfl rfl ?_
  refine g_aload_n (pc := 405) dL_law_405 rfl rfl ?_
  refine g_iload_n (pc := 406) dL_law_406 rfl rfl ?_
  refine g_iconst (pc := 407) (v := 1) dL_law_407 rfl ?_
  refine g_iadd (pc := 408) dL_law_408 ?_
  refine g_sld (pc := 409) (j := i + 1) rfl (nI_add i 1) (by omega) (Nat.lt_of_le_of_lt hL (by decide)) dL_law_409 ?_
  refine g_aload_n (pc := 410) dL_law_410 rfl rfl ?_
  refine g_iload_n (pc := 411) dL_law_411 rfl rfl ?_
  refine g_iconst (pc := 412) (v := 2) dL_law_412 rfl ?_
  refine g_iadd (pc := 413) dL_law_413 ?_
  refine g_sld (pc := 414) (j := i + 2) rfl (nI_add i 2) (by omega) (Nat.lt_of_le_of_lt hL (by decide)) dL_law_414 ?_
  refine g_aload_n (pc := 415) dL_law_415 rfl rfl ?_
  refine g_iload_n (pc := 416) dL_law_416 rfl rfl ?_
  refine g_iconst (pc := 417) (v := 3) dL_law_417 rfl ?_
  refine g_iadd (pc := 418) dL_law_418 ?_
  refine g_sld (pc := 419) (j := i + 3) rfl (nI_add i 3) (by omega) (Nat.lt_of_le_of_lt hL (by decide)) dL_law_419 ?_
  refine g_cVi (pc := 420) (k := 55) (As := [.int (sc.2 (i + 1)), .int (sc.2 (i + 2)), .int (sc.2 (i + 3))]) (st := [.int r]) ky_X12_tree kl_L_49 (s_X12_tree_55 (d := 2) hP (Nat.le_refl _) h2) rfl rfl rfl (hP.lt (by decide)) (by decide) (Nat.le_of_ble_eq_true rfl) hc hs dL_law_420 ?_
  refine g_icmp_eq (pc := 423) (tgt := 1304) dL_law_423 rfl (fun _ => next I2 h3) (fun c => absurd rfl c)
def am_op8 (RI : Bool → am_IT → Prop) : Prop := ∀ (b : Bool) (I : am_IT) (a1 a2 a3 a4 : Int32), RI b I → ∃ (r : Int32) (I1 : am_IT) (I2 : am_IT), F_X11_tell_0 I a1 a2 a3 a4 = some (r, I1) ∧ F_X12_tell_55 I1 a1 a2 a3 a4 = some (r, I2) ∧ RI b I2
set_option maxRecDepth 100000 in
set_option maxHeartbeats 4000000 in
theorem law_c8 {RI : Bool → am_IT → Prop} (ho : am_op8 RI) {sc : am_ST} {l : Launch} {Q : Option Value → Nat → am_PT → am_IT → Prop} {b : Bool} {i N : Nat} {P : am_PT} {I : am_IT} {nc ns : Nat} (hi : i + 6 ≤ sc.1) (hL : sc.1 ≤ 3072) (hP : am_Pl 94 N P) (hR : RI b I) (hc : nc ≤ 600000) (hs : ns ≤ 7302250)
    (next : ∀ I2 : am_IT, RI b I2 → G sc l 2048 600000 7302250 mL_law Q 1304 [.ref 1000030, .ref 0, .ref 55, .int (nI i)] [] N P I2 nc ns) : G sc l 2048 600000 7302250 mL_law Q 428 [.ref 1000030, .ref 0, .ref 55, .int (nI i)] [] N P I nc ns := by
  obtain ⟨r, I1, I2, h1, h2, h3⟩ := ho b I (sc.2 (i + 1)) (sc.2 (i + 2)) (sc.2 (i + 3)) (sc.2 (i + 4)) hR
  refine g_aload_n (pc := 428) dL_law_428 rfl rfl ?_
  refine g_aload_n (pc := 429) dL_law_429 rfl rfl ?_
  refine g_iload_n (pc := 430) dL_law_430 rfl rfl ?_
  refine g_iconst (pc := 431) (v := 1) dL_law_431 rfl ?_
  refine g_iadd (pc := 432) dL_law_432 ?_
  refine g_sld (pc := 433) (j := i + 1) rfl (nI_add i 1) (by omega) (Nat.lt_of_le_of_lt hL (by decide)) dL_law_433 ?_
  refine g_aload_n (pc := 434) dL_law_434 rfl rfl ?_
  refine g_iload_n (pc := 435) dL_law_435 rfl rfl ?_
  refine g_iconst (pc := 436) (v := 2) dL_law_436 rfl ?_
  refine g_iadd (pc := 437) dL_law_437 ?_
  refine g_sld (pc := 438) (j := i + 2) rfl (nI_add i 2) (by omega) (Nat.lt_of_le_of_lt hL (by decide)) dL_law_438 ?_
  refine g_aload_n (pc := 439) dL_law_439 rfl rfl ?_
  refine g_iload_n (pc := 440) dL_law_440 rfl rfl ?_
  refine g_iconst (pc := 441) (v := 3) dL_law_441 rfl ?_
  refine g_iadd (pc := 442) dL_law_442 ?_
  refine g_sld (pc := 443) (j := i + 3) rfl (nI_add i 3) (by omega) (Nat.lt_of_le_of_lt hL (by decide)) dL_law_443 ?_
  refine g_aload_n (pc := 444) dL_law_444 rfl rfl ?_
  refine g_iload_n (pc := 445) dL_law_445 rfl rfl ?_
  refine g_iconst (pc := 446) (v := 4) dL_law_446 rfl ?_
  refine g_iadd (pc := 447) dL_law_447 ?_
  refine g_sld (pc := 448) (j := i + 4) rfl (nI_add i 4) (by omega) (Nat.lt_of_le_of_lt hL (by decide)) dL_law_448 ?_
  refine g_cVz (pc := 449) (k := 0) (As := [.int (sc.2 (i + 1)), .int (sc.2 (i + 2)), .int (sc.2 (i + 3)), .int (sc.2 (i + 4))]) (st := []) ky_X11_tell kl_L_50 (s_X11_tell_0 (d := 2) hP (Nat.le_refl _) h1) rfl rfl rfl (hP.lt (by decide)) (by decide) (Nat.le_of_ble_eq_true rfl) hc hs dL_law_449 ?_
  intro _
  refine g_aload_n (pc := 452) dL_law_452 rfl rfl ?_
  refine g_aload_n (pc := 453) dL_law_453 rfl rfl ?_
  refine g_iload_n (pc := 454) dL_law_454 rfl rfl ?_
  refine g_iconst (pc := 455) (v := 1) dL_law_455 rfl ?_
  refine g_iadd (pc := 456) dL_law_456 ?_
  refine g_sld (pc := 457) (j := i + 1) rfl (nI_add i 1) (by omega) (Nat.lt_of_le_of_lt hL (by decide)) dL_law_457 ?_
  refine g_aload_n (pc := 458) dL_law_458 rfl rfl ?_
  refine g_iload_n (pc := 459) dL_law_459 rfl rfl ?_
  refine g_iconst (pc := 460) (v := 2) dL_law_460 rfl ?_
  refine g_iadd (pc := 461) dL_law_461 ?_
  refine g_sld (pc := 462) (j := i + 2) rfl (nI_add i 2) (by omega) (Nat.lt_of_le_of_lt hL (by decide)) dL_law_462 ?_
  refine g_aload_n (pc := 463) dL_law_463 rfl rfl ?_
  refine g_iload_n (pc := 464) dL_law_464 rfl rfl ?_
  refine g_iconst (pc := 465) (v := 3) dL_law_465 rfl ?_
  refine g_iadd (pc := 466) dL_law_466 ?_
  refine g_sld (pc := 467) (j := i + 3) rfl (nI_add i 3) (by omega) (Nat.lt_of_le_of_lt hL (by decide)) dL_law_467 ?_
  refine g_aload_n (pc := 468) dL_law_468 rfl rfl ?_
  refine g_iload_n (pc := 469) dL_law_469 rfl rfl ?_
  refine g_iconst (pc := 470) (v := 4) dL_law_470 rfl ?_
  refine g_iadd (pc := 471) dL_law_471 ?_
  refine g_sld (pc := 472) (j := i + 4) rfl (nI_add i 4) (by omega) (Nat.lt_of_le_of_lt hL (by decide)) dL_law_472 ?_
  refine g_cVz (pc := 473) (k := 55) (As := [.int (sc.2 (i + 1)), .int (sc.2 (i + 2)), .int (sc.2 (i + 3)), .int (sc.2 (i + 4))]) (st := [.int r]) ky_X12_tell kl_L_54 (s_X12_tell_55 (d := 2) hP (Nat.le_refl _) h2) rfl rfl rfl (hP.lt (by decide)) (by decide) (Nat.le_of_ble_eq_true rfl) hc hs dL_law_473 ?_
  intro _
  refine g_icmp_eq (pc := 476) (tgt := 1304) dL_law_476 rfl (fun _ => next I2 h3) (fun c => absurd rfl c)
def am_op9 (RI : Bool → am_IT → Prop) : Prop := ∀ (b : Bool) (I : am_IT) (a1 a2 a3 : Int32), (a3 = 0 ∨ a3 = 1) → RI b I → ∃ (r : Int32) (I1 : am_IT) (I2 : am_IT), F_X11_beside_0 I a1 a2 a3 = some (r, I1) ∧ F_X12_beside_55 I1 a1 a2 a3 = some (r, I2) ∧ RI b I2
set_option maxRecDepth 100000 in
set_option maxHeartbeats 4000000 in
theorem law_c9 {RI : Bool → am_IT → Prop} (ho : am_op9 RI) {sc : am_ST} {l : Launch} {Q : Option Value → Nat → am_PT → am_IT → Prop} {b : Bool} {i N : Nat} {P : am_PT} {I : am_IT} {nc ns : Nat} (hi : i + 6 ≤ sc.1) (hL : sc.1 ≤ 3072) (hP : am_Pl 94 N P) (hR : RI b I) (hc : nc ≤ 600000) (hs : ns ≤ 7302250)
    (next : ∀ I2 : am_IT, RI b I2 → G sc l 2048 600000 7302250 mL_law Q 1304 [.ref 1000030, .ref 0, .ref 55, .int (nI i)] [] N P I2 nc ns) : G sc l 2048 600000 7302250 mL_law Q 481 [.ref 1000030, .ref 0, .ref 55, .int (nI i)] [] N P I nc ns := by
  obtain ⟨r, I1, I2, h1, h2, h3⟩ := ho b I (sc.2 (i + 1)) (sc.2 (i + 2)) (am_bz (sc.2 (i + 3))) (am_bz01 _) hR
  refine g_aload_n (pc := 481) dL_law_481 rfl rfl ?_
  refine g_aload_n (pc := 482) dL_law_482 rfl rfl ?_
  refine g_iload_n (pc := 483) dL_law_483 rfl rfl ?_
  refine g_iconst (pc := 484) (v := 1) dL_law_484 rfl ?_
  refine g_iadd (pc := 485) dL_law_485 ?_
  refine g_sld (pc := 486) (j := i + 1) rfl (nI_add i 1) (by omega) (Nat.lt_of_le_of_lt hL (by decide)) dL_law_486 ?_
  refine g_aload_n (pc := 487) dL_law_487 rfl rfl ?_
  refine g_iload_n (pc := 488) dL_law_488 rfl rfl ?_
  refine g_iconst (pc := 489) (v := 2) dL_law_489 rfl ?_
  refine g_iadd (pc := 490) dL_law_490 ?_
  refine g_sld (pc := 491) (j := i + 2) rfl (nI_add i 2) (by omega) (Nat.lt_of_le_of_lt hL (by decide)) dL_law_491 ?_
  refine g_aload_n (pc := 492) dL_law_492 rfl rfl ?_
  refine g_iload_n (pc := 493) dL_law_493 rfl rfl ?_
  refine g_iconst (pc := 494) (v := 3) dL_law_494 rfl ?_
  refine g_iadd (pc := 495) dL_law_495 ?_
  refine g_sld (pc := 496) (j := i + 3) rfl (nI_add i 3) (by omega) (Nat.lt_of_le_of_lt hL (by decide)) dL_law_496 ?_
  refine g_bz (pc := 497) (x := sc.2 (i + 3)) dL_law_497 rfl dL_law_500 dL_law_501 rfl dL_law_504 ?_
  refine g_cVz (pc := 505) (k := 0) (As := [.int (sc.2 (i + 1)), .int (sc.2 (i + 2)), .int (am_bz (sc.2 (i + 3)))]) (st := []) ky_X11_beside kl_L_55 (s_X11_beside_0 (d := 2) hP (Nat.le_refl _) h1) rfl rfl rfl (hP.lt (by decide)) (by decide) (Nat.le_of_ble_eq_true rfl) hc hs dL_law_505 ?_
  intro _
  refine g_aload_n (pc := 508) dL_law_508 rfl rfl ?_
  refine g_aload_n (pc := 509) dL_law_509 rfl rfl ?_
  refine g_iload_n (pc := 510) dL_law_510 rfl rfl ?_
  refine g_iconst (pc := 511) (v := 1) dL_law_511 rfl ?_
  refine g_iadd (pc := 512) dL_law_512 ?_
  refine g_sld (pc := 513) (j := i + 1) rfl (nI_add i 1) (by omega) (Nat.lt_of_le_of_lt hL (by decide)) dL_law_513 ?_
  refine g_aload_n (pc := 514) dL_law_514 rfl rfl ?_
  refine g_iload_n (pc := 515) dL_law_515 rfl rfl ?_
  refine g_iconst (pc := 516) (v := 2) dL_law_516 rfl ?_
  refine g_iadd (pc := 517) dL_law_517 ?_
  refine g_sld (pc := 518) (j := i + 2) rfl (nI_add i 2) (by omega) (Nat.lt_of_le_of_lt hL (by decide)) dL_law_518 ?_
  refine g_aload_n (pc := 519) dL_law_519 rfl rfl ?_
  refine g_iload_n (pc := 520) dL_law_520 rfl rfl ?_
  refine g_iconst (pc := 521) (v := 3) dL_law_521 rfl ?_
  refine g_iadd (pc := 522) dL_law_522 ?_
  refine g_sld (pc := 523) (j := i + 3) rfl (nI_add i 3) (by omega) (Nat.lt_of_le_of_lt hL (by decide)) dL_law_523 ?_
  refine g_bz (pc := 524) (x := sc.2 (i + 3)) dL_law_524 rfl dL_law_527 dL_law_528 rfl dL_law_531 ?_
  refine g_cVz (pc := 532) (k := 55) (As := [.int (sc.2 (i + 1)), .int (sc.2 (i + 2)), .int (am_bz (sc.2 (i + 3)))]) (st := [.int r]) ky_X12_beside kl_L_59 (s_X12_beside_55 (d := 2) hP (Nat.le_refl _) h2) rfl rfl rfl (hP.lt (by decide)) (by decide) (Nat.le_of_ble_eq_true rfl) hc hs dL_law_532 ?_
  intro _
  refine g_icmp_eq (pc := 535) (tgt := 1304) dL_law_535 rfl (fun _ => next I2 h3) (fun c => absurd rfl c)
def am_op10 (RI : Bool → am_IT → Prop) : Prop := ∀ (b : Bool) (I : am_IT) (a1 a2 : Int32), RI b I → ∃ (r : Int32) (I1 : am_IT) (I2 : am_IT), F_X11_paint_0 I a1 a2 = some (r, I1) ∧ F_X12_paint_55 I1 a1 a2 = some (r, I2) ∧ RI b I2
set_option maxRecDepth 100000 in
set_option maxHeartbeats 4000000 in
theorem law_c10 {RI : Bool → am_IT → Prop} (ho : am_op10 RI) {sc : am_ST} {l : Launch} {Q : Option Value → Nat → am_PT → am_IT → Prop} {b : Bool} {i N : Nat} {P : am_PT} {I : am_IT} {nc ns : Nat} (hi : i + 6 ≤ sc.1) (hL : sc.1 ≤ 3072) (hP : am_Pl 94 N P) (hR : RI b I) (hc : nc ≤ 600000) (hs : ns ≤ 7302250)
    (next : ∀ I2 : am_IT, RI b I2 → G sc l 2048 600000 7302250 mL_law Q 1304 [.ref 1000030, .ref 0, .ref 55, .int (nI i)] [] N P I2 nc ns) : G sc l 2048 600000 7302250 mL_law Q 540 [.ref 1000030, .ref 0, .ref 55, .int (nI i)] [] N P I nc ns := by
  obtain ⟨r, I1, I2, h1, h2, h3⟩ := ho b I (sc.2 (i + 1)) (sc.2 (i + 2)) hR
  refine g_aload_n (pc := 540) dL_law_540 rfl rfl ?_
  refine g_aload_n (pc := 541) dL_law_541 rfl rfl ?_
  refine g_iload_n (pc := 542) dL_law_542 rfl rfl ?_
  refine g_iconst (pc := 543) (v := 1) dL_law_543 rfl ?_
  refine g_iadd (pc := 544) dL_law_544 ?_
  refine g_sld (pc := 545) (j := i + 1) rfl (nI_add i 1) (by omega) (Nat.lt_of_le_of_lt hL (by decide)) dL_law_545 ?_
  refine g_aload_n (pc := 546) dL_law_546 rfl rfl ?_
  refine g_iload_n (pc := 547) dL_law_547 rfl rfl ?_
  refine g_iconst (pc := 548) (v := 2) dL_law_548 rfl ?_
  refine g_iadd (pc := 549) dL_law_549 ?_
  refine g_sld (pc := 550) (j := i + 2) rfl (nI_add i 2) (by omega) (Nat.lt_of_le_of_lt hL (by decide)) dL_law_550 ?_
  refine g_cVz (pc := 551) (k := 0) (As := [.int (sc.2 (i + 1)), .int (sc.2 (i + 2))]) (st := []) ky_X11_paint kl_L_60 (s_X11_paint_0 (d := 2) hP (Nat.le_refl _) h1) rfl rfl rfl (hP.lt (by decide)) (by decide) (Nat.le_of_ble_eq_true rfl) hc hs dL_law_551 ?_
  intro _
  refine g_aload_n (pc := 554) dL_law_554 rfl rfl ?_
  refine g_aload_n (pc := 555) dL_law_555 rfl rfl ?_
  refine g_iload_n (pc := 556) dL_law_556 rfl rfl ?_
  refine g_iconst (pc := 557) (v := 1) dL_law_557 rfl ?_
  refine g_iadd (pc := 558) dL_law_558 ?_
  refine g_sld (pc := 559) (j := i + 1) rfl (nI_add i 1) (by omega) (Nat.lt_of_le_of_lt hL (by decide)) dL_law_559 ?_
  refine g_aload_n (pc := 560) dL_law_560 rfl rfl ?_
  refine g_iload_n (pc := 561) dL_law_561 rfl rfl ?_
  refine g_iconst (pc := 562) (v := 2) dL_law_562 rfl ?_
  refine g_iadd (pc := 563) dL_law_563 ?_
  refine g_sld (pc := 564) (j := i + 2) rfl (nI_add i 2) (by omega) (Nat.lt_of_le_of_lt hL (by decide)) dL_law_564 ?_
  refine g_cVz (pc := 565) (k := 55) (As := [.int (sc.2 (i + 1)), .int (sc.2 (i + 2))]) (st := [.int r]) ky_X12_paint kl_L_63 (s_X12_paint_55 (d := 2) hP (Nat.le_refl _) h2) rfl rfl rfl (hP.lt (by decide)) (by decide) (Nat.le_of_ble_eq_true rfl) hc hs dL_law_565 ?_
  intro _
  refine g_icmp_eq (pc := 568) (tgt := 1304) dL_law_568 rfl (fun _ => next I2 h3) (fun c => absurd rfl c)
def am_op11 (RI : Bool → am_IT → Prop) : Prop := ∀ (b : Bool) (I : am_IT) (a1 a2 a3 a4 a5 : Int32), RI b I → ∃ (r : Int32) (I1 : am_IT) (I2 : am_IT), F_X11_feed_0 I a1 a2 a3 a4 a5 = some (r, I1) ∧ F_X12_feed_55 I1 a1 a2 a3 a4 a5 = some (r, I2) ∧ RI b I2
set_option maxRecDepth 100000 in
set_option maxHeartbeats 4000000 in
theorem law_c11 {RI : Bool → am_IT → Prop} (ho : am_op11 RI) {sc : am_ST} {l : Launch} {Q : Option Value → Nat → am_PT → am_IT → Prop} {b : Bool} {i N : Nat} {P : am_PT} {I : am_IT} {nc ns : Nat} (hi : i + 6 ≤ sc.1) (hL : sc.1 ≤ 3072) (hP : am_Pl 94 N P) (hR : RI b I) (hc : nc ≤ 600000) (hs : ns ≤ 7302250)
    (next : ∀ I2 : am_IT, RI b I2 → G sc l 2048 600000 7302250 mL_law Q 1304 [.ref 1000030, .ref 0, .ref 55, .int (nI i)] [] N P I2 nc ns) : G sc l 2048 600000 7302250 mL_law Q 573 [.ref 1000030, .ref 0, .ref 55, .int (nI i)] [] N P I nc ns := by
  obtain ⟨r, I1, I2, h1, h2, h3⟩ := ho b I (sc.2 (i + 1)) (sc.2 (i + 2)) (sc.2 (i + 3)) (sc.2 (i + 4)) (sc.2 (i + 5)) hR
  refine g_aload_n (pc := 573) dL_law_573 rfl rfl ?_
  refine g_aload_n (pc := 574) dL_law_574 rfl rfl ?_
  refine g_iload_n (pc := 575) dL_law_575 rfl rfl ?_
  refine g_iconst (pc := 576) (v := 1) dL_law_576 rfl ?_
  refine g_iadd (pc := 577) dL_law_577 ?_
  refine g_sld (pc := 578) (j := i + 1) rfl (nI_add i 1) (by omega) (Nat.lt_of_le_of_lt hL (by decide)) dL_law_578 ?_
  refine g_aload_n (pc := 579) dL_law_579 rfl rfl ?_
  refine g_iload_n (pc := 580) dL_law_580 rfl rfl ?_
  refine g_iconst (pc := 581) (v := 2) dL_law_581 rfl ?_
  refine g_iadd (pc := 582) dL_law_582 ?_
  refine g_sld (pc := 583) (j := i + 2) rfl (nI_add i 2) (by omega) (Nat.lt_of_le_of_lt hL (by decide)) dL_law_583 ?_
  refine g_aload_n (pc := 584) dL_law_584 rfl rfl ?_
  refine g_iload_n (pc := 585) dL_law_585 rfl rfl ?_
  refine g_iconst (pc := 586) (v := 3) dL_law_586 rfl ?_
  refine g_iadd (pc := 587) dL_law_587 ?_
  refine g_sld (pc := 588) (j := i + 3) rfl (nI_add i 3) (by omega) (Nat.lt_of_le_of_lt hL (by decide)) dL_law_588 ?_
  refine g_aload_n (pc := 589) dL_law_589 rfl rfl ?_
  refine g_iload_n (pc := 590) dL_law_590 rfl rfl ?_
  refine g_iconst (pc := 591) (v := 4) dL_law_591 rfl ?_
  refine g_iadd (pc := 592) dL_law_592 ?_
  refine g_sld (pc := 593) (j := i + 4) rfl (nI_add i 4) (by omega) (Nat.lt_of_le_of_lt hL (by decide)) dL_law_593 ?_
  refine g_aload_n (pc := 594) dL_law_594 rfl rfl ?_
  refine g_iload_n (pc := 595) dL_law_595 rfl rfl ?_
  refine g_iconst (pc := 596) (v := 5) dL_law_596 rfl ?_
  refine g_iadd (pc := 597) dL_law_597 ?_
  refine g_sld (pc := 598) (j := i + 5) rfl (nI_add i 5) (by omega) (Nat.lt_of_le_of_lt hL (by decide)) dL_law_598 ?_
  refine g_cVi (pc := 599) (k := 0) (As := [.int (sc.2 (i + 1)), .int (sc.2 (i + 2)), .int (sc.2 (i + 3)), .int (sc.2 (i + 4)), .int (sc.2 (i + 5))]) (st := []) ky_X11_feed kl_L_64 (s_X11_feed_0 (d := 2) hP (Nat.le_refl _) h1) rfl rfl rfl (hP.lt (by decide)) (by decide) (Nat.le_of_ble_eq_true rfl) hc hs dL_law_599 ?_
  refine g_aload_n (pc := 602) dL_law_602 rfl rfl ?_
  refine g_aload_n (pc := 603) dL_law_603 rfl rfl ?_
  refine g_iload_n (pc := 604) dL_law_604 rfl rfl ?_
  refine g_iconst (pc := 605) (v := 1) dL_law_605 rfl ?_
  refine g_iadd (pc := 606) dL_law_606 ?_
  refine g_sld (pc := 607) (j := i + 1) rfl (nI_add i 1) (by omega) (Nat.lt_of_le_of_lt hL (by decide)) dL_law_607 ?_
  refine g_aload_n (pc := 608) dL_law_608 rfl rfl ?_
  refine g_iload_n (pc := 609) dL_law_609 rfl rfl ?_
  refine g_iconst (pc := 610) (v := 2) dL_law_610 rfl ?_
  refine g_iadd (pc := 611) dL_law_611 ?_
  refine g_sld (pc := 612) (j := i + 2) rfl (nI_add i 2) (by omega) (Nat.lt_of_le_of_lt hL (by decide)) dL_law_612 ?_
  refine g_aload_n (pc := 613) dL_law_613 rfl rfl ?_
  refine g_iload_n (pc := 614) dL_law_614 rfl rfl ?_
  refine g_iconst (pc := 615) (v := 3) dL_law_615 rfl ?_
  refine g_iadd (pc := 616) dL_law_616 ?_
  refine g_sld (pc := 617) (j := i + 3) rfl (nI_add i 3) (by omega) (Nat.lt_of_le_of_lt hL (by decide)) dL_law_617 ?_
  refine g_aload_n (pc := 618) dL_law_618 rfl rfl ?_
  refine g_iload_n (pc := 619) dL_law_619 rfl rfl ?_
  refine g_iconst (pc := 620) (v := 4) dL_law_620 rfl ?_
  refine g_iadd (pc := 621) dL_law_621 ?_
  refine g_sld (pc := 622) (j := i + 4) rfl (nI_add i 4) (by omega) (Nat.lt_of_le_of_lt hL (by decide)) dL_law_622 ?_
  refine g_aload_n (pc := 623) dL_law_623 rfl rfl ?_
  refine g_iload_n (pc := 624) dL_law_624 rfl rfl ?_
  refine g_iconst (pc := 625) (v := 5) dL_law_625 rfl ?_
  refine g_iadd (pc := 626) dL_law_626 ?_
  refine g_sld (pc := 627) (j := i + 5) rfl (nI_add i 5) (by omega) (Nat.lt_of_le_of_lt hL (by decide)) dL_law_627 ?_
  refine g_cVi (pc := 628) (k := 55) (As := [.int (sc.2 (i + 1)), .int (sc.2 (i + 2)), .int (sc.2 (i + 3)), .int (sc.2 (i + 4)), .int (sc.2 (i + 5))]) (st := [.int r]) ky_X12_feed kl_L_68 (s_X12_feed_55 (d := 2) hP (Nat.le_refl _) h2) rfl rfl rfl (hP.lt (by decide)) (by decide) (Nat.le_of_ble_eq_true rfl) hc hs dL_law_628 ?_
  refine g_icmp_eq (pc := 631) (tgt := 1304) dL_law_631 rfl (fun _ => next I2 h3) (fun c => absurd rfl c)
def am_op12 (RI : Bool → am_IT → Prop) : Prop := ∀ (b : Bool) (I : am_IT) (a1 : Int32), RI b I → ∃ (r : Int32) (I1 : am_IT) (I2 : am_IT), F_X11_end_0 I a1 = some (r, I1) ∧ F_X12_end_55 I1 a1 = some (r, I2) ∧ RI b I2
set_option maxRecDepth 100000 in
set_option maxHeartbeats 4000000 in
theorem law_c12 {RI : Bool → am_IT → Prop} (ho : am_op12 RI) {sc : am_ST} {l : Launch} {Q : Option Value → Nat → am_PT → am_IT → Prop} {b : Bool} {i N : Nat} {P : am_PT} {I : am_IT} {nc ns : Nat} (hi : i + 6 ≤ sc.1) (hL : sc.1 ≤ 3072) (hP : am_Pl 94 N P) (hR : RI b I) (hc : nc ≤ 600000) (hs : ns ≤ 7302250)
    (next : ∀ I2 : am_IT, RI b I2 → G sc l 2048 600000 7302250 mL_law Q 1304 [.ref 1000030, .ref 0, .ref 55, .int (nI i)] [] N P I2 nc ns) : G sc l 2048 600000 7302250 mL_law Q 636 [.ref 1000030, .ref 0, .ref 55, .int (nI i)] [] N P I nc ns := by
  obtain ⟨r, I1, I2, h1, h2, h3⟩ := ho b I (sc.2 (i + 1)) hR
  refine g_aload_n (pc := 636) dL_law_636 rfl rfl ?_
  refine g_aload_n (pc := 637) dL_law_637 rfl rfl ?_
  refine g_iload_n (pc := 638) dL_law_638 rfl rfl ?_
  refine g_iconst (pc := 639) (v := 1) dL_law_639 rfl ?_
  refine g_iadd (pc := 640) dL_law_640 ?_
  refine g_sld (pc := 641) (j := i + 1) rfl (nI_add i 1) (by omega) (Nat.lt_of_le_of_lt hL (by decide)) dL_law_641 ?_
  refine g_cVz (pc := 642) (k := 0) (As := [.int (sc.2 (i + 1))]) (st := []) ky_X11_end kl_L_69 (s_X11_end_0 (d := 2) hP (Nat.le_refl _) h1) rfl rfl rfl (hP.lt (by decide)) (by decide) (Nat.le_of_ble_eq_true rfl) hc hs dL_law_642 ?_
  intro _
  refine g_aload_n (pc := 645) dL_law_645 rfl rfl ?_
  refine g_aload_n (pc := 646) dL_law_646 rfl rfl ?_
  refine g_iload_n (pc := 647) dL_law_647 rfl rfl ?_
  refine g_iconst (pc := 648) (v := 1) dL_law_648 rfl ?_
  refine g_iadd (pc := 649) dL_law_649 ?_
  refine g_sld (pc := 650) (j := i + 1) rfl (nI_add i 1) (by omega) (Nat.lt_of_le_of_lt hL (by decide)) dL_law_650 ?_
  refine g_cVz (pc := 651) (k := 55) (As := [.int (sc.2 (i + 1))]) (st := [.int r]) ky_X12_end kl_L_72 (s_X12_end_55 (d := 2) hP (Nat.le_refl _) h2) rfl rfl rfl (hP.lt (by decide)) (by decide) (Nat.le_of_ble_eq_true rfl) hc hs dL_law_651 ?_
  intro _
  refine g_icmp_eq (pc := 654) (tgt := 1304) dL_law_654 rfl (fun _ => next I2 h3) (fun c => absurd rfl c)
def am_op13 (RI : Bool → am_IT → Prop) : Prop := ∀ (b : Bool) (I : am_IT) (_ : Unit), RI b I → ∃ (r : Int32) (I1 : am_IT) (I2 : am_IT), F_X11_text_0 I = some (r, I1) ∧ F_X12_text_55 I1 = some (r, I2) ∧ RI b I2
set_option maxRecDepth 100000 in
set_option maxHeartbeats 4000000 in
theorem law_c13 {RI : Bool → am_IT → Prop} (ho : am_op13 RI) {sc : am_ST} {l : Launch} {Q : Option Value → Nat → am_PT → am_IT → Prop} {b : Bool} {i N : Nat} {P : am_PT} {I : am_IT} {nc ns : Nat} (hi : i + 6 ≤ sc.1) (hL : sc.1 ≤ 3072) (hP : am_Pl 94 N P) (hR : RI b I) (hc : nc ≤ 600000) (hs : ns ≤ 7302250)
    (next : ∀ I2 : am_IT, RI b I2 → G sc l 2048 600000 7302250 mL_law Q 1304 [.ref 1000030, .ref 0, .ref 55, .int (nI i)] [] N P I2 nc ns) : G sc l 2048 600000 7302250 mL_law Q 659 [.ref 1000030, .ref 0, .ref 55, .int (nI i)] [] N P I nc ns := by
  obtain ⟨r, I1, I2, h1, h2, h3⟩ := ho b I () hR
  refine g_aload_n (pc := 659) dL_law_659 rfl rfl ?_
  refine g_cVi (pc := 660) (k := 0) (As := []) (st := []) ky_X11_text kl_L_73 (s_X11_text_0 (d := 72) hP (Nat.le_refl _) h1) rfl rfl rfl (hP.lt (by decide)) (by decide) (Nat.le_of_ble_eq_true rfl) hc hs dL_law_660 ?_
  refine g_aload_n (pc := 663) dL_law_663 rfl rfl ?_
  refine g_cVi (pc := 664) (k := 55) (As := []) (st := [.int r]) ky_X12_text kl_L_77 (s_X12_text_55 (d := 10) hP (Nat.le_refl _) h2) rfl rfl rfl (hP.lt (by decide)) (by decide) (Nat.le_of_ble_eq_true rfl) hc hs dL_law_664 ?_
  refine g_icmp_eq (pc := 667) (tgt := 1304) dL_law_667 rfl (fun _ => next I2 h3) (fun c => absurd rfl c)
def am_op14 (RI : Bool → am_IT → Prop) : Prop := ∀ (b : Bool) (I : am_IT) (a1 : Int32), RI b I → ∃ (r : Int32) (I2 : am_IT), F_X11_fault_0 I a1 = some r ∧ F_X12_fault_55 I a1 = some (r, I2) ∧ RI b I2
set_option maxRecDepth 100000 in
set_option maxHeartbeats 4000000 in
theorem law_c14 {RI : Bool → am_IT → Prop} (ho : am_op14 RI) {sc : am_ST} {l : Launch} {Q : Option Value → Nat → am_PT → am_IT → Prop} {b : Bool} {i N : Nat} {P : am_PT} {I : am_IT} {nc ns : Nat} (hi : i + 6 ≤ sc.1) (hL : sc.1 ≤ 3072) (hP : am_Pl 94 N P) (hR : RI b I) (hc : nc ≤ 600000) (hs : ns ≤ 7302250)
    (next : ∀ I2 : am_IT, RI b I2 → G sc l 2048 600000 7302250 mL_law Q 1304 [.ref 1000030, .ref 0, .ref 55, .int (nI i)] [] N P I2 nc ns) : G sc l 2048 600000 7302250 mL_law Q 672 [.ref 1000030, .ref 0, .ref 55, .int (nI i)] [] N P I nc ns := by
  obtain ⟨r, I2, h1, h2, h3⟩ := ho b I (sc.2 (i + 1)) hR
  refine g_aload_n (pc := 672) dL_law_672 rfl rfl ?_
  refine g_aload_n (pc := 673) dL_law_673 rfl rfl ?_
  refine g_iload_n (pc := 674) dL_law_674 rfl rfl ?_
  refine g_iconst (pc := 675) (v := 1) dL_law_675 rfl ?_
  refine g_iadd (pc := 676) dL_law_676 ?_
  refine g_sld (pc := 677) (j := i + 1) rfl (nI_add i 1) (by omega) (Nat.lt_of_le_of_lt hL (by decide)) dL_law_677 ?_
  refine g_cVi (pc := 678) (k := 0) (As := [.int (sc.2 (i + 1))]) (st := []) ky_X11_fault kl_L_78 (s_X11_fault_0 (d := 1) hP (Nat.le_refl _) h1) rfl rfl rfl (hP.lt (by decide)) (by decide) (Nat.le_of_ble_eq_true rfl) hc hs dL_law_678 ?_
  refine g_aload_n (pc := 681) dL_law_681 rfl rfl ?_
  refine g_aload_n (pc := 682) dL_law_682 rfl rfl ?_
  refine g_iload_n (pc := 683) dL_law_683 rfl rfl ?_
  refine g_iconst (pc := 684) (v := 1) dL_law_684 rfl ?_
  refine g_iadd (pc := 685) dL_law_685 ?_
  refine g_sld (pc := 686) (j := i + 1) rfl (nI_add i 1) (by omega) (Nat.lt_of_le_of_lt hL (by decide)) dL_law_686 ?_
  refine g_cVi (pc := 687) (k := 55) (As := [.int (sc.2 (i + 1))]) (st := [.int r]) ky_X12_fault kl_L_81 (s_X12_fault_55 (d := 1) hP (Nat.le_refl _) h2) rfl rfl rfl (hP.lt (by decide)) (by decide) (Nat.le_of_ble_eq_true rfl) hc hs dL_law_687 ?_
  refine g_icmp_eq (pc := 690) (tgt := 1304) dL_law_690 rfl (fun _ => next I2 h3) (fun c => absurd rfl c)
def am_op15 (RI : Bool → am_IT → Prop) : Prop := ∀ (b : Bool) (I : am_IT) (a1 a2 : Int32), RI b I → ∃ (r : Int32) (I1 : am_IT) (I2 : am_IT), F_X11_sees_0 I a1 a2 = some (r, I1) ∧ F_X12_sees_55 I1 a1 a2 = some (r, I2) ∧ RI b I2
set_option maxRecDepth 100000 in
set_option maxHeartbeats 4000000 in
theorem law_c15 {RI : Bool → am_IT → Prop} (ho : am_op15 RI) {sc : am_ST} {l : Launch} {Q : Option Value → Nat → am_PT → am_IT → Prop} {b : Bool} {i N : Nat} {P : am_PT} {I : am_IT} {nc ns : Nat} (hi : i + 6 ≤ sc.1) (hL : sc.1 ≤ 3072) (hP : am_Pl 94 N P) (hR : RI b I) (hc : nc ≤ 600000) (hs : ns ≤ 7302250)
    (next : ∀ I2 : am_IT, RI b I2 → G sc l 2048 600000 7302250 mL_law Q 1304 [.ref 1000030, .ref 0, .ref 55, .int (nI i)] [] N P I2 nc ns) : G sc l 2048 600000 7302250 mL_law Q 695 [.ref 1000030, .ref 0, .ref 55, .int (nI i)] [] N P I nc ns := by
  obtain ⟨r, I1, I2, h1, h2, h3⟩ := ho b I (sc.2 (i + 1)) (sc.2 (i + 2)) hR
  refine g_aload_n (pc := 695) dL_law_695 rfl rfl ?_
  refine g_aload_n (pc := 696) dL_law_696 rfl rfl ?_
  refine g_iload_n (pc := 697) dL_law_697 rfl rfl ?_
  refine g_iconst (pc := 698) (v := 1) dL_law_698 rfl ?_
  refine g_iadd (pc := 699) dL_law_699 ?_
  refine g_sld (pc := 700) (j := i + 1) rfl (nI_add i 1) (by omega) (Nat.lt_of_le_of_lt hL (by decide)) dL_law_700 ?_
  refine g_aload_n (pc := 701) dL_law_701 rfl rfl ?_
  refine g_iload_n (pc := 702) dL_law_702 rfl rfl ?_
  refine g_iconst (pc := 703) (v := 2) dL_law_703 rfl ?_
  refine g_iadd (pc := 704) dL_law_704 ?_
  refine g_sld (pc := 705) (j := i + 2) rfl (nI_add i 2) (by omega) (Nat.lt_of_le_of_lt hL (by decide)) dL_law_705 ?_
  refine g_cVi (pc := 706) (k := 0) (As := [.int (sc.2 (i + 1)), .int (sc.2 (i + 2))]) (st := []) ky_X11_sees kl_L_82 (s_X11_sees_0 (d := 3) hP (Nat.le_refl _) h1) rfl rfl rfl (hP.lt (by decide)) (by decide) (Nat.le_of_ble_eq_true rfl) hc hs dL_law_706 ?_
  refine g_aload_n (pc := 709) dL_law_709 rfl rfl ?_
  refine g_aload_n (pc := 710) dL_law_710 rfl rfl ?_
  refine g_iload_n (pc := 711) dL_law_711 rfl rfl ?_
  refine g_iconst (pc := 712) (v := 1) dL_law_712 rfl ?_
  refine g_iadd (pc := 713) dL_law_713 ?_
  refine g_sld (pc := 714) (j := i + 1) rfl (nI_add i 1) (by omega) (Nat.lt_of_le_of_lt hL (by decide)) dL_law_714 ?_
  refine g_aload_n (pc := 715) dL_law_715 rfl rfl ?_
  refine g_iload_n (pc := 716) dL_law_716 rfl rfl ?_
  refine g_iconst (pc := 717) (v := 2) dL_law_717 rfl ?_
  refine g_iadd (pc := 718) dL_law_718 ?_
  refine g_sld (pc := 719) (j := i + 2) rfl (nI_add i 2) (by omega) (Nat.lt_of_le_of_lt hL (by decide)) dL_law_719 ?_
  refine g_cVi (pc := 720) (k := 55) (As := [.int (sc.2 (i + 1)), .int (sc.2 (i + 2))]) (st := [.int r]) ky_X12_sees kl_L_86 (s_X12_sees_55 (d := 2) hP (Nat.le_refl _) h2) rfl rfl rfl (hP.lt (by decide)) (by decide) (Nat.le_of_ble_eq_true rfl) hc hs dL_law_720 ?_
  refine g_icmp_eq (pc := 723) (tgt := 1304) dL_law_723 rfl (fun _ => next I2 h3) (fun c => absurd rfl c)
def am_op16 (RI : Bool → am_IT → Prop) : Prop := ∀ (b : Bool) (I : am_IT) (a1 : Int32), RI b I → ∃ (r : Int32) (I1 : am_IT) (I2 : am_IT), F_X11_worth_0 I a1 = some (r, I1) ∧ F_X12_worth_55 I1 a1 = some (r, I2) ∧ RI b I2
set_option maxRecDepth 100000 in
set_option maxHeartbeats 4000000 in
theorem law_c16 {RI : Bool → am_IT → Prop} (ho : am_op16 RI) {sc : am_ST} {l : Launch} {Q : Option Value → Nat → am_PT → am_IT → Prop} {b : Bool} {i N : Nat} {P : am_PT} {I : am_IT} {nc ns : Nat} (hi : i + 6 ≤ sc.1) (hL : sc.1 ≤ 3072) (hP : am_Pl 94 N P) (hR : RI b I) (hc : nc ≤ 600000) (hs : ns ≤ 7302250)
    (next : ∀ I2 : am_IT, RI b I2 → G sc l 2048 600000 7302250 mL_law Q 1304 [.ref 1000030, .ref 0, .ref 55, .int (nI i)] [] N P I2 nc ns) : G sc l 2048 600000 7302250 mL_law Q 728 [.ref 1000030, .ref 0, .ref 55, .int (nI i)] [] N P I nc ns := by
  obtain ⟨r, I1, I2, h1, h2, h3⟩ := ho b I (sc.2 (i + 1)) hR
  refine g_aload_n (pc := 728) dL_law_728 rfl rfl ?_
  refine g_aload_n (pc := 729) dL_law_729 rfl rfl ?_
  refine g_iload_n (pc := 730) dL_law_730 rfl rfl ?_
  refine g_iconst (pc := 731) (v := 1) dL_law_731 rfl ?_
  refine g_iadd (pc := 732) dL_law_732 ?_
  refine g_sld (pc := 733) (j := i + 1) rfl (nI_add i 1) (by omega) (Nat.lt_of_le_of_lt hL (by decide)) dL_law_733 ?_
  refine g_cVi (pc := 734) (k := 0) (As := [.int (sc.2 (i + 1))]) (st := []) ky_X11_worth kl_L_87 (s_X11_worth_0 (d := 5) hP (Nat.le_refl _) h1) rfl rfl rfl (hP.lt (by decide)) (by decide) (Nat.le_of_ble_eq_true rfl) hc hs dL_law_734 ?_
  refine g_aload_n (pc := 737) dL_law_737 rfl rfl ?_
  refine g_aload_n (pc := 738) dL_law_738 rfl rfl ?_
  refine g_iload_n (pc := 739) dL_law_739 rfl rfl ?_
  refine g_iconst (pc := 740) (v := 1) dL_law_740 rfl ?_
  refine g_iadd (pc := 741) dL_law_741 ?_
  refine g_sld (pc := 742) (j := i + 1) rfl (nI_add i 1) (by omega) (Nat.lt_of_le_of_lt hL (by decide)) dL_law_742 ?_
  refine g_cVi (pc := 743) (k := 55) (As := [.int (sc.2 (i + 1))]) (st := [.int r]) ky_X12_worth kl_L_90 (s_X12_worth_55 (d := 3) hP (Nat.le_refl _) h2) rfl rfl rfl (hP.lt (by decide)) (by decide) (Nat.le_of_ble_eq_true rfl) hc hs dL_law_743 ?_
  refine g_icmp_eq (pc := 746) (tgt := 1304) dL_law_746 rfl (fun _ => next I2 h3) (fun c => absurd rfl c)
def am_op17 (RI : Bool → am_IT → Prop) : Prop := ∀ (b : Bool) (I : am_IT) (a1 a2 : Int32), RI b I → ∃ (r : Int32) (I1 : am_IT) (I2 : am_IT), F_X11_colour_0 I a1 a2 = some (r, I1) ∧ F_X12_colour_55 I1 a1 a2 = some (r, I2) ∧ RI b I2
set_option maxRecDepth 100000 in
set_option maxHeartbeats 4000000 in
theorem law_c17 {RI : Bool → am_IT → Prop} (ho : am_op17 RI) {sc : am_ST} {l : Launch} {Q : Option Value → Nat → am_PT → am_IT → Prop} {b : Bool} {i N : Nat} {P : am_PT} {I : am_IT} {nc ns : Nat} (hi : i + 6 ≤ sc.1) (hL : sc.1 ≤ 3072) (hP : am_Pl 94 N P) (hR : RI b I) (hc : nc ≤ 600000) (hs : ns ≤ 7302250)
    (next : ∀ I2 : am_IT, RI b I2 → G sc l 2048 600000 7302250 mL_law Q 1304 [.ref 1000030, .ref 0, .ref 55, .int (nI i)] [] N P I2 nc ns) : G sc l 2048 600000 7302250 mL_law Q 751 [.ref 1000030, .ref 0, .ref 55, .int (nI i)] [] N P I nc ns := by
  obtain ⟨r, I1, I2, h1, h2, h3⟩ := ho b I (sc.2 (i + 1)) (sc.2 (i + 2)) hR
  refine g_aload_n (pc := 751) dL_law_751 rfl rfl ?_
  refine g_aload_n (pc := 752) dL_law_752 rfl rfl ?_
  refine g_iload_n (pc := 753) dL_law_753 rfl rfl ?_
  refine g_iconst (pc := 754) (v := 1) dL_law_754 rfl ?_
  refine g_iadd (pc := 755) dL_law_755 ?_
  refine g_sld (pc := 756) (j := i + 1) rfl (nI_add i 1) (by omega) (Nat.lt_of_le_of_lt hL (by decide)) dL_law_756 ?_
  refine g_aload_n (pc := 757) dL_law_757 rfl rfl ?_
  refine g_iload_n (pc := 758) dL_law_758 rfl rfl ?_
  refine g_iconst (pc := 759) (v := 2) dL_law_759 rfl ?_
  refine g_iadd (pc := 760) dL_law_760 ?_
  refine g_sld (pc := 761) (j := i + 2) rfl (nI_add i 2) (by omega) (Nat.lt_of_le_of_lt hL (by decide)) dL_law_761 ?_
  refine g_cVi (pc := 762) (k := 0) (As := [.int (sc.2 (i + 1)), .int (sc.2 (i + 2))]) (st := []) ky_X11_colour kl_L_91 (s_X11_colour_0 (d := 70) hP (Nat.le_refl _) h1) rfl rfl rfl (hP.lt (by decide)) (by decide) (Nat.le_of_ble_eq_true rfl) hc hs dL_law_762 ?_
  refine g_aload_n (pc := 765) dL_law_765 rfl rfl ?_
  refine g_aload_n (pc := 766) dL_law_766 rfl rfl ?_
  refine g_iload_n (pc := 767) dL_law_767 rfl rfl ?_
  refine g_iconst (pc := 768) (v := 1) dL_law_768 rfl ?_
  refine g_iadd (pc := 769) dL_law_769 ?_
  refine g_sld (pc := 770) (j := i + 1) rfl (nI_add i 1) (by omega) (Nat.lt_of_le_of_lt hL (by decide)) dL_law_770 ?_
  refine g_aload_n (pc := 771) dL_law_771 rfl rfl ?_
  refine g_iload_n (pc := 772) dL_law_772 rfl rfl ?_
  refine g_iconst (pc := 773) (v := 2) dL_law_773 rfl ?_
  refine g_iadd (pc := 774) dL_law_774 ?_
  refine g_sld (pc := 775) (j := i + 2) rfl (nI_add i 2) (by omega) (Nat.lt_of_le_of_lt hL (by decide)) dL_law_775 ?_
  refine g_cVi (pc := 776) (k := 55) (As := [.int (sc.2 (i + 1)), .int (sc.2 (i + 2))]) (st := [.int r]) ky_X12_colour kl_L_94 (s_X12_colour_55 (d := 6) hP (Nat.le_refl _) h2) rfl rfl rfl (hP.lt (by decide)) (by decide) (Nat.le_of_ble_eq_true rfl) hc hs dL_law_776 ?_
  refine g_icmp_eq (pc := 779) (tgt := 1304) dL_law_779 rfl (fun _ => next I2 h3) (fun c => absurd rfl c)
def am_op18 (RI : Bool → am_IT → Prop) : Prop := ∀ (b : Bool) (I : am_IT) (a1 : Int32), RI b I → ∃ (r : Int32) (I1 : am_IT) (I2 : am_IT), F_X11_become_0 I a1 = some (r, I1) ∧ F_X12_become_55 I1 a1 = some (r, I2) ∧ RI b I2
set_option maxRecDepth 100000 in
set_option maxHeartbeats 4000000 in
theorem law_c18 {RI : Bool → am_IT → Prop} (ho : am_op18 RI) {sc : am_ST} {l : Launch} {Q : Option Value → Nat → am_PT → am_IT → Prop} {b : Bool} {i N : Nat} {P : am_PT} {I : am_IT} {nc ns : Nat} (hi : i + 6 ≤ sc.1) (hL : sc.1 ≤ 3072) (hP : am_Pl 94 N P) (hR : RI b I) (hc : nc ≤ 600000) (hs : ns ≤ 7302250)
    (next : ∀ I2 : am_IT, RI b I2 → G sc l 2048 600000 7302250 mL_law Q 1304 [.ref 1000030, .ref 0, .ref 55, .int (nI i)] [] N P I2 nc ns) : G sc l 2048 600000 7302250 mL_law Q 784 [.ref 1000030, .ref 0, .ref 55, .int (nI i)] [] N P I nc ns := by
  obtain ⟨r, I1, I2, h1, h2, h3⟩ := ho b I (sc.2 (i + 1)) hR
  refine g_aload_n (pc := 784) dL_law_784 rfl rfl ?_
  refine g_aload_n (pc := 785) dL_law_785 rfl rfl ?_
  refine g_iload_n (pc := 786) dL_law_786 rfl rfl ?_
  refine g_iconst (pc := 787) (v := 1) dL_law_787 rfl ?_
  refine g_iadd (pc := 788) dL_law_788 ?_
  refine g_sld (pc := 789) (j := i + 1) rfl (nI_add i 1) (by omega) (Nat.lt_of_le_of_lt hL (by decide)) dL_law_789 ?_
  refine g_cVi (pc := 790) (k := 0) (As := [.int (sc.2 (i + 1))]) (st := []) ky_X11_become kl_L_95 (s_X11_become_0 (d := 70) hP (Nat.le_refl _) h1) rfl rfl rfl (hP.lt (by decide)) (by decide) (Nat.le_of_ble_eq_true rfl) hc hs dL_law_790 ?_
  refine g_aload_n (pc := 793) dL_law_793 rfl rfl ?_
  refine g_aload_n (pc := 794) dL_law_794 rfl rfl ?_
  refine g_iload_n (pc := 795) dL_law_795 rfl rfl ?_
  refine g_iconst (pc := 796) (v := 1) dL_law_796 rfl ?_
  refine g_iadd (pc := 797) dL_law_797 ?_
  refine g_sld (pc := 798) (j := i + 1) rfl (nI_add i 1) (by omega) (Nat.lt_of_le_of_lt hL (by decide)) dL_law_798 ?_
  refine g_cVi (pc := 799) (k := 55) (As := [.int (sc.2 (i + 1))]) (st := [.int r]) ky_X12_become kl_L_98 (s_X12_become_55 (d := 6) hP (Nat.le_refl _) h2) rfl rfl rfl (hP.lt (by decide)) (by decide) (Nat.le_of_ble_eq_true rfl) hc hs dL_law_799 ?_
  refine g_icmp_eq (pc := 802) (tgt := 1304) dL_law_802 rfl (fun _ => next I2 h3) (fun c => absurd rfl c)
def am_op19 (RI : Bool → am_IT → Prop) : Prop := ∀ (b : Bool) (I : am_IT) (a1 a2 : Int32), RI b I → ∃ (r : Int32) (I1 : am_IT) (I2 : am_IT), F_X11_gains_0 I a1 a2 = some (r, I1) ∧ F_X12_gains_55 I1 a1 a2 = some (r, I2) ∧ RI b I2
set_option maxRecDepth 100000 in
set_option maxHeartbeats 4000000 in
theorem law_c19 {RI : Bool → am_IT → Prop} (ho : am_op19 RI) {sc : am_ST} {l : Launch} {Q : Option Value → Nat → am_PT → am_IT → Prop} {b : Bool} {i N : Nat} {P : am_PT} {I : am_IT} {nc ns : Nat} (hi : i + 6 ≤ sc.1) (hL : sc.1 ≤ 3072) (hP : am_Pl 94 N P) (hR : RI b I) (hc : nc ≤ 600000) (hs : ns ≤ 7302250)
    (next : ∀ I2 : am_IT, RI b I2 → G sc l 2048 600000 7302250 mL_law Q 1304 [.ref 1000030, .ref 0, .ref 55, .int (nI i)] [] N P I2 nc ns) : G sc l 2048 600000 7302250 mL_law Q 807 [.ref 1000030, .ref 0, .ref 55, .int (nI i)] [] N P I nc ns := by
  obtain ⟨r, I1, I2, h1, h2, h3⟩ := ho b I (sc.2 (i + 1)) (sc.2 (i + 2)) hR
  refine g_aload_n (pc := 807) dL_law_807 rfl rfl ?_
  refine g_aload_n (pc := 808) dL_law_808 rfl rfl ?_
  refine g_iload_n (pc := 809) dL_law_809 rfl rfl ?_
  refine g_iconst (pc := 810) (v := 1) dL_law_810 rfl ?_
  refine g_iadd (pc := 811) dL_law_811 ?_
  refine g_sld (pc := 812) (j := i + 1) rfl (nI_add i 1) (by omega) (Nat.lt_of_le_of_lt hL (by decide)) dL_law_812 ?_
  refine g_aload_n (pc := 813) dL_law_813 rfl rfl ?_
  refine g_iload_n (pc := 814) dL_law_814 rfl rfl ?_
  refine g_iconst (pc := 815) (v := 2) dL_law_815 rfl ?_
  refine g_iadd (pc := 816) dL_law_816 ?_
  refine g_sld (pc := 817) (j := i + 2) rfl (nI_add i 2) (by omega) (Nat.lt_of_le_of_lt hL (by decide)) dL_law_817 ?_
  refine g_cVi (pc := 818) (k := 0) (As := [.int (sc.2 (i + 1)), .int (sc.2 (i + 2))]) (st := []) ky_X11_gains kl_L_99 (s_X11_gains_0 (d := 7) hP (Nat.le_refl _) h1) rfl rfl rfl (hP.lt (by decide)) (by decide) (Nat.le_of_ble_eq_true rfl) hc hs dL_law_818 ?_
  refine g_aload_n (pc := 821) dL_law_821 rfl rfl ?_
  refine g_aload_n (pc := 822) dL_law_822 rfl rfl ?_
  refine g_iload_n (pc := 823) dL_law_823 rfl rfl ?_
  refine g_iconst (pc := 824) (v := 1) dL_law_824 rfl ?_
  refine g_iadd (pc := 825) dL_law_825 ?_
  refine g_sld (pc := 826) (j := i + 1) rfl (nI_add i 1) (by omega) (Nat.lt_of_le_of_lt hL (by decide)) dL_law_826 ?_
  refine g_aload_n (pc := 827) dL_law_827 rfl rfl ?_
  refine g_iload_n (pc := 828) dL_law_828 rfl rfl ?_
  refine g_iconst (pc := 829) (v := 2) dL_law_829 rfl ?_
  refine g_iadd (pc := 830) dL_law_830 ?_
  refine g_sld (pc := 831) (j := i + 2) rfl (nI_add i 2) (by omega) (Nat.lt_of_le_of_lt hL (by decide)) dL_law_831 ?_
  refine g_cVi (pc := 832) (k := 55) (As := [.int (sc.2 (i + 1)), .int (sc.2 (i + 2))]) (st := [.int r]) ky_X12_gains kl_L_102 (s_X12_gains_55 (d := 6) hP (Nat.le_refl _) h2) rfl rfl rfl (hP.lt (by decide)) (by decide) (Nat.le_of_ble_eq_true rfl) hc hs dL_law_832 ?_
  refine g_icmp_eq (pc := 835) (tgt := 1304) dL_law_835 rfl (fun _ => next I2 h3) (fun c => absurd rfl c)
def am_op20 (RI : Bool → am_IT → Prop) : Prop := ∀ (b : Bool) (I : am_IT) (a1 : Int32), RI b I → ∃ (r : Int32) (I1 : am_IT) (I2 : am_IT), F_X11_best_0 I a1 = some (r, I1) ∧ F_X12_best_55 I1 a1 = some (r, I2) ∧ RI b I2
set_option maxRecDepth 100000 in
set_option maxHeartbeats 4000000 in
theorem law_c20 {RI : Bool → am_IT → Prop} (ho : am_op20 RI) {sc : am_ST} {l : Launch} {Q : Option Value → Nat → am_PT → am_IT → Prop} {b : Bool} {i N : Nat} {P : am_PT} {I : am_IT} {nc ns : Nat} (hi : i + 6 ≤ sc.1) (hL : sc.1 ≤ 3072) (hP : am_Pl 94 N P) (hR : RI b I) (hc : nc ≤ 600000) (hs : ns ≤ 7302250)
    (next : ∀ I2 : am_IT, RI b I2 → G sc l 2048 600000 7302250 mL_law Q 1304 [.ref 1000030, .ref 0, .ref 55, .int (nI i)] [] N P I2 nc ns) : G sc l 2048 600000 7302250 mL_law Q 840 [.ref 1000030, .ref 0, .ref 55, .int (nI i)] [] N P I nc ns := by
  obtain ⟨r, I1, I2, h1, h2, h3⟩ := ho b I (sc.2 (i + 1)) hR
  refine g_aload_n (pc := 840) dL_law_840 rfl rfl ?_
  refine g_aload_n (pc := 841) dL_law_841 rfl rfl ?_
  refine g_iload_n (pc := 842) dL_law_842 rfl rfl ?_
  refine g_iconst (pc := 843) (v := 1) dL_law_843 rfl ?_
  refine g_iadd (pc := 844) dL_law_844 ?_
  refine g_sld (pc := 845) (j := i + 1) rfl (nI_add i 1) (by omega) (Nat.lt_of_le_of_lt hL (by decide)) dL_law_845 ?_
  refine g_cVi (pc := 846) (k := 0) (As := [.int (sc.2 (i + 1))]) (st := []) ky_X11_best kl_L_103 (s_X11_best_0 (d := 70) hP (Nat.le_refl _) h1) rfl rfl rfl (hP.lt (by decide)) (by decide) (Nat.le_of_ble_eq_true rfl) hc hs dL_law_846 ?_
  refine g_aload_n (pc := 849) dL_law_849 rfl rfl ?_
  refine g_aload_n (pc := 850) dL_law_850 rfl rfl ?_
  refine g_iload_n (pc := 851) dL_law_851 rfl rfl ?_
  refine g_iconst (pc := 852) (v := 1) dL_law_852 rfl ?_
  refine g_iadd (pc := 853) dL_law_853 ?_
  refine g_sld (pc := 854) (j := i + 1) rfl (nI_add i 1) (by omega) (Nat.lt_of_le_of_lt hL (by decide)) dL_law_854 ?_
  refine g_cVi (pc := 855) (k := 55) (As := [.int (sc.2 (i + 1))]) (st := [.int r]) ky_X12_best kl_L_106 (s_X12_best_55 (d := 4) hP (Nat.le_refl _) h2) rfl rfl rfl (hP.lt (by decide)) (by decide) (Nat.le_of_ble_eq_true rfl) hc hs dL_law_855 ?_
  refine g_icmp_eq (pc := 858) (tgt := 1304) dL_law_858 rfl (fun _ => next I2 h3) (fun c => absurd rfl c)
def am_op21 (RI : Bool → am_IT → Prop) : Prop := ∀ (b : Bool) (I : am_IT) (_ : Unit), RI b I → ∃ (r : Int32) (I1 : am_IT) (I2 : am_IT), F_X11_trade_0 I = some (r, I1) ∧ F_X12_trade_55 I1 = some (r, I2) ∧ RI b I2
set_option maxRecDepth 100000 in
set_option maxHeartbeats 4000000 in
theorem law_c21 {RI : Bool → am_IT → Prop} (ho : am_op21 RI) {sc : am_ST} {l : Launch} {Q : Option Value → Nat → am_PT → am_IT → Prop} {b : Bool} {i N : Nat} {P : am_PT} {I : am_IT} {nc ns : Nat} (hi : i + 6 ≤ sc.1) (hL : sc.1 ≤ 3072) (hP : am_Pl 94 N P) (hR : RI b I) (hc : nc ≤ 600000) (hs : ns ≤ 7302250)
    (next : ∀ I2 : am_IT, RI b I2 → G sc l 2048 600000 7302250 mL_law Q 1304 [.ref 1000030, .ref 0, .ref 55, .int (nI i)] [] N P I2 nc ns) : G sc l 2048 600000 7302250 mL_law Q 863 [.ref 1000030, .ref 0, .ref 55, .int (nI i)] [] N P I nc ns := by
  obtain ⟨r, I1, I2, h1, h2, h3⟩ := ho b I () hR
  refine g_aload_n (pc := 863) dL_law_863 rfl rfl ?_
  refine g_cVi (pc := 864) (k := 0) (As := []) (st := []) ky_X11_trade kl_L_107 (s_X11_trade_0 (d := 6) hP (Nat.le_refl _) h1) rfl rfl rfl (hP.lt (by decide)) (by decide) (Nat.le_of_ble_eq_true rfl) hc hs dL_law_864 ?_
  refine g_aload_n (pc := 867) dL_law_867 rfl rfl ?_
  refine g_cVi (pc := 868) (k := 55) (As := []) (st := [.int r]) ky_X12_trade kl_L_110 (s_X12_trade_55 (d := 5) hP (Nat.le_refl _) h2) rfl rfl rfl (hP.lt (by decide)) (by decide) (Nat.le_of_ble_eq_true rfl) hc hs dL_law_868 ?_
  refine g_icmp_eq (pc := 871) (tgt := 1304) dL_law_871 rfl (fun _ => next I2 h3) (fun c => absurd rfl c)
def am_op22 (RI : Bool → am_IT → Prop) : Prop := ∀ (b : Bool) (I : am_IT) (_ : Unit), RI b I → ∃ (r : Int32) (I1 : am_IT) (I2 : am_IT), F_X11_stand_0 I = some (r, I1) ∧ F_X12_stand_55 I1 = some (r, I2) ∧ RI b I2
set_option maxRecDepth 100000 in
set_option maxHeartbeats 4000000 in
theorem law_c22 {RI : Bool → am_IT → Prop} (ho : am_op22 RI) {sc : am_ST} {l : Launch} {Q : Option Value → Nat → am_PT → am_IT → Prop} {b : Bool} {i N : Nat} {P : am_PT} {I : am_IT} {nc ns : Nat} (hi : i + 6 ≤ sc.1) (hL : sc.1 ≤ 3072) (hP : am_Pl 94 N P) (hR : RI b I) (hc : nc ≤ 600000) (hs : ns ≤ 7302250)
    (next : ∀ I2 : am_IT, RI b I2 → G sc l 2048 600000 7302250 mL_law Q 1304 [.ref 1000030, .ref 0, .ref 55, .int (nI i)] [] N P I2 nc ns) : G sc l 2048 600000 7302250 mL_law Q 876 [.ref 1000030, .ref 0, .ref 55, .int (nI i)] [] N P I nc ns := by
  obtain ⟨r, I1, I2, h1, h2, h3⟩ := ho b I () hR
  refine g_aload_n (pc := 876) dL_law_876 rfl rfl ?_
  refine g_cVi (pc := 877) (k := 0) (As := []) (st := []) ky_X11_stand kl_L_111 (s_X11_stand_0 (d := 7) hP (Nat.le_refl _) h1) rfl rfl rfl (hP.lt (by decide)) (by decide) (Nat.le_of_ble_eq_true rfl) hc hs dL_law_877 ?_
  refine g_aload_n (pc := 880) dL_law_880 rfl rfl ?_
  refine g_cVi (pc := 881) (k := 55) (As := []) (st := [.int r]) ky_X12_stand kl_L_114 (s_X12_stand_55 (d := 5) hP (Nat.le_refl _) h2) rfl rfl rfl (hP.lt (by decide)) (by decide) (Nat.le_of_ble_eq_true rfl) hc hs dL_law_881 ?_
  refine g_icmp_eq (pc := 884) (tgt := 1304) dL_law_884 rfl (fun _ => next I2 h3) (fun c => absurd rfl c)
def am_op23 (RI : Bool → am_IT → Prop) : Prop := ∀ (b : Bool) (I : am_IT) (a1 a2 a3 a4 a5 : Int32), RI b I → ∃ (r : Int32) (I1 : am_IT) (I2 : am_IT), F_X11_hope_0 I a1 a2 a3 a4 a5 = some (r, I1) ∧ F_X12_hope_55 I1 a1 a2 a3 a4 a5 = some (r, I2) ∧ RI b I2
set_option maxRecDepth 100000 in
set_option maxHeartbeats 4000000 in
theorem law_c23 {RI : Bool → am_IT → Prop} (ho : am_op23 RI) {sc : am_ST} {l : Launch} {Q : Option Value → Nat → am_PT → am_IT → Prop} {b : Bool} {i N : Nat} {P : am_PT} {I : am_IT} {nc ns : Nat} (hi : i + 6 ≤ sc.1) (hL : sc.1 ≤ 3072) (hP : am_Pl 94 N P) (hR : RI b I) (hc : nc ≤ 600000) (hs : ns ≤ 7302250)
    (next : ∀ I2 : am_IT, RI b I2 → G sc l 2048 600000 7302250 mL_law Q 1304 [.ref 1000030, .ref 0, .ref 55, .int (nI i)] [] N P I2 nc ns) : G sc l 2048 600000 7302250 mL_law Q 889 [.ref 1000030, .ref 0, .ref 55, .int (nI i)] [] N P I nc ns := by
  obtain ⟨r, I1, I2, h1, h2, h3⟩ := ho b I (sc.2 (i + 1)) (sc.2 (i + 2)) (sc.2 (i + 3)) (sc.2 (i + 4)) (sc.2 (i + 5)) hR
  refine g_aload_n (pc := 889) dL_law_889 rfl rfl ?_
  refine g_aload_n (pc := 890) dL_law_890 rfl rfl ?_
  refine g_iload_n (pc := 891) dL_law_891 rfl rfl ?_
  refine g_iconst (pc := 892) (v := 1) dL_law_892 rfl ?_
  refine g_iadd (pc := 893) dL_law_893 ?_
  refine g_sld (pc := 894) (j := i + 1) rfl (nI_add i 1) (by omega) (Nat.lt_of_le_of_lt hL (by decide)) dL_law_894 ?_
  refine g_aload_n (pc := 895) dL_law_895 rfl rfl ?_
  refine g_iload_n (pc := 896) dL_law_896 rfl rfl ?_
  refine g_iconst (pc := 897) (v := 2) dL_law_897 rfl ?_
  refine g_iadd (pc := 898) dL_law_898 ?_
  refine g_sld (pc := 899) (j := i + 2) rfl (nI_add i 2) (by omega) (Nat.lt_of_le_of_lt hL (by decide)) dL_law_899 ?_
  refine g_aload_n (pc := 900) dL_law_900 rfl rfl ?_
  refine g_iload_n (pc := 901) dL_law_901 rfl rfl ?_
  refine g_iconst (pc := 902) (v := 3) dL_law_902 rfl ?_
  refine g_iadd (pc := 903) dL_law_903 ?_
  refine g_sld (pc := 904) (j := i + 3) rfl (nI_add i 3) (by omega) (Nat.lt_of_le_of_lt hL (by decide)) dL_law_904 ?_
  refine g_aload_n (pc := 905) dL_law_905 rfl rfl ?_
  refine g_iload_n (pc := 906) dL_law_906 rfl rfl ?_
  refine g_iconst (pc := 907) (v := 4) dL_law_907 rfl ?_
  refine g_iadd (pc := 908) dL_law_908 ?_
  refine g_sld (pc := 909) (j := i + 4) rfl (nI_add i 4) (by omega) (Nat.lt_of_le_of_lt hL (by decide)) dL_law_909 ?_
  refine g_aload_n (pc := 910) dL_law_910 rfl rfl ?_
  refine g_iload_n (pc := 911) dL_law_911 rfl rfl ?_
  refine g_iconst (pc := 912) (v := 5) dL_law_912 rfl ?_
  refine g_iadd (pc := 913) dL_law_913 ?_
  refine g_sld (pc := 914) (j := i + 5) rfl (nI_add i 5) (by omega) (Nat.lt_of_le_of_lt hL (by decide)) dL_law_914 ?_
  refine g_cVi (pc := 915) (k := 0) (As := [.int (sc.2 (i + 1)), .int (sc.2 (i + 2)), .int (sc.2 (i + 3)), .int (sc.2 (i + 4)), .int (sc.2 (i + 5))]) (st := []) ky_X11_hope kl_L_115 (s_X11_hope_0 (d := 7) hP (Nat.le_refl _) h1) rfl rfl rfl (hP.lt (by decide)) (by decide) (Nat.le_of_ble_eq_true rfl) hc hs dL_law_915 ?_
  refine g_aload_n (pc := 918) dL_law_918 rfl rfl ?_
  refine g_aload_n (pc := 919) dL_law_919 rfl rfl ?_
  refine g_iload_n (pc := 920) dL_law_920 rfl rfl ?_
  refine g_iconst (pc := 921) (v := 1) dL_law_921 rfl ?_
  refine g_iadd (pc := 922) dL_law_922 ?_
  refine g_sld (pc := 923) (j := i + 1) rfl (nI_add i 1) (by omega) (Nat.lt_of_le_of_lt hL (by decide)) dL_law_923 ?_
  refine g_aload_n (pc := 924) dL_law_924 rfl rfl ?_
  refine g_iload_n (pc := 925) dL_law_925 rfl rfl ?_
  refine g_iconst (pc := 926) (v := 2) dL_law_926 rfl ?_
  refine g_iadd (pc := 927) dL_law_927 ?_
  refine g_sld (pc := 928) (j := i + 2) rfl (nI_add i 2) (by omega) (Nat.lt_of_le_of_lt hL (by decide)) dL_law_928 ?_
  refine g_aload_n (pc := 929) dL_law_929 rfl rfl ?_
  refine g_iload_n (pc := 930) dL_law_930 rfl rfl ?_
  refine g_iconst (pc := 931) (v := 3) dL_law_931 rfl ?_
  refine g_iadd (pc := 932) dL_law_932 ?_
  refine g_sld (pc := 933) (j := i + 3) rfl (nI_add i 3) (by omega) (Nat.lt_of_le_of_lt hL (by decide)) dL_law_933 ?_
  refine g_aload_n (pc := 934) dL_law_934 rfl rfl ?_
  refine g_iload_n (pc := 935) dL_law_935 rfl rfl ?_
  refine g_iconst (pc := 936) (v := 4) dL_law_936 rfl ?_
  refine g_iadd (pc := 937) dL_law_937 ?_
  refine g_sld (pc := 938) (j := i + 4) rfl (nI_add i 4) (by omega) (Nat.lt_of_le_of_lt hL (by decide)) dL_law_938 ?_
  refine g_aload_n (pc := 939) dL_law_939 rfl rfl ?_
  refine g_iload_n (pc := 940) dL_law_940 rfl rfl ?_
  refine g_iconst (pc := 941) (v := 5) dL_law_941 rfl ?_
  refine g_iadd (pc := 942) dL_law_942 ?_
  refine g_sld (pc := 943) (j := i + 5) rfl (nI_add i 5) (by omega) (Nat.lt_of_le_of_lt hL (by decide)) dL_law_943 ?_
  refine g_cVi (pc := 944) (k := 55) (As := [.int (sc.2 (i + 1)), .int (sc.2 (i + 2)), .int (sc.2 (i + 3)), .int (sc.2 (i + 4)), .int (sc.2 (i + 5))]) (st := [.int r]) ky_X12_hope kl_L_118 (s_X12_hope_55 (d := 3) hP (Nat.le_refl _) h2) rfl rfl rfl (hP.lt (by decide)) (by decide) (Nat.le_of_ble_eq_true rfl) hc hs dL_law_944 ?_
  refine g_icmp_eq (pc := 947) (tgt := 1304) dL_law_947 rfl (fun _ => next I2 h3) (fun c => absurd rfl c)
def am_op24 (RI : Bool → am_IT → Prop) : Prop := ∀ (b : Bool) (I : am_IT) (a1 : Int32), RI b I → ∃ (r : Int32) (I1 : am_IT) (I2 : am_IT), F_X11_homes_0 I a1 = some (r, I1) ∧ F_X12_homes_55 I1 a1 = some (r, I2) ∧ RI b I2
set_option maxRecDepth 100000 in
set_option maxHeartbeats 4000000 in
theorem law_c24 {RI : Bool → am_IT → Prop} (ho : am_op24 RI) {sc : am_ST} {l : Launch} {Q : Option Value → Nat → am_PT → am_IT → Prop} {b : Bool} {i N : Nat} {P : am_PT} {I : am_IT} {nc ns : Nat} (hi : i + 6 ≤ sc.1) (hL : sc.1 ≤ 3072) (hP : am_Pl 94 N P) (hR : RI b I) (hc : nc ≤ 600000) (hs : ns ≤ 7302250)
    (next : ∀ I2 : am_IT, RI b I2 → G sc l 2048 600000 7302250 mL_law Q 1304 [.ref 1000030, .ref 0, .ref 55, .int (nI i)] [] N P I2 nc ns) : G sc l 2048 600000 7302250 mL_law Q 952 [.ref 1000030, .ref 0, .ref 55, .int (nI i)] [] N P I nc ns := by
  obtain ⟨r, I1, I2, h1, h2, h3⟩ := ho b I (sc.2 (i + 1)) hR
  refine g_aload_n (pc := 952) dL_law_952 rfl rfl ?_
  refine g_aload_n (pc := 953) dL_law_953 rfl rfl ?_
  refine g_iload_n (pc := 954) dL_law_954 rfl rfl ?_
  refine g_iconst (pc := 955) (v := 1) dL_law_955 rfl ?_
  refine g_iadd (pc := 956) dL_law_956 ?_
  refine g_sld (pc := 957) (j := i + 1) rfl (nI_add i 1) (by omega) (Nat.lt_of_le_of_lt hL (by decide)) dL_law_957 ?_
  refine g_cVi (pc := 958) (k := 0) (As := [.int (sc.2 (i + 1))]) (st := []) ky_X11_homes kl_L_119 (s_X11_homes_0 (d := 5) hP (Nat.le_refl _) h1) rfl rfl rfl (hP.lt (by decide)) (by decide) (Nat.le_of_ble_eq_true rfl) hc hs dL_law_958 ?_
  refine g_aload_n (pc := 961) dL_law_961 rfl rfl ?_
  refine g_aload_n (pc := 962) dL_law_962 rfl rfl ?_
  refine g_iload_n (pc := 963) dL_law_963 rfl rfl ?_
  refine g_iconst (pc := 964) (v := 1) dL_law_964 rfl ?_
  refine g_iadd (pc := 965) dL_law_965 ?_
  refine g_sld (pc := 966) (j := i + 1) rfl (nI_add i 1) (by omega) (Nat.lt_of_le_of_lt hL (by decide)) dL_law_966 ?_
  refine g_cVi (pc := 967) (k := 55) (As := [.int (sc.2 (i + 1))]) (st := [.int r]) ky_X12_homes kl_L_122 (s_X12_homes_55 (d := 4) hP (Nat.le_refl _) h2) rfl rfl rfl (hP.lt (by decide)) (by decide) (Nat.le_of_ble_eq_true rfl) hc hs dL_law_967 ?_
  refine g_icmp_eq (pc := 970) (tgt := 1304) dL_law_970 rfl (fun _ => next I2 h3) (fun c => absurd rfl c)
def am_op25 (RI : Bool → am_IT → Prop) : Prop := ∀ (b : Bool) (I : am_IT) (_ : Unit), RI b I → ∃ (r : Int32) (I1 : am_IT) (I2 : am_IT), F_X11_swap_0 I = some (r, I1) ∧ F_X12_swap_55 I1 = some (r, I2) ∧ RI b I2
set_option maxRecDepth 100000 in
set_option maxHeartbeats 4000000 in
theorem law_c25 {RI : Bool → am_IT → Prop} (ho : am_op25 RI) {sc : am_ST} {l : Launch} {Q : Option Value → Nat → am_PT → am_IT → Prop} {b : Bool} {i N : Nat} {P : am_PT} {I : am_IT} {nc ns : Nat} (hi : i + 6 ≤ sc.1) (hL : sc.1 ≤ 3072) (hP : am_Pl 94 N P) (hR : RI b I) (hc : nc ≤ 600000) (hs : ns ≤ 7302250)
    (next : ∀ I2 : am_IT, RI b I2 → G sc l 2048 600000 7302250 mL_law Q 1304 [.ref 1000030, .ref 0, .ref 55, .int (nI i)] [] N P I2 nc ns) : G sc l 2048 600000 7302250 mL_law Q 975 [.ref 1000030, .ref 0, .ref 55, .int (nI i)] [] N P I nc ns := by
  obtain ⟨r, I1, I2, h1, h2, h3⟩ := ho b I () hR
  refine g_aload_n (pc := 975) dL_law_975 rfl rfl ?_
  refine g_cVi (pc := 976) (k := 0) (As := []) (st := []) ky_X11_swap kl_L_123 (s_X11_swap_0 (d := 7) hP (Nat.le_refl _) h1) rfl rfl rfl (hP.lt (by decide)) (by decide) (Nat.le_of_ble_eq_true rfl) hc hs dL_law_976 ?_
  refine g_aload_n (pc := 979) dL_law_979 rfl rfl ?_
  refine g_cVi (pc := 980) (k := 55) (As := []) (st := [.int r]) ky_X12_swap kl_L_126 (s_X12_swap_55 (d := 3) hP (Nat.le_refl _) h2) rfl rfl rfl (hP.lt (by decide)) (by decide) (Nat.le_of_ble_eq_true rfl) hc hs dL_law_980 ?_
  refine g_icmp_eq (pc := 983) (tgt := 1304) dL_law_983 rfl (fun _ => next I2 h3) (fun c => absurd rfl c)
def am_op26 (RI : Bool → am_IT → Prop) : Prop := ∀ (b : Bool) (I : am_IT) (a1 a2 a3 : Int32), RI b I → ∃ (r : Int32) (I1 : am_IT) (I2 : am_IT), F_X11_deed_0 I a1 a2 a3 = some (r, I1) ∧ F_X12_deed_55 I1 a1 a2 a3 = some (r, I2) ∧ RI b I2
set_option maxRecDepth 100000 in
set_option maxHeartbeats 4000000 in
theorem law_c26 {RI : Bool → am_IT → Prop} (ho : am_op26 RI) {sc : am_ST} {l : Launch} {Q : Option Value → Nat → am_PT → am_IT → Prop} {b : Bool} {i N : Nat} {P : am_PT} {I : am_IT} {nc ns : Nat} (hi : i + 6 ≤ sc.1) (hL : sc.1 ≤ 3072) (hP : am_Pl 94 N P) (hR : RI b I) (hc : nc ≤ 600000) (hs : ns ≤ 7302250)
    (next : ∀ I2 : am_IT, RI b I2 → G sc l 2048 600000 7302250 mL_law Q 1304 [.ref 1000030, .ref 0, .ref 55, .int (nI i)] [] N P I2 nc ns) : G sc l 2048 600000 7302250 mL_law Q 988 [.ref 1000030, .ref 0, .ref 55, .int (nI i)] [] N P I nc ns := by
  obtain ⟨r, I1, I2, h1, h2, h3⟩ := ho b I (sc.2 (i + 1)) (sc.2 (i + 2)) (sc.2 (i + 3)) hR
  refine g_aload_n (pc := 988) dL_law_988 rfl rfl ?_
  refine g_aload_n (pc := 989) dL_law_989 rfl rfl ?_
  refine g_iload_n (pc := 990) dL_law_990 rfl rfl ?_
  refine g_iconst (pc := 991) (v := 1) dL_law_991 rfl ?_
  refine g_iadd (pc := 992) dL_law_992 ?_
  refine g_sld (pc := 993) (j := i + 1) rfl (nI_add i 1) (by omega) (Nat.lt_of_le_of_lt hL (by decide)) dL_law_993 ?_
  refine g_aload_n (pc := 994) dL_law_994 rfl rfl ?_
  refine g_iload_n (pc := 995) dL_law_995 rfl rfl ?_
  refine g_iconst (pc := 996) (v := 2) dL_law_996 rfl ?_
  refine g_iadd (pc := 997) dL_law_997 ?_
  refine g_sld (pc := 998) (j := i + 2) rfl (nI_add i 2) (by omega) (Nat.lt_of_le_of_lt hL (by decide)) dL_law_998 ?_
  refine g_aload_n (pc := 999) dL_law_999 rfl rfl ?_
  refine g_iload_n (pc := 1000) dL_law_1000 rfl rfl ?_
  refine g_iconst (pc := 1001) (v := 3) dL_law_1001 rfl ?_
  refine g_iadd (pc := 1002) dL_law_1002 ?_
  refine g_sld (pc := 1003) (j := i + 3) rfl (nI_add i 3) (by omega) (Nat.lt_of_le_of_lt hL (by decide)) dL_law_1003 ?_
  refine g_cVz (pc := 1004) (k := 0) (As := [.int (sc.2 (i + 1)), .int (sc.2 (i + 2)), .int (sc.2 (i + 3))]) (st := []) ky_X11_deed kl_L_127 (s_X11_deed_0 (d := 2) hP (Nat.le_refl _) h1) rfl rfl rfl (hP.lt (by decide)) (by decide) (Nat.le_of_ble_eq_true rfl) hc hs dL_law_1004 ?_
  intro _
  refine g_aload_n (pc := 1007) dL_law_1007 rfl rfl ?_
  refine g_aload_n (pc := 1008) dL_law_1008 rfl rfl ?_
  refine g_iload_n (pc := 1009) dL_law_1009 rfl rfl ?_
  refine g_iconst (pc := 1010) (v := 1) dL_law_1010 rfl ?_
  refine g_iadd (pc := 1011) dL_law_1011 ?_
  refine g_sld (pc := 1012) (j := i + 1) rfl (nI_add i 1) (by omega) (Nat.lt_of_le_of_lt hL (by decide)) dL_law_1012 ?_
  refine g_aload_n (pc := 1013) dL_law_1013 rfl rfl ?_
  refine g_iload_n (pc := 1014) dL_law_1014 rfl rfl ?_
  refine g_iconst (pc := 1015) (v := 2) dL_law_1015 rfl ?_
  refine g_iadd (pc := 1016) dL_law_1016 ?_
  refine g_sld (pc := 1017) (j := i + 2) rfl (nI_add i 2) (by omega) (Nat.lt_of_le_of_lt hL (by decide)) dL_law_1017 ?_
  refine g_aload_n (pc := 1018) dL_law_1018 rfl rfl ?_
  refine g_iload_n (pc := 1019) dL_law_1019 rfl rfl ?_
  refine g_iconst (pc := 1020) (v := 3) dL_law_1020 rfl ?_
  refine g_iadd (pc := 1021) dL_law_1021 ?_
  refine g_sld (pc := 1022) (j := i + 3) rfl (nI_add i 3) (by omega) (Nat.lt_of_le_of_lt hL (by decide)) dL_law_1022 ?_
  refine g_cVz (pc := 1023) (k := 55) (As := [.int (sc.2 (i + 1)), .int (sc.2 (i + 2)), .int (sc.2 (i + 3))]) (st := [.int r]) ky_X12_deed kl_L_130 (s_X12_deed_55 (d := 2) hP (Nat.le_refl _) h2) rfl rfl rfl (hP.lt (by decide)) (by decide) (Nat.le_of_ble_eq_true rfl) hc hs dL_law_1023 ?_
  intro _
  refine g_icmp_eq (pc := 1026) (tgt := 1304) dL_law_1026 rfl (fun _ => next I2 h3) (fun c => absurd rfl c)
def am_op27 (RI : Bool → am_IT → Prop) : Prop := ∀ (b : Bool) (I : am_IT) (a1 a2 a3 : Int32), RI b I → ∃ (r : Int32) (I1 : am_IT) (I2 : am_IT), F_X11_must_0 I a1 a2 a3 = some (r, I1) ∧ F_X12_must_55 I1 a1 a2 a3 = some (r, I2) ∧ RI b I2
set_option maxRecDepth 100000 in
set_option maxHeartbeats 4000000 in
theorem law_c27 {RI : Bool → am_IT → Prop} (ho : am_op27 RI) {sc : am_ST} {l : Launch} {Q : Option Value → Nat → am_PT → am_IT → Prop} {b : Bool} {i N : Nat} {P : am_PT} {I : am_IT} {nc ns : Nat} (hi : i + 6 ≤ sc.1) (hL : sc.1 ≤ 3072) (hP : am_Pl 94 N P) (hR : RI b I) (hc : nc ≤ 600000) (hs : ns ≤ 7302250)
    (next : ∀ I2 : am_IT, RI b I2 → G sc l 2048 600000 7302250 mL_law Q 1304 [.ref 1000030, .ref 0, .ref 55, .int (nI i)] [] N P I2 nc ns) : G sc l 2048 600000 7302250 mL_law Q 1031 [.ref 1000030, .ref 0, .ref 55, .int (nI i)] [] N P I nc ns := by
  obtain ⟨r, I1, I2, h1, h2, h3⟩ := ho b I (sc.2 (i + 1)) (sc.2 (i + 2)) (sc.2 (i + 3)) hR
  refine g_aload_n (pc := 1031) dL_law_1031 rfl rfl ?_
  refine g_aload_n (pc := 1032) dL_law_1032 rfl rfl ?_
  refine g_iload_n (pc := 1033) dL_law_1033 rfl rfl ?_
  refine g_iconst (pc := 1034) (v := 1) dL_law_1034 rfl ?_
  refine g_iadd (pc := 1035) dL_law_1035 ?_
  refine g_sld (pc := 1036) (j := i + 1) rfl (nI_add i 1) (by omega) (Nat.lt_of_le_of_lt hL (by decide)) dL_law_1036 ?_
  refine g_aload_n (pc := 1037) dL_law_1037 rfl rfl ?_
  refine g_iload_n (pc := 1038) dL_law_1038 rfl rfl ?_
  refine g_iconst (pc := 1039) (v := 2) dL_law_1039 rfl ?_
  refine g_iadd (pc := 1040) dL_law_1040 ?_
  refine g_sld (pc := 1041) (j := i + 2) rfl (nI_add i 2) (by omega) (Nat.lt_of_le_of_lt hL (by decide)) dL_law_1041 ?_
  refine g_aload_n (pc := 1042) dL_law_1042 rfl rfl ?_
  refine g_iload_n (pc := 1043) dL_law_1043 rfl rfl ?_
  refine g_iconst (pc := 1044) (v := 3) dL_law_1044 rfl ?_
  refine g_iadd (pc := 1045) dL_law_1045 ?_
  refine g_sld (pc := 1046) (j := i + 3) rfl (nI_add i 3) (by omega) (Nat.lt_of_le_of_lt hL (by decide)) dL_law_1046 ?_
  refine g_cVi (pc := 1047) (k := 0) (As := [.int (sc.2 (i + 1)), .int (sc.2 (i + 2)), .int (sc.2 (i + 3))]) (st := []) ky_X11_must kl_L_131 (s_X11_must_0 (d := 3) hP (Nat.le_refl _) h1) rfl rfl rfl (hP.lt (by decide)) (by decide) (Nat.le_of_ble_eq_true rfl) hc hs dL_law_1047 ?_
  refine g_aload_n (pc := 1050) dL_law_1050 rfl rfl ?_
  refine g_aload_n (pc := 1051) dL_law_1051 rfl rfl ?_
  refine g_iload_n (pc := 1052) dL_law_1052 rfl rfl ?_
  refine g_iconst (pc := 1053) (v := 1) dL_law_1053 rfl ?_
  refine g_iadd (pc := 1054) dL_law_1054 ?_
  refine g_sld (pc := 1055) (j := i + 1) rfl (nI_add i 1) (by omega) (Nat.lt_of_le_of_lt hL (by decide)) dL_law_1055 ?_
  refine g_aload_n (pc := 1056) dL_law_1056 rfl rfl ?_
  refine g_iload_n (pc := 1057) dL_law_1057 rfl rfl ?_
  refine g_iconst (pc := 1058) (v := 2) dL_law_1058 rfl ?_
  refine g_iadd (pc := 1059) dL_law_1059 ?_
  refine g_sld (pc := 1060) (j := i + 2) rfl (nI_add i 2) (by omega) (Nat.lt_of_le_of_lt hL (by decide)) dL_law_1060 ?_
  refine g_aload_n (pc := 1061) dL_law_1061 rfl rfl ?_
  refine g_iload_n (pc := 1062) dL_law_1062 rfl rfl ?_
  refine g_iconst (pc := 1063) (v := 3) dL_law_1063 rfl ?_
  refine g_iadd (pc := 1064) dL_law_1064 ?_
  refine g_sld (pc := 1065) (j := i + 3) rfl (nI_add i 3) (by omega) (Nat.lt_of_le_of_lt hL (by decide)) dL_law_1065 ?_
  refine g_cVi (pc := 1066) (k := 55) (As := [.int (sc.2 (i + 1)), .int (sc.2 (i + 2)), .int (sc.2 (i + 3))]) (st := [.int r]) ky_X12_must kl_L_134 (s_X12_must_55 (d := 2) hP (Nat.le_refl _) h2) rfl rfl rfl (hP.lt (by decide)) (by decide) (Nat.le_of_ble_eq_true rfl) hc hs dL_law_1066 ?_
  refine g_icmp_eq (pc := 1069) (tgt := 1304) dL_law_1069 rfl (fun _ => next I2 h3) (fun c => absurd rfl c)
def am_op28 (RI : Bool → am_IT → Prop) : Prop := ∀ (b : Bool) (I : am_IT) (a1 a2 : Int32), RI b I → ∃ (r : Int32) (I1 : am_IT) (I2 : am_IT), F_X11_looks_0 I a1 a2 = some (r, I1) ∧ F_X12_looks_55 I1 a1 a2 = some (r, I2) ∧ RI b I2
set_option maxRecDepth 100000 in
set_option maxHeartbeats 4000000 in
theorem law_c28 {RI : Bool → am_IT → Prop} (ho : am_op28 RI) {sc : am_ST} {l : Launch} {Q : Option Value → Nat → am_PT → am_IT → Prop} {b : Bool} {i N : Nat} {P : am_PT} {I : am_IT} {nc ns : Nat} (hi : i + 6 ≤ sc.1) (hL : sc.1 ≤ 3072) (hP : am_Pl 94 N P) (hR : RI b I) (hc : nc ≤ 600000) (hs : ns ≤ 7302250)
    (next : ∀ I2 : am_IT, RI b I2 → G sc l 2048 600000 7302250 mL_law Q 1304 [.ref 1000030, .ref 0, .ref 55, .int (nI i)] [] N P I2 nc ns) : G sc l 2048 600000 7302250 mL_law Q 1074 [.ref 1000030, .ref 0, .ref 55, .int (nI i)] [] N P I nc ns := by
  obtain ⟨r, I1, I2, h1, h2, h3⟩ := ho b I (sc.2 (i + 1)) (sc.2 (i + 2)) hR
  refine g_aload_n (pc := 1074) dL_law_1074 rfl rfl ?_
  refine g_aload_n (pc := 1075) dL_law_1075 rfl rfl ?_
  refine g_iload_n (pc := 1076) dL_law_1076 rfl rfl ?_
  refine g_iconst (pc := 1077) (v := 1) dL_law_1077 rfl ?_
  refine g_iadd (pc := 1078) dL_law_1078 ?_
  refine g_sld (pc := 1079) (j := i + 1) rfl (nI_add i 1) (by omega) (Nat.lt_of_le_of_lt hL (by decide)) dL_law_1079 ?_
  refine g_aload_n (pc := 1080) dL_law_1080 rfl rfl ?_
  refine g_iload_n (pc := 1081) dL_law_1081 rfl rfl ?_
  refine g_iconst (pc := 1082) (v := 2) dL_law_1082 rfl ?_
  refine g_iadd (pc := 1083) dL_law_1083 ?_
  refine g_sld (pc := 1084) (j := i + 2) rfl (nI_add i 2) (by omega) (Nat.lt_of_le_of_lt hL (by decide)) dL_law_1084 ?_
  refine g_cVz (pc := 1085) (k := 0) (As := [.int (sc.2 (i + 1)), .int (sc.2 (i + 2))]) (st := []) ky_X11_looks kl_L_135 (s_X11_looks_0 (d := 3) hP (Nat.le_refl _) h1) rfl rfl rfl (hP.lt (by decide)) (by decide) (Nat.le_of_ble_eq_true rfl) hc hs dL_law_1085 ?_
  intro _
  refine g_aload_n (pc := 1088) dL_law_1088 rfl rfl ?_
  refine g_aload_n (pc := 1089) dL_law_1089 rfl rfl ?_
  refine g_iload_n (pc := 1090) dL_law_1090 rfl rfl ?_
  refine g_iconst (pc := 1091) (v := 1) dL_law_1091 rfl ?_
  refine g_iadd (pc := 1092) dL_law_1092 ?_
  refine g_sld (pc := 1093) (j := i + 1) rfl (nI_add i 1) (by omega) (Nat.lt_of_le_of_lt hL (by decide)) dL_law_1093 ?_
  refine g_aload_n (pc := 1094) dL_law_1094 rfl rfl ?_
  refine g_iload_n (pc := 1095) dL_law_1095 rfl rfl ?_
  refine g_iconst (pc := 1096) (v := 2) dL_law_1096 rfl ?_
  refine g_iadd (pc := 1097) dL_law_1097 ?_
  refine g_sld (pc := 1098) (j := i + 2) rfl (nI_add i 2) (by omega) (Nat.lt_of_le_of_lt hL (by decide)) dL_law_1098 ?_
  refine g_cVz (pc := 1099) (k := 55) (As := [.int (sc.2 (i + 1)), .int (sc.2 (i + 2))]) (st := [.int r]) ky_X12_looks kl_L_138 (s_X12_looks_55 (d := 2) hP (Nat.le_refl _) h2) rfl rfl rfl (hP.lt (by decide)) (by decide) (Nat.le_of_ble_eq_true rfl) hc hs dL_law_1099 ?_
  intro _
  refine g_icmp_eq (pc := 1102) (tgt := 1304) dL_law_1102 rfl (fun _ => next I2 h3) (fun c => absurd rfl c)
def am_op29 (RI : Bool → am_IT → Prop) : Prop := ∀ (b : Bool) (I : am_IT) (a1 a2 a3 : Int32), (a3 = 0 ∨ a3 = 1) → RI b I → ∃ (r : Int32) (I1 : am_IT) (I2 : am_IT), F_X11_link_0 I a1 a2 a3 = some (r, I1) ∧ F_X12_link_55 I1 a1 a2 a3 = some (r, I2) ∧ RI b I2
set_option maxRecDepth 100000 in
set_option maxHeartbeats 4000000 in
theorem law_c29 {RI : Bool → am_IT → Prop} (ho : am_op29 RI) {sc : am_ST} {l : Launch} {Q : Option Value → Nat → am_PT → am_IT → Prop} {b : Bool} {i N : Nat} {P : am_PT} {I : am_IT} {nc ns : Nat} (hi : i + 6 ≤ sc.1) (hL : sc.1 ≤ 3072) (hP : am_Pl 94 N P) (hR : RI b I) (hc : nc ≤ 600000) (hs : ns ≤ 7302250)
    (next : ∀ I2 : am_IT, RI b I2 → G sc l 2048 600000 7302250 mL_law Q 1304 [.ref 1000030, .ref 0, .ref 55, .int (nI i)] [] N P I2 nc ns) : G sc l 2048 600000 7302250 mL_law Q 1107 [.ref 1000030, .ref 0, .ref 55, .int (nI i)] [] N P I nc ns := by
  obtain ⟨r, I1, I2, h1, h2, h3⟩ := ho b I (sc.2 (i + 1)) (sc.2 (i + 2)) (am_bz (sc.2 (i + 3))) (am_bz01 _) hR
  refine g_aload_n (pc := 1107) dL_law_1107 rfl rfl ?_
  refine g_aload_n (pc := 1108) dL_law_1108 rfl rfl ?_
  refine g_iload_n (pc := 1109) dL_law_1109 rfl rfl ?_
  refine g_iconst (pc := 1110) (v := 1) dL_law_1110 rfl ?_
  refine g_iadd (pc := 1111) dL_law_1111 ?_
  refine g_sld (pc := 1112) (j := i + 1) rfl (nI_add i 1) (by omega) (Nat.lt_of_le_of_lt hL (by decide)) dL_law_1112 ?_
  refine g_aload_n (pc := 1113) dL_law_1113 rfl rfl ?_
  refine g_iload_n (pc := 1114) dL_law_1114 rfl rfl ?_
  refine g_iconst (pc := 1115) (v := 2) dL_law_1115 rfl ?_
  refine g_iadd (pc := 1116) dL_law_1116 ?_
  refine g_sld (pc := 1117) (j := i + 2) rfl (nI_add i 2) (by omega) (Nat.lt_of_le_of_lt hL (by decide)) dL_law_1117 ?_
  refine g_aload_n (pc := 1118) dL_law_1118 rfl rfl ?_
  refine g_iload_n (pc := 1119) dL_law_1119 rfl rfl ?_
  refine g_iconst (pc := 1120) (v := 3) dL_law_1120 rfl ?_
  refine g_iadd (pc := 1121) dL_law_1121 ?_
  refine g_sld (pc := 1122) (j := i + 3) rfl (nI_add i 3) (by omega) (Nat.lt_of_le_of_lt hL (by decide)) dL_law_1122 ?_
  refine g_bz (pc := 1123) (x := sc.2 (i + 3)) dL_law_1123 rfl dL_law_1126 dL_law_1127 rfl dL_law_1130 ?_
  refine g_cVz (pc := 1131) (k := 0) (As := [.int (sc.2 (i + 1)), .int (sc.2 (i + 2)), .int (am_bz (sc.2 (i + 3)))]) (st := []) ky_X11_link kl_L_139 (s_X11_link_0 (d := 3) hP (Nat.le_refl _) h1) rfl rfl rfl (hP.lt (by decide)) (by decide) (Nat.le_of_ble_eq_true rfl) hc hs dL_law_1131 ?_
  intro _
  refine g_aload_n (pc := 1134) dL_law_1134 rfl rfl ?_
  refine g_aload_n (pc := 1135) dL_law_1135 rfl rfl ?_
  refine g_iload_n (pc := 1136) dL_law_1136 rfl rfl ?_
  refine g_iconst (pc := 1137) (v := 1) dL_law_1137 rfl ?_
  refine g_iadd (pc := 1138) dL_law_1138 ?_
  refine g_sld (pc := 1139) (j := i + 1) rfl (nI_add i 1) (by omega) (Nat.lt_of_le_of_lt hL (by decide)) dL_law_1139 ?_
  refine g_aload_n (pc := 1140) dL_law_1140 rfl rfl ?_
  refine g_iload_n (pc := 1141) dL_law_1141 rfl rfl ?_
  refine g_iconst (pc := 1142) (v := 2) dL_law_1142 rfl ?_
  refine g_iadd (pc := 1143) dL_law_1143 ?_
  refine g_sld (pc := 1144) (j := i + 2) rfl (nI_add i 2) (by omega) (Nat.lt_of_le_of_lt hL (by decide)) dL_law_1144 ?_
  refine g_aload_n (pc := 1145) dL_law_1145 rfl rfl ?_
  refine g_iload_n (pc := 1146) dL_law_1146 rfl rfl ?_
  refine g_iconst (pc := 1147) (v := 3) dL_law_1147 rfl ?_
  refine g_iadd (pc := 1148) dL_law_1148 ?_
  refine g_sld (pc := 1149) (j := i + 3) rfl (nI_add i 3) (by omega) (Nat.lt_of_le_of_lt hL (by decide)) dL_law_1149 ?_
  refine g_bz (pc := 1150) (x := sc.2 (i + 3)) dL_law_1150 rfl dL_law_1153 dL_law_1154 rfl dL_law_1157 ?_
  refine g_cVz (pc := 1158) (k := 55) (As := [.int (sc.2 (i + 1)), .int (sc.2 (i + 2)), .int (am_bz (sc.2 (i + 3)))]) (st := [.int r]) ky_X12_link kl_L_142 (s_X12_link_55 (d := 2) hP (Nat.le_refl _) h2) rfl rfl rfl (hP.lt (by decide)) (by decide) (Nat.le_of_ble_eq_true rfl) hc hs dL_law_1158 ?_
  intro _
  refine g_icmp_eq (pc := 1161) (tgt := 1304) dL_law_1161 rfl (fun _ => next I2 h3) (fun c => absurd rfl c)
def am_op30 (RI : Bool → am_IT → Prop) : Prop := ∀ (b : Bool) (I : am_IT) (a1 a2 a3 a4 : Int32), RI b I → ∃ (r : Int32) (I1 : am_IT) (I2 : am_IT), F_X11_way_0 I a1 a2 a3 a4 = some (r, I1) ∧ F_X12_way_55 I1 a1 a2 a3 a4 = some (r, I2) ∧ RI b I2
set_option maxRecDepth 100000 in
set_option maxHeartbeats 4000000 in
theorem law_c30 {RI : Bool → am_IT → Prop} (ho : am_op30 RI) {sc : am_ST} {l : Launch} {Q : Option Value → Nat → am_PT → am_IT → Prop} {b : Bool} {i N : Nat} {P : am_PT} {I : am_IT} {nc ns : Nat} (hi : i + 6 ≤ sc.1) (hL : sc.1 ≤ 3072) (hP : am_Pl 94 N P) (hR : RI b I) (hc : nc ≤ 600000) (hs : ns ≤ 7302250)
    (next : ∀ I2 : am_IT, RI b I2 → G sc l 2048 600000 7302250 mL_law Q 1304 [.ref 1000030, .ref 0, .ref 55, .int (nI i)] [] N P I2 nc ns) : G sc l 2048 600000 7302250 mL_law Q 1166 [.ref 1000030, .ref 0, .ref 55, .int (nI i)] [] N P I nc ns := by
  obtain ⟨r, I1, I2, h1, h2, h3⟩ := ho b I (sc.2 (i + 1)) (sc.2 (i + 2)) (sc.2 (i + 3)) (sc.2 (i + 4)) hR
  refine g_aload_n (pc := 1166) dL_law_1166 rfl rfl ?_
  refine g_aload_n (pc := 1167) dL_law_1167 rfl rfl ?_
  refine g_iload_n (pc := 1168) dL_law_1168 rfl rfl ?_
  refine g_iconst (pc := 1169) (v := 1) dL_law_1169 rfl ?_
  refine g_iadd (pc := 1170) dL_law_1170 ?_
  refine g_sld (pc := 1171) (j := i + 1) rfl (nI_add i 1) (by omega) (Nat.lt_of_le_of_lt hL (by decide)) dL_law_1171 ?_
  refine g_aload_n (pc := 1172) dL_law_1172 rfl rfl ?_
  refine g_iload_n (pc := 1173) dL_law_1173 rfl rfl ?_
  refine g_iconst (pc := 1174) (v := 2) dL_law_1174 rfl ?_
  refine g_iadd (pc := 1175) dL_law_1175 ?_
  refine g_sld (pc := 1176) (j := i + 2) rfl (nI_add i 2) (by omega) (Nat.lt_of_le_of_lt hL (by decide)) dL_law_1176 ?_
  refine g_aload_n (pc := 1177) dL_law_1177 rfl rfl ?_
  refine g_iload_n (pc := 1178) dL_law_1178 rfl rfl ?_
  refine g_iconst (pc := 1179) (v := 3) dL_law_1179 rfl ?_
  refine g_iadd (pc := 1180) dL_law_1180 ?_
  refine g_sld (pc := 1181) (j := i + 3) rfl (nI_add i 3) (by omega) (Nat.lt_of_le_of_lt hL (by decide)) dL_law_1181 ?_
  refine g_aload_n (pc := 1182) dL_law_1182 rfl rfl ?_
  refine g_iload_n (pc := 1183) dL_law_1183 rfl rfl ?_
  refine g_iconst (pc := 1184) (v := 4) dL_law_1184 rfl ?_
  refine g_iadd (pc := 1185) dL_law_1185 ?_
  refine g_sld (pc := 1186) (j := i + 4) rfl (nI_add i 4) (by omega) (Nat.lt_of_le_of_lt hL (by decide)) dL_law_1186 ?_
  refine g_cVi (pc := 1187) (k := 0) (As := [.int (sc.2 (i + 1)), .int (sc.2 (i + 2)), .int (sc.2 (i + 3)), .int (sc.2 (i + 4))]) (st := []) ky_X11_way kl_L_143 (s_X11_way_0 (d := 69) hP (Nat.le_refl _) h1) rfl rfl rfl (hP.lt (by decide)) (by decide) (Nat.le_of_ble_eq_true rfl) hc hs dL_law_1187 ?_
  refine g_aload_n (pc := 1190) dL_law_1190 rfl rfl ?_
  refine g_aload_n (pc := 1191) dL_law_1191 rfl rfl ?_
  refine g_iload_n (pc := 1192) dL_law_1192 rfl rfl ?_
  refine g_iconst (pc := 1193) (v := 1) dL_law_1193 rfl ?_
  refine g_iadd (pc := 1194) dL_law_1194 ?_
  refine g_sld (pc := 1195) (j := i + 1) rfl (nI_add i 1) (by omega) (Nat.lt_of_le_of_lt hL (by decide)) dL_law_1195 ?_
  refine g_aload_n (pc := 1196) dL_law_1196 rfl rfl ?_
  refine g_iload_n (pc := 1197) dL_law_1197 rfl rfl ?_
  refine g_iconst (pc := 1198) (v := 2) dL_law_1198 rfl ?_
  refine g_iadd (pc := 1199) dL_law_1199 ?_
  refine g_sld (pc := 1200) (j := i + 2) rfl (nI_add i 2) (by omega) (Nat.lt_of_le_of_lt hL (by decide)) dL_law_1200 ?_
  refine g_aload_n (pc := 1201) dL_law_1201 rfl rfl ?_
  refine g_iload_n (pc := 1202) dL_law_1202 rfl rfl ?_
  refine g_iconst (pc := 1203) (v := 3) dL_law_1203 rfl ?_
  refine g_iadd (pc := 1204) dL_law_1204 ?_
  refine g_sld (pc := 1205) (j := i + 3) rfl (nI_add i 3) (by omega) (Nat.lt_of_le_of_lt hL (by decide)) dL_law_1205 ?_
  refine g_aload_n (pc := 1206) dL_law_1206 rfl rfl ?_
  refine g_iload_n (pc := 1207) dL_law_1207 rfl rfl ?_
  refine g_iconst (pc := 1208) (v := 4) dL_law_1208 rfl ?_
  refine g_iadd (pc := 1209) dL_law_1209 ?_
  refine g_sld (pc := 1210) (j := i + 4) rfl (nI_add i 4) (by omega) (Nat.lt_of_le_of_lt hL (by decide)) dL_law_1210 ?_
  refine g_cVi (pc := 1211) (k := 55) (As := [.int (sc.2 (i + 1)), .int (sc.2 (i + 2)), .int (sc.2 (i + 3)), .int (sc.2 (i + 4))]) (st := [.int r]) ky_X12_way kl_L_147 (s_X12_way_55 (d := 3) hP (Nat.le_refl _) h2) rfl rfl rfl (hP.lt (by decide)) (by decide) (Nat.le_of_ble_eq_true rfl) hc hs dL_law_1211 ?_
  refine g_icmp_eq (pc := 1214) (tgt := 1304) dL_law_1214 rfl (fun _ => next I2 h3) (fun c => absurd rfl c)
def am_op31 (RI : Bool → am_IT → Prop) : Prop := ∀ (b : Bool) (I : am_IT) (a1 : Int32), RI b I → ∃ (r : Int32) (I1 : am_IT) (I2 : am_IT), F_X11_years_0 I a1 = some (r, I1) ∧ F_X12_years_55 I1 a1 = some (r, I2) ∧ RI b I2
set_option maxRecDepth 100000 in
set_option maxHeartbeats 4000000 in
theorem law_c31 {RI : Bool → am_IT → Prop} (ho : am_op31 RI) {sc : am_ST} {l : Launch} {Q : Option Value → Nat → am_PT → am_IT → Prop} {b : Bool} {i N : Nat} {P : am_PT} {I : am_IT} {nc ns : Nat} (hi : i + 6 ≤ sc.1) (hL : sc.1 ≤ 3072) (hP : am_Pl 94 N P) (hR : RI b I) (hc : nc ≤ 600000) (hs : ns ≤ 7302250)
    (next : ∀ I2 : am_IT, RI b I2 → G sc l 2048 600000 7302250 mL_law Q 1304 [.ref 1000030, .ref 0, .ref 55, .int (nI i)] [] N P I2 nc ns) : G sc l 2048 600000 7302250 mL_law Q 1219 [.ref 1000030, .ref 0, .ref 55, .int (nI i)] [] N P I nc ns := by
  obtain ⟨r, I1, I2, h1, h2, h3⟩ := ho b I (sc.2 (i + 1)) hR
  refine g_aload_n (pc := 1219) dL_law_1219 rfl rfl ?_
  refine g_aload_n (pc := 1220) dL_law_1220 rfl rfl ?_
  refine g_iload_n (pc := 1221) dL_law_1221 rfl rfl ?_
  refine g_iconst (pc := 1222) (v := 1) dL_law_1222 rfl ?_
  refine g_iadd (pc := 1223) dL_law_1223 ?_
  refine g_sld (pc := 1224) (j := i + 1) rfl (nI_add i 1) (by omega) (Nat.lt_of_le_of_lt hL (by decide)) dL_law_1224 ?_
  refine g_cVi (pc := 1225) (k := 0) (As := [.int (sc.2 (i + 1))]) (st := []) ky_X11_years kl_L_148 (s_X11_years_0 (d := 7) hP (Nat.le_refl _) h1) rfl rfl rfl (hP.lt (by decide)) (by decide) (Nat.le_of_ble_eq_true rfl) hc hs dL_law_1225 ?_
  refine g_aload_n (pc := 1228) dL_law_1228 rfl rfl ?_
  refine g_aload_n (pc := 1229) dL_law_1229 rfl rfl ?_
  refine g_iload_n (pc := 1230) dL_law_1230 rfl rfl ?_
  refine g_iconst (pc := 1231) (v := 1) dL_law_1231 rfl ?_
  refine g_iadd (pc := 1232) dL_law_1232 ?_
  refine g_sld (pc := 1233) (j := i + 1) rfl (nI_add i 1) (by omega) (Nat.lt_of_le_of_lt hL (by decide)) dL_law_1233 ?_
  refine g_cVi (pc := 1234) (k := 55) (As := [.int (sc.2 (i + 1))]) (st := [.int r]) ky_X12_years kl_L_151 (s_X12_years_55 (d := 7) hP (Nat.le_refl _) h2) rfl rfl rfl (hP.lt (by decide)) (by decide) (Nat.le_of_ble_eq_true rfl) hc hs dL_law_1234 ?_
  refine g_icmp_eq (pc := 1237) (tgt := 1304) dL_law_1237 rfl (fun _ => next I2 h3) (fun c => absurd rfl c)
def am_op33 (RI : Bool → am_IT → Prop) : Prop := ∀ (b : Bool) (I : am_IT) (a1 : Int32), RI b I → ∃ (r : Int32) (I2 : am_IT), F_X11_look_0 I a1 = some r ∧ F_X12_look_55 I a1 = some (r, I2) ∧ RI b I2
set_option maxRecDepth 100000 in
set_option maxHeartbeats 4000000 in
theorem law_c33 {RI : Bool → am_IT → Prop} (ho : am_op33 RI) {sc : am_ST} {l : Launch} {Q : Option Value → Nat → am_PT → am_IT → Prop} {b : Bool} {i N : Nat} {P : am_PT} {I : am_IT} {nc ns : Nat} (hi : i + 6 ≤ sc.1) (hL : sc.1 ≤ 3072) (hP : am_Pl 94 N P) (hR : RI b I) (hc : nc ≤ 600000) (hs : ns ≤ 7302250)
    (next : ∀ I2 : am_IT, RI b I2 → G sc l 2048 600000 7302250 mL_law Q 1304 [.ref 1000030, .ref 0, .ref 55, .int (nI i)] [] N P I2 nc ns) : G sc l 2048 600000 7302250 mL_law Q 1281 [.ref 1000030, .ref 0, .ref 55, .int (nI i)] [] N P I nc ns := by
  obtain ⟨r, I2, h1, h2, h3⟩ := ho b I (sc.2 (i + 1)) hR
  refine g_aload_n (pc := 1281) dL_law_1281 rfl rfl ?_
  refine g_aload_n (pc := 1282) dL_law_1282 rfl rfl ?_
  refine g_iload_n (pc := 1283) dL_law_1283 rfl rfl ?_
  refine g_iconst (pc := 1284) (v := 1) dL_law_1284 rfl ?_
  refine g_iadd (pc := 1285) dL_law_1285 ?_
  refine g_sld (pc := 1286) (j := i + 1) rfl (nI_add i 1) (by omega) (Nat.lt_of_le_of_lt hL (by decide)) dL_law_1286 ?_
  refine g_cVi (pc := 1287) (k := 0) (As := [.int (sc.2 (i + 1))]) (st := []) ky_X11_look kl_L_157 (s_X11_look_0 (d := 2) hP (Nat.le_refl _) h1) rfl rfl rfl (hP.lt (by decide)) (by decide) (Nat.le_of_ble_eq_true rfl) hc hs dL_law_1287 ?_
  refine g_aload_n (pc := 1290) dL_law_1290 rfl rfl ?_
  refine g_aload_n (pc := 1291) dL_law_1291 rfl rfl ?_
  refine g_iload_n (pc := 1292) dL_law_1292 rfl rfl ?_
  refine g_iconst (pc := 1293) (v := 1) dL_law_1293 rfl ?_
  refine g_iadd (pc := 1294) dL_law_1294 ?_
  refine g_sld (pc := 1295) (j := i + 1) rfl (nI_add i 1) (by omega) (Nat.lt_of_le_of_lt hL (by decide)) dL_law_1295 ?_
  refine g_cVi (pc := 1296) (k := 55) (As := [.int (sc.2 (i + 1))]) (st := [.int r]) ky_X12_look kl_L_160 (s_X12_look_55 (d := 2) hP (Nat.le_refl _) h2) rfl rfl rfl (hP.lt (by decide)) (by decide) (Nat.le_of_ble_eq_true rfl) hc hs dL_law_1296 ?_
  refine g_icmp_eq (pc := 1299) (tgt := 1304) dL_law_1299 rfl (fun _ => next I2 h3) (fun c => absurd rfl c)
def am_op32 (RI : Bool → am_IT → Prop) : Prop := (∀ (P : am_PT) (I : am_IT) (a1 : Int32), (a1 = 0 ∨ a1 = 1) → am_PP true 116 P → RI true I → ∃ (r : Int32) (P1 : am_PT) (I1 I2 : am_IT), F_X11_image_0_116 P I a1 = some (r, 116, P1, I1) ∧ F_X12_image_55 I1 a1 = some (r, I2) ∧ am_PP true 116 P1 ∧ RI true I2) ∧
  (∀ (P : am_PT) (I : am_IT) (a1 : Int32), (a1 = 0 ∨ a1 = 1) → am_PP false 94 P → RI false I → ∃ (r : Int32) (b1 : Bool) (N1 : Nat) (P1 : am_PT) (I1 I2 : am_IT), F_X11_image_0_94 P I a1 = some (r, N1, P1, I1) ∧ F_X12_image_55 I1 a1 = some (r, I2) ∧ am_PP b1 N1 P1 ∧ RI b1 I2)
set_option maxRecDepth 100000 in
set_option maxHeartbeats 4000000 in
theorem law_c32 {RI : Bool → am_IT → Prop} (ho : am_op32 RI) {sc : am_ST} {l : Launch} {Q : Option Value → Nat → am_PT → am_IT → Prop} {b : Bool} {i N : Nat} {P : am_PT} {I : am_IT} {nc ns : Nat} (hi : i + 6 ≤ sc.1) (hL : sc.1 ≤ 3072) (hPP : am_PP b N P) (hR : RI b I) (hn : am_nn i nc ns)
    (next : ∀ (b1 : Bool) (N1 : Nat) (P1 : am_PT) (I2 : am_IT) (nc1 ns1 : Nat), am_PP b1 N1 P1 → RI b1 I2 → am_nn (i + 6) nc1 ns1 → G sc l 2048 600000 7302250 mL_law Q 1304 [.ref 1000030, .ref 0, .ref 55, .int (nI i)] [] N1 P1 I2 nc1 ns1) : G sc l 2048 600000 7302250 mL_law Q 1242 [.ref 1000030, .ref 0, .ref 55, .int (nI i)] [] N P I nc ns := by
  cases b with
  | true =>
    obtain rfl : N = 116 := hPP.2.1
    obtain ⟨r, P1, I1, I2, h1, h2, hP1, h3⟩ := ho.1 P I (am_bz (sc.2 (i + 1))) (am_bz01 _) hPP hR
    obtain ⟨hn1, hn2⟩ := hn
    refine g_aload_n (pc := 1242) dL_law_1242 rfl rfl ?_
    refine g_aload_n (pc := 1243) dL_law_1243 rfl rfl ?_
    refine g_iload_n (pc := 1244) dL_law_1244 rfl rfl ?_
    refine g_iconst (pc := 1245) (v := 1) dL_law_1245 rfl ?_
    refine g_iadd (pc := 1246) dL_law_1246 ?_
    refine g_sld (pc := 1247) (j := i + 1) rfl (nI_add i 1) (by omega) (Nat.lt_of_le_of_lt hL (by decide)) dL_law_1247 ?_
    refine g_bz (pc := 1248) (x := sc.2 (i + 1)) dL_law_1248 rfl dL_law_1251 dL_law_1252 rfl dL_law_1255 ?_
    refine g_callV (pc := 1256) (k := 0) (As := [.int (am_bz (sc.2 (i + 1)))]) (st := []) (mc' := 0) (ms' := 0) ky_X11_image kl_L_152 (s_X11_image_0_116 (d := 4) (Nat.le_refl _) h1) rfl rfl rfl (by decide) (by decide) (Nat.le_of_ble_eq_true rfl) (show nc + 0 ≤ 600000 by omega) (show ns + 0 ≤ 7302250 by omega) dL_law_1256 ?_
    rintro _ _ _ _ ⟨_, rfl, rfl, rfl, rfl⟩
    refine g_aload_n (pc := 1259) dL_law_1259 rfl rfl ?_
    refine g_aload_n (pc := 1260) dL_law_1260 rfl rfl ?_
    refine g_iload_n (pc := 1261) dL_law_1261 rfl rfl ?_
    refine g_iconst (pc := 1262) (v := 1) dL_law_1262 rfl ?_
    refine g_iadd (pc := 1263) dL_law_1263 ?_
    refine g_sld (pc := 1264) (j := i + 1) rfl (nI_add i 1) (by omega) (Nat.lt_of_le_of_lt hL (by decide)) dL_law_1264 ?_
    refine g_bz (pc := 1265) (x := sc.2 (i + 1)) dL_law_1265 rfl dL_law_1268 dL_law_1269 rfl dL_law_1272 ?_
    refine g_cVz (pc := 1273) (k := 55) (As := [.int (am_bz (sc.2 (i + 1)))]) (st := [.int r]) ky_X12_image kl_L_156 (s_X12_image_55 (d := 3) hP1.1 (Nat.le_refl _) h2) rfl rfl rfl (hP1.1.lt (by decide)) (by decide) (Nat.le_of_ble_eq_true rfl) (show nc + 0 ≤ 600000 by omega) (show ns + 0 ≤ 7302250 by omega) dL_law_1273 ?_
    intro _
    refine g_icmp_eq (pc := 1276) (tgt := 1304) dL_law_1276 rfl (fun _ => next _ _ _ _ _ _ hP1 h3 (⟨by omega, by omega⟩)) (fun c => absurd rfl c)
  | false =>
    obtain rfl : N = 94 := hPP.2.1
    obtain ⟨r, b1, N1, P1, I1, I2, h1, h2, hP1, h3⟩ := ho.2 P I (am_bz (sc.2 (i + 1))) (am_bz01 _) hPP hR
    obtain ⟨hn1, hn2⟩ := hn
    refine g_aload_n (pc := 1242) dL_law_1242 rfl rfl ?_
    refine g_aload_n (pc := 1243) dL_law_1243 rfl rfl ?_
    refine g_iload_n (pc := 1244) dL_law_1244 rfl rfl ?_
    refine g_iconst (pc := 1245) (v := 1) dL_law_1245 rfl ?_
    refine g_iadd (pc := 1246) dL_law_1246 ?_
    refine g_sld (pc := 1247) (j := i + 1) rfl (nI_add i 1) (by omega) (Nat.lt_of_le_of_lt hL (by decide)) dL_law_1247 ?_
    refine g_bz (pc := 1248) (x := sc.2 (i + 1)) dL_law_1248 rfl dL_law_1251 dL_law_1252 rfl dL_law_1255 ?_
    refine g_callV (pc := 1256) (k := 0) (As := [.int (am_bz (sc.2 (i + 1)))]) (st := []) (mc' := 22) (ms' := 948) ky_X11_image kl_L_152 (s_X11_image_0_94 (d := 4) (Nat.le_refl _) h1) rfl rfl rfl (by decide) (by decide) (Nat.le_of_ble_eq_true rfl) (show nc + 22 ≤ 600000 by omega) (show ns + 948 ≤ 7302250 by omega) dL_law_1256 ?_
    rintro _ _ _ _ ⟨_, rfl, rfl, rfl, rfl⟩
    refine g_aload_n (pc := 1259) dL_law_1259 rfl rfl ?_
    refine g_aload_n (pc := 1260) dL_law_1260 rfl rfl ?_
    refine g_iload_n (pc := 1261) dL_law_1261 rfl rfl ?_
    refine g_iconst (pc := 1262) (v := 1) dL_law_1262 rfl ?_
    refine g_iadd (pc := 1263) dL_law_1263 ?_
    refine g_sld (pc := 1264) (j := i + 1) rfl (nI_add i 1) (by omega) (Nat.lt_of_le_of_lt hL (by decide)) dL_law_1264 ?_
    refine g_bz (pc := 1265) (x := sc.2 (i + 1)) dL_law_1265 rfl dL_law_1268 dL_law_1269 rfl dL_law_1272 ?_
    refine g_cVz (pc := 1273) (k := 55) (As := [.int (am_bz (sc.2 (i + 1)))]) (st := [.int r]) ky_X12_image kl_L_156 (s_X12_image_55 (d := 3) hP1.1 (Nat.le_refl _) h2) rfl rfl rfl (hP1.1.lt (by decide)) (by decide) (Nat.le_of_ble_eq_true rfl) (show nc + 22 ≤ 600000 by omega) (show ns + 948 ≤ 7302250 by omega) dL_law_1273 ?_
    intro _
    refine g_icmp_eq (pc := 1276) (tgt := 1304) dL_law_1276 rfl (fun _ => next _ _ _ _ _ _ hP1 h3 (⟨by omega, by omega⟩)) (fun c => absurd rfl c)
