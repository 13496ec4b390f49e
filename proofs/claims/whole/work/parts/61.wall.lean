theorem tn {a p : Nat} (ha : a < 2 ^ 31) (h0 : 0 < p) (hp : p < 2 ^ 31) : nI a - nI a / nI p * nI p = nI (a % p) := by
  rw [pk_div ha h0 hp, pk_mul, pk_sub (Nat.div_mul_le_self a p)]
  exact congrArg nI (by rw [Nat.mul_comm, ← Nat.mod_eq_sub_mul_div])
def fF (u : Nat) (n s x pt yr : Int32) : Nat → Int32
  | 0 => nI u
  | 1 => n
  | 2 => s
  | 3 => x
  | 4 => pt
  | _ => yr
/-- the colour of a wall that somebody sees, by the method m -/
def dW (pt : Int32) (y : Nat → Int32) (s : Nat → Nat → Int32) (c p u yr m : Nat) : Int32 :=
  if m = 0 then nI (fv (s (fv y (p - 1))) (c - 1))
  else if m = 4 then (if y ((yr + u) % p) ≤ 0 then pt else nI (fv (s ((yr + u) % p)) (c - 1)))
  else if m = 5 then pt
  else nI (fv (fun k => pS y s c m k p) (c - 1))
/-- ... of any wall -/
def dC (ls : List (Nat × List rOp)) (pt : Int32) (y : Nat → Int32) (s : Nat → Nat → Int32) (c p u yr : Nat) : Int32 :=
  if cN y p = 0 then pt else dW pt y s c p u yr (pkM (fF u (nI (cN y p)) (fS y p) (fX y p) pt (nI yr)) ls)
theorem e_yo {I : am_IT} {j u h : Nat} (hj : j < 7) (hu : u < 7) (hh : h < 8) (e4 : I 4 j = nI h) : F_X8_yardsOf_23 I (nI j) (nI u) = some (I 24 (7 * h + u)) := by
  unfold F_X8_yardsOf_23
  rw [if_pos (am_ix_nI hj (by decide)), nI_clamp (by omega), e4, m7, if_pos (am_ix_nI (by omega) (by decide)), nI_clamp (by omega)]
theorem fJ_k (I : am_IT) (y : Nat → Int32) (p u : Nat) {k : Nat} (h : k ≠ 28) : (fJ I y p u) k = I k := by
  unfold fJ
  rw [up2_k _ _ h, up2_k _ _ h, up2_k _ _ h, up2_k _ _ h, up2_k _ _ h, up2_k _ _ h]
theorem mJ_k (I : am_IT) (u : Nat) (n s x : Int32) {k : Nat} (h : k ≠ 81) : (mJ I u n s x) k = I k := by
  unfold mJ
  rw [up2_k _ _ h, up2_k _ _ h, up2_k _ _ h, up2_k _ _ h, up2_k _ _ h, up2_k _ _ h]
theorem pkM_6 (F : Nat → Int32) : ∀ {ls : List (Nat × List rOp)}, (∀ (l m : Nat) (code : List rOp), ls[l]? = some (m, code) → m < 6) → pkM F ls < 6
  | [], _ => by show 5 < 6; decide
  | (m, code) :: ls, h => by
    have ih := pkM_6 F (ls := ls) (fun l m c hl => h (l + 1) m c (by simpa using hl))
    have h0 := h 0 m code rfl
    show (if _ then m else pkM F ls) < 6
    split
    · exact h0
    · exact ih
theorem e_dw_8 {I : am_IT} {p u c yr w ln : Nat} {y : Nat → Int32} {ls : List (Nat × List rOp)} {lw lf lt : Nat → Int32} (hp : I 1 4 = nI p) (hp7 : p ≤ 7) (hc : I 1 0 = nI c) (h1 : 2 ≤ c) (h2 : c ≤ 4) (hyr : I 1 2 = nI yr) (hyb : yr ≤ 1000) (hu : u < 7)
    (hY : ∀ j, j < p → ∃ h, h < 8 ∧ I 4 j = nI h ∧ I 24 (7 * h + u) = y j) (h0 : ∀ j, j < p → 0 ≤ y j) (hlen : ls.length = ln) (h16 : ln ≤ 16) (h11 : I 11 0 = nI ln)
    (q1 : ∀ (l m : Nat) (code : List rOp), ls[l]? = some (m, code) → m < 6 ∧ I 12 l = nI (261 + m) ∧ lw l = nI (1 + m) ∧ (∀ o ∈ code, rOpOk o) ∧ (code = [] ∨ rRun code [] = some [true]) ∧
    I 13 l = nI ((ls.take (l + 1)).map (fun q => q.2.length)).sum ∧ lf l = nI ((ls.take l).map (fun q => (rRefs q.2).length)).sum ∧ lt l = nI ((ls.take (l + 1)).map (fun q => (rRefs q.2).length)).sum)
    (q2 : (ls.flatMap (fun q => q.2)).length ≤ 400) (q5 : ∀ k o, (ls.flatMap (fun q => q.2))[k]? = some o → I 14 k = nI (16 * o.2 + o.1)) :
    ∃ J, F_X2_decideWall_25_8 I (nI u) = some (dC ls (I 3 u) y (fun i k => I 8 (4 * i + k)) c p u yr, J) ∧ ∀ k, k ≠ 28 → k ≠ 29 → J k = I k := by
  have hy : ∀ (K : am_IT), K 4 = I 4 → K 24 = I 24 → ∀ j, j < p → F_X8_yardsOf_23 K (nI j) (nI u) = some (y j) := by
    intro K k4 k24 j hj
    obtain ⟨h, hh, e4, e24⟩ := hY j hj
    rw [e_yo (by omega) hu hh (by rw [k4]; exact e4), k24, e24]
  unfold F_X2_decideWall_25_8
  rw [e_gf hp hp7 hu (hy I rfl rfl) h0, am_b1_s, if_pos (by decide), show (fJ I y p u) 28 (1 : Int32).toNatClampNeg = nI (cN y p) from rfl]
  have hcn := cN_le y p
  by_cases z : cN y p = 0
  · refine ⟨fJ I y p u, ?_, fun k h28 _ => fJ_k I y p u h28⟩
    unfold dC
    rw [if_pos z, if_pos (show nI (cN y p) = 0 by rw [z]; rfl), if_pos (am_ix_nI hu (by decide)), nI_clamp (by omega)]
    rfl
  · have hp1 : 1 ≤ p := by omega
    obtain ⟨f', hf'⟩ := e_cm (I := fJ I y p u) (F := fF u (nI (cN y p)) (fS y p) (fX y p) (I 3 u) (nI yr)) hlen h16 h11 q1 q2 q5 (by
      intro j hj
      rcases (show j = 0 ∨ j = 1 ∨ j = 2 ∨ j = 3 ∨ j = 4 ∨ j = 5 by omega) with rfl | rfl | rfl | rfl | rfl | rfl
      · rfl
      · rfl
      · rfl
      · rfl
      · rfl
      · exact hyr) ((fJ I y p u) 29)
    rw [st2_I] at hf'
    rw [if_neg (nI_ne0 (by omega) (by omega)), hf', am_b2_s]
    have hm6 : pkM (fF u (nI (cN y p)) (fS y p) (fX y p) (I 3 u) (nI yr)) ls < 6 := pkM_6 _ (fun l m code h => (q1 l m code h).1)
    unfold dC
    rw [if_neg z]
    generalize pkM (fF u (nI (cN y p)) (fS y p) (fX y p) (I 3 u) (nI yr)) ls = m at hm6 ⊢
    have hyK := hy (st2 (fJ I y p u) 29 f') rfl rfl
    have hfv : ∀ q, q < 7 → F_X9_favourite_1_8 (st2 (fJ I y p u) 29 f') (nI q) = some (nI (fv (fun k => I 8 (4 * q + k)) (c - 1))) := fun q hq => e_fav_8 (I := st2 (fJ I y p u) 29 f') hc h1 h2 hq
    have hne : ∀ n, n < 6 → ¬ m = n → ¬ nI (261 + m) = nI (261 + n) := fun n hn h => mk_eq (by omega) (by omega) h
    refine ⟨st2 (fJ I y p u) 29 f', ?_, fun k h28 h29 => (st2_k _ _ h29).trans (fJ_k I y p u h28)⟩
    have hpt : (st2 (fJ I y p u) 29 f') 3 u = I 3 u := rfl
    rcases (show m = 0 ∨ m = 1 ∨ m = 2 ∨ m = 3 ∨ m = 4 ∨ m = 5 by omega) with rfl | rfl | rfl | rfl | rfl | rfl
    · have hl := fv_le y (p - 1)
      rw [if_pos (show nI (261 + 0) = (261 : Int32) from rfl), e_sm (I := st2 (fJ I y p u) 29 f') hp hp7 hp1 hyK, am_b1_s, hfv _ (by omega), am_b1_s]
      rfl
    · rw [if_neg (show ¬ nI (261 + 1) = (261 : Int32) by decide), if_pos (show nI (261 + 1) = (262 : Int32) from rfl), e_cm_8 (I := st2 (fJ I y p u) 29 f') hp hp7 hc h1 h2 (by decide) hyK h0, am_b1_s]
      rfl
    · rw [if_neg (show ¬ nI (261 + 2) = (261 : Int32) by decide), if_neg (show ¬ nI (261 + 2) = (262 : Int32) by decide), if_pos (show nI (261 + 2) = (263 : Int32) from rfl), e_cm_8 (I := st2 (fJ I y p u) 29 f') hp hp7 hc h1 h2 (by decide) hyK h0, am_b1_s]
      rfl
    · rw [if_neg (show ¬ nI (261 + 3) = (261 : Int32) by decide), if_neg (show ¬ nI (261 + 3) = (262 : Int32) by decide), if_neg (show ¬ nI (261 + 3) = (263 : Int32) by decide), if_pos (show nI (261 + 3) = (264 : Int32) from rfl), e_cm_8 (I := st2 (fJ I y p u) 29 f') hp hp7 hc h1 h2 (by decide) hyK h0, am_b1_s]
      rfl
    · have hq : (yr + u) % p < p := Nat.mod_lt _ hp1
      rw [if_neg (show ¬ nI (261 + 4) = (261 : Int32) by decide), if_neg (show ¬ nI (261 + 4) = (262 : Int32) by decide), if_neg (show ¬ nI (261 + 4) = (263 : Int32) by decide), if_neg (show ¬ nI (261 + 4) = (264 : Int32) by decide), if_pos (show nI (261 + 4) = (265 : Int32) from rfl)]
      have et : F_X2_colourByTurn_25_8 (st2 (fJ I y p u) 29 f') (nI u) = some (if y ((yr + u) % p) ≤ 0 then I 3 u else nI (fv (fun k => I 8 (4 * ((yr + u) % p) + k)) (c - 1))) := by
        unfold F_X2_colourByTurn_25_8
        rw [show (st2 (fJ I y p u) 29 f') 1 4 = nI p from hp, show (st2 (fJ I y p u) 29 f') 1 2 = nI yr from hyr, if_neg (nI_ne0 hp1 (by omega)), if_pos (nI_ne0 hp1 (by omega)), nI_add, tn (by omega) hp1 (by omega), am_let_s, hyK _ hq, am_b1_s]
        by_cases l : y ((yr + u) % p) ≤ 0
        · rw [if_pos l, if_pos l, if_pos (am_ix_nI hu (by decide)), nI_clamp (by omega)]; rfl
        · rw [if_neg l, if_neg l, hfv _ (by omega), am_b1_s]
      rw [et, am_b1_s]
      rfl
    · rw [if_neg (show ¬ nI (261 + 5) = (261 : Int32) by decide), if_neg (show ¬ nI (261 + 5) = (262 : Int32) by decide), if_neg (show ¬ nI (261 + 5) = (263 : Int32) by decide), if_neg (show ¬ nI (261 + 5) = (264 : Int32) by decide), if_neg (show ¬ nI (261 + 5) = (265 : Int32) by decide), if_pos (show am_out (nI (261 + 5)) (261) (265) = true by decide), if_pos (am_ix_nI hu (by decide)), nI_clamp (by omega)]
      rfl
theorem e_dw_27 {I : am_IT} {p u c yr w ln : Nat} {y : Nat → Int32} {ls : List (Nat × List rOp)} {lw lf lt : Nat → Int32} (hp : I 1 4 = nI p) (hp7 : p ≤ 7) (hc : I 1 0 = nI c) (h1 : 2 ≤ c) (h2 : c ≤ 4) (hyr : I 1 2 = nI yr) (hyb : yr ≤ 1000) (hu : u < 7)
    (hY : ∀ j, j < p → ∃ h, h < 8 ∧ I 4 j = nI h ∧ I 24 (7 * h + u) = y j) (h0 : ∀ j, j < p → 0 ≤ y j) (hlen : ls.length = ln) (h16 : ln ≤ 16) (h11 : I 11 0 = nI ln)
    (q1 : ∀ (l m : Nat) (code : List rOp), ls[l]? = some (m, code) → m < 6 ∧ I 12 l = nI (261 + m) ∧ lw l = nI (1 + m) ∧ (∀ o ∈ code, rOpOk o) ∧ (code = [] ∨ rRun code [] = some [true]) ∧
    I 13 l = nI ((ls.take (l + 1)).map (fun q => q.2.length)).sum ∧ lf l = nI ((ls.take l).map (fun q => (rRefs q.2).length)).sum ∧ lt l = nI ((ls.take (l + 1)).map (fun q => (rRefs q.2).length)).sum)
    (q2 : (ls.flatMap (fun q => q.2)).length ≤ 400) (q5 : ∀ k o, (ls.flatMap (fun q => q.2))[k]? = some o → I 14 k = nI (16 * o.2 + o.1)) :
    ∃ J, F_X2_decideWall_25_27 I (nI u) = some (dC ls (I 3 u) y (fun i k => I 27 (4 * i + k)) c p u yr, J) ∧ ∀ k, k ≠ 28 → k ≠ 29 → J k = I k := by
  have hy : ∀ (K : am_IT), K 4 = I 4 → K 24 = I 24 → ∀ j, j < p → F_X8_yardsOf_23 K (nI j) (nI u) = some (y j) := by
    intro K k4 k24 j hj
    obtain ⟨h, hh, e4, e24⟩ := hY j hj
    rw [e_yo (by omega) hu hh (by rw [k4]; exact e4), k24, e24]
  unfold F_X2_decideWall_25_27
  rw [e_gf hp hp7 hu (hy I rfl rfl) h0, am_b1_s, if_pos (by decide), show (fJ I y p u) 28 (1 : Int32).toNatClampNeg = nI (cN y p) from rfl]
  have hcn := cN_le y p
  by_cases z : cN y p = 0
  · refine ⟨fJ I y p u, ?_, fun k h28 _ => fJ_k I y p u h28⟩
    unfold dC
    rw [if_pos z, if_pos (show nI (cN y p) = 0 by rw [z]; rfl), if_pos (am_ix_nI hu (by decide)), nI_clamp (by omega)]
    rfl
  · have hp1 : 1 ≤ p := by omega
    obtain ⟨f', hf'⟩ := e_cm (I := fJ I y p u) (F := fF u (nI (cN y p)) (fS y p) (fX y p) (I 3 u) (nI yr)) hlen h16 h11 q1 q2 q5 (by
      intro j hj
      rcases (show j = 0 ∨ j = 1 ∨ j = 2 ∨ j = 3 ∨ j = 4 ∨ j = 5 by omega) with rfl | rfl | rfl | rfl | rfl | rfl
      · rfl
      · rfl
      · rfl
      · rfl
      · rfl
      · exact hyr) ((fJ I y p u) 29)
    rw [st2_I] at hf'
    rw [if_neg (nI_ne0 (by omega) (by omega)), hf', am_b2_s]
    have hm6 : pkM (fF u (nI (cN y p)) (fS y p) (fX y p) (I 3 u) (nI yr)) ls < 6 := pkM_6 _ (fun l m code h => (q1 l m code h).1)
    unfold dC
    rw [if_neg z]
    generalize pkM (fF u (nI (cN y p)) (fS y p) (fX y p) (I 3 u) (nI yr)) ls = m at hm6 ⊢
    have hyK := hy (st2 (fJ I y p u) 29 f') rfl rfl
    have hfv : ∀ q, q < 7 → F_X9_favourite_1_27 (st2 (fJ I y p u) 29 f') (nI q) = some (nI (fv (fun k => I 27 (4 * q + k)) (c - 1))) := fun q hq => e_fav_27 (I := st2 (fJ I y p u) 29 f') hc h1 h2 hq
    have hne : ∀ n, n < 6 → ¬ m = n → ¬ nI (261 + m) = nI (261 + n) := fun n hn h => mk_eq (by omega) (by omega) h
    refine ⟨st2 (fJ I y p u) 29 f', ?_, fun k h28 h29 => (st2_k _ _ h29).trans (fJ_k I y p u h28)⟩
    have hpt : (st2 (fJ I y p u) 29 f') 3 u = I 3 u := rfl
    rcases (show m = 0 ∨ m = 1 ∨ m = 2 ∨ m = 3 ∨ m = 4 ∨ m = 5 by omega) with rfl | rfl | rfl | rfl | rfl | rfl
    · have hl := fv_le y (p - 1)
      rw [if_pos (show nI (261 + 0) = (261 : Int32) from rfl), e_sm (I := st2 (fJ I y p u) 29 f') hp hp7 hp1 hyK, am_b1_s, hfv _ (by omega), am_b1_s]
      rfl
    · rw [if_neg (show ¬ nI (261 + 1) = (261 : Int32) by decide), if_pos (show nI (261 + 1) = (262 : Int32) from rfl), e_cm_27 (I := st2 (fJ I y p u) 29 f') hp hp7 hc h1 h2 (by decide) hyK h0, am_b1_s]
      rfl
    · rw [if_neg (show ¬ nI (261 + 2) = (261 : Int32) by decide), if_neg (show ¬ nI (261 + 2) = (262 : Int32) by decide), if_pos (show nI (261 + 2) = (263 : Int32) from rfl), e_cm_27 (I := st2 (fJ I y p u) 29 f') hp hp7 hc h1 h2 (by decide) hyK h0, am_b1_s]
      rfl
    · rw [if_neg (show ¬ nI (261 + 3) = (261 : Int32) by decide), if_neg (show ¬ nI (261 + 3) = (262 : Int32) by decide), if_neg (show ¬ nI (261 + 3) = (263 : Int32) by decide), if_pos (show nI (261 + 3) = (264 : Int32) from rfl), e_cm_27 (I := st2 (fJ I y p u) 29 f') hp hp7 hc h1 h2 (by decide) hyK h0, am_b1_s]
      rfl
    · have hq : (yr + u) % p < p := Nat.mod_lt _ hp1
      rw [if_neg (show ¬ nI (261 + 4) = (261 : Int32) by decide), if_neg (show ¬ nI (261 + 4) = (262 : Int32) by decide), if_neg (show ¬ nI (261 + 4) = (263 : Int32) by decide), if_neg (show ¬ nI (261 + 4) = (264 : Int32) by decide), if_pos (show nI (261 + 4) = (265 : Int32) from rfl)]
      have et : F_X2_colourByTurn_25_27 (st2 (fJ I y p u) 29 f') (nI u) = some (if y ((yr + u) % p) ≤ 0 then I 3 u else nI (fv (fun k => I 27 (4 * ((yr + u) % p) + k)) (c - 1))) := by
        unfold F_X2_colourByTurn_25_27
        rw [show (st2 (fJ I y p u) 29 f') 1 4 = nI p from hp, show (st2 (fJ I y p u) 29 f') 1 2 = nI yr from hyr, if_neg (nI_ne0 hp1 (by omega)), if_pos (nI_ne0 hp1 (by omega)), nI_add, tn (by omega) hp1 (by omega), am_let_s, hyK _ hq, am_b1_s]
        by_cases l : y ((yr + u) % p) ≤ 0
        · rw [if_pos l, if_pos l, if_pos (am_ix_nI hu (by decide)), nI_clamp (by omega)]; rfl
        · rw [if_neg l, if_neg l, hfv _ (by omega), am_b1_s]
      rw [et, am_b1_s]
      rfl
    · rw [if_neg (show ¬ nI (261 + 5) = (261 : Int32) by decide), if_neg (show ¬ nI (261 + 5) = (262 : Int32) by decide), if_neg (show ¬ nI (261 + 5) = (263 : Int32) by decide), if_neg (show ¬ nI (261 + 5) = (264 : Int32) by decide), if_neg (show ¬ nI (261 + 5) = (265 : Int32) by decide), if_pos (show am_out (nI (261 + 5)) (261) (265) = true by decide), if_pos (am_ix_nI hu (by decide)), nI_clamp (by omega)]
      rfl
