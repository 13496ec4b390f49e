/-! text: how the class reads -/
theorem nI_or (a b : Nat) : nI a ||| nI b = nI (a ||| b) := by
  apply b_ext
  intro i hi
  rw [b_or, b_nI a hi, b_nI b hi, b_nI _ hi, Nat.testBit_or]
theorem nI_enc {a b : Nat} (hb : b < 16) : (nI a <<< ((4 : Int32) &&& 31)) ||| nI b = nI (16 * a + b) := by
  have e : nI a <<< ((4 : Int32) &&& 31) = nI (a <<< 4) := by
    apply b_ext
    intro i hi
    rw [show (4 : Int32) = nI 4 from rfl, b_shl 4 (by decide) _ hi, b_nI _ (show i - 4 < 32 by omega), b_nI _ hi, Nat.testBit_shiftLeft]
  rw [e, nI_or, ← Nat.shiftLeft_add_eq_or_of_lt (show b < 2 ^ 4 from hb), Nat.shiftLeft_eq, Nat.mul_comm]
def cS (m : Nat) (T : Nat → Int32) (S : Nat → Nat) (H : am_IT) (k : Nat) (L : List rOp) (I : am_IT) : Prop :=
  (I 47 5 = nI (m + 1) ∧ (∀ j, j ≤ m → I 52 j = T j ∧ I 53 j = nI (S j)) ∧ (∀ q, q ≠ 47 → q ≠ 48 → q ≠ 51 → I q = H q) ∧ I 48 0 = H 48 0 ∧ I 47 1 = H 47 1 ∧ I 47 2 = H 47 2) ∧ k ≤ m ∧ I 47 6 = nI k ∧ I 47 7 = T k ∧ I 48 1 = nI L.length ∧ ∀ i o, L[i]? = some o → I 51 i = nI (16 * o.2 + o.1)
def cF (S : Nat → Nat) (H : am_IT) (f k : Nat) (I : am_IT) : Prop := (∀ q, (q < 47 ∨ 53 < q) → I q = H q) ∧ I 47 1 = nI f ∧ I 47 2 = nI (S k)
def cR (m : Nat) (T : Nat → Int32) (S : Nat → Nat) (H : am_IT) (out : gO) (r : Int32) (I : am_IT) : Prop := match out with
  | .inl (k, L) => r = 1 ∧ cS m T S H k L I
  | .inr (f, k) => r = 0 ∧ cF S H f k I
theorem c_adv {m : Nat} {T : Nat → Int32} {S : Nat → Nat} {H : am_IT} {k : Nat} {L : List rOp} {I : am_IT} (hm : m ≤ 400) (C : cS m T S H k L I) (hk : k < m) : ∃ I', F_X7_advance_47 I = some I' ∧ cS m T S H (k + 1) L I' := by
  obtain ⟨⟨c1, c2, c3, c4, c5, c6⟩, c7, c8, c9, c10, c11⟩ := C
  unfold F_X7_advance_47
  rw [c1, c8, nI_1, if_neg (nI_ge (by omega) (by omega)), am_let_s, am_b1_s, show (up2 I 47 6 (nI (k + 1))) 47 6 = nI (k + 1) from up2_s _ _ _ _, if_pos (am_ix_nI (by omega) (by decide)), am_let_s, nI_clamp (by omega)]
  refine ⟨_, rfl, ⟨c1, c2, fun q h1 h2 h3 => ?_, c4, c5, c6⟩, hk, rfl, (c2 (k + 1) hk).1, c10, c11⟩
  rw [up2_k _ _ h1, up2_k _ _ h1]; exact c3 q h1 h2 h3
theorem c_ref {m : Nat} {T : Nat → Int32} {S : Nat → Nat} {H : am_IT} {k : Nat} {L : List rOp} {I : am_IT} (hm : m ≤ 400) (C : cS m T S H k L I) {v : Int32} {f : Nat} (hv : v = nI f) : ∃ I', F_X7_refuse_47 I v = some (0, I') ∧ cF S H f k I' := by
  obtain ⟨⟨c1, c2, c3, c4, c5, c6⟩, c7, c8, c9, c10, c11⟩ := C
  unfold F_X7_refuse_47
  rw [am_let_s, show (up2 I 47 1 v) 47 6 = nI k from c8, if_pos (am_ix_nI (by omega) (by decide)), am_let_s, nI_clamp (by omega)]
  refine ⟨_, rfl, fun q h => ?_, hv, (c2 k c7).2⟩
  rw [up2_k _ _ (by omega), up2_k _ _ (by omega)]; exact c3 q (by omega) (by omega) (by omega)
theorem c_add {m : Nat} {T : Nat → Int32} {S : Nat → Nat} {H : am_IT} {k : Nat} {L : List rOp} {I : am_IT} (C : cS m T S H k L I) (o : rOp) {a b : Int32} (ha : a = nI o.1) (hb : b = nI o.2) (h1 : o.1 < 15) (hL : L.length < 400) : ∃ I', F_X6_addStep_48 I a b = some I' ∧ cS m T S H k (L ++ [o]) I' := by
  obtain ⟨⟨c1, c2, c3, c4, c5, c6⟩, c7, c8, c9, c10, c11⟩ := C
  unfold F_X6_addStep_48
  rw [ha, hb, if_neg (show ¬ nI o.1 = 15 from fun z => by have := (nI_eq (a := o.1) (b := 15) (by omega) (by decide)).mp z; omega), c10, if_neg (show ¬ (400 : Int32) ≤ nI L.length from nI_ge (b := 400) hL (by decide)), if_pos (am_ix_nI hL (by decide)), am_let_s, nI_clamp (by omega), show (up2 I 51 L.length (nI o.2 <<< ((4 : Int32) &&& 31) ||| nI o.1)) 48 1 = nI L.length from c10, am_let_s, nI_enc (by omega), nI_1]
  refine ⟨_, rfl, ⟨c1, c2, fun q h1 h2 h3 => ?_, c4, c5, c6⟩, c7, c8, c9, ?_, fun i x hx => ?_⟩
  · rw [up2_k _ _ h2, up2_k _ _ h3]; exact c3 q h1 h2 h3
  · rw [up2_s, List.length_append]; rfl
  · rw [up2_k _ _ (show (51 : Nat) ≠ 48 by decide), up2_r]
    by_cases z : i = L.length
    · subst z
      rw [List.getElem?_append_right (Nat.le_refl _), Nat.sub_self] at hx
      cases hx
      rw [if_pos rfl]
    · rw [if_neg z]
      by_cases g : i < L.length
      · rw [List.getElem?_append_left g] at hx
        exact c11 i x hx
      · rw [List.getElem?_append_right (by omega)] at hx
        obtain ⟨p, hp⟩ : ∃ p, i - L.length = p + 1 := ⟨i - L.length - 1, by omega⟩
        rw [hp] at hx
        cases hx
theorem c_unit {m : Nat} {T : Nat → Int32} {S : Nat → Nat} {H : am_IT} {k : Nat} {L : List rOp} {I : am_IT} (hm : m ≤ 400) (hT : ∀ k, okT (T k)) (hT3 : T m = 300) (C : cS m T S H k L I) (hL : L.length ≤ k) : ∃ r I', F_X7_readUnit_47 I = some (r, I') ∧ cR m T S H (match un (T k) with
    | none => .inr (1, k)
    | some o => .inl (k + 1, L ++ [o])) r I' := by
  have c9 : I 47 7 = T k := C.2.2.2.1
  have c7 : k ≤ m := C.2.1
  unfold F_X7_readUnit_47
  rw [c9]
  cases hu : un (T k) with
  | some o =>
    obtain ⟨u1, u2, u3, u4⟩ := un_s (hT k) hu
    have hk : k < m := Nat.lt_of_le_of_ne c7 (fun z => u3 (by rw [z]; exact hT3))
    rcases u4 with ⟨x, hx, ht, rfl⟩ | ⟨x, hx, ht, rfl⟩
    · rw [ht, if_neg (show ¬ nI (1000 + x) < (1000 : Int32) from fun z => by have := (nI_ltI (a := 1000 + x) (b := 1000) (by omega) (by decide)).mp z; omega), show (1000 : Int32) = nI 1000 from rfl, pk_sub (by omega), show 1000 + x - 1000 = x by omega]
      obtain ⟨I1, e1, C1⟩ := c_add C (0, x) (a := 0) rfl rfl (by show 0 < 15; decide) (by omega)
      obtain ⟨I2, e2, C2⟩ := c_adv hm C1 hk
      rw [e1, am_b1_s, e2, am_b1_s]
      exact ⟨_, _, rfl, rfl, C2⟩
    · rw [ht, if_pos (show nI (267 + x) < (1000 : Int32) from nI_lt (b := 1000) (by omega) (by decide)), if_neg (show ¬ nI (267 + x) < (267 : Int32) from fun z => by have := (nI_ltI (a := 267 + x) (b := 267) (by omega) (by decide)).mp z; omega), if_neg (show ¬ (272 : Int32) < nI (267 + x) from fun z => by have := (nI_ltI (a := 272) (b := 267 + x) (by decide) (by omega)).mp z; omega), show (267 : Int32) = nI 267 from rfl, pk_sub (by omega), show 267 + x - 267 = x by omega]
      obtain ⟨I1, e1, C1⟩ := c_add C (1, x) (a := 1) rfl rfl (by show 1 < 15; decide) (by omega)
      obtain ⟨I2, e2, C2⟩ := c_adv hm C1 hk
      rw [e1, am_b1_s, e2, am_b1_s]
      exact ⟨_, _, rfl, rfl, C2⟩
  | none =>
    obtain ⟨I1, e1, C1⟩ := c_ref hm C (v := 1) (f := 1) rfl
    unfold un at hu
    by_cases h1 : (1000 : Int32) ≤ T k
    · rw [if_pos h1] at hu; cases hu
    · rw [if_neg h1] at hu
      by_cases h2 : (267 : Int32) ≤ T k ∧ T k ≤ 272
      · rw [if_pos h2] at hu; cases hu
      · rw [if_pos (Int32.not_le.mp h1), e1]
        by_cases h3 : T k < 267
        · rw [if_pos h3]; exact ⟨_, _, rfl, rfl, C1⟩
        · rw [if_neg h3, if_pos (Int32.not_le.mp (fun z => h2 ⟨Int32.not_lt.mp h3, z⟩))]
          exact ⟨_, _, rfl, rfl, C1⟩
theorem c_part {m : Nat} {T : Nat → Int32} {S : Nat → Nat} {H : am_IT} {k : Nat} {L : List rOp} {I : am_IT} (hm : m ≤ 400) (hT : ∀ k, okT (T k)) (hT3 : T m = 300) (C : cS m T S H k L I) (hL : L.length ≤ k) : ∃ r I', F_X7_readPart_47 I = some (r, I') ∧ cR m T S H (if T k < 1000 then .inr (1, k) else if T k = 1000 then .inr (2, k) else .inl (k + 1, L ++ [(2, (T k).toNatClampNeg - 1000)])) r I' := by
  have c9 : I 47 7 = T k := C.2.2.2.1
  have c7 : k ≤ m := C.2.1
  unfold F_X7_readPart_47
  rw [c9]
  by_cases h1 : T k < 1000
  · rw [if_neg (fun z => absurd h1 (Int32.not_lt.mpr z)), if_pos h1]
    obtain ⟨I1, e1, C1⟩ := c_ref hm C (v := 1) (f := 1) rfl
    rw [e1]; exact ⟨_, _, rfl, rfl, C1⟩
  · rw [if_pos (Int32.not_lt.mp h1), if_neg h1]
    by_cases h2 : T k = 1000
    · rw [if_pos h2, if_pos h2]
      obtain ⟨I1, e1, C1⟩ := c_ref hm C (v := 2) (f := 2) rfl
      rw [e1]; exact ⟨_, _, rfl, rfl, C1⟩
    · rw [if_neg h2, if_neg h2]
      have hu : un (T k) = some (0, (T k).toNatClampNeg - 1000) := if_pos (Int32.not_lt.mp h1)
      obtain ⟨u1, u2, u3, u4⟩ := un_s (hT k) hu
      have hk : k < m := Nat.lt_of_le_of_ne c7 (fun z => u3 (by rw [z]; exact hT3))
      rcases u4 with ⟨x, hx, ht, ho⟩ | ⟨x, hx, ht, ho⟩
      · rw [ht, nI_clamp (by omega), show (1000 : Int32) = nI 1000 from rfl, pk_sub (by omega), show 1000 + x - 1000 = x by omega]
        obtain ⟨I1, e1, C1⟩ := c_add C (2, x) (a := 2) rfl rfl (by show 2 < 15; decide) (by omega)
        obtain ⟨I2, e2, C2⟩ := c_adv hm C1 hk
        rw [e1, am_b1_s, e2, am_b1_s]
        exact ⟨_, _, rfl, rfl, C2⟩
      · have := congrArg Prod.fst ho
        exact absurd (show (0 : Nat) = 1 from this) (by decide)
def vW (w : Nat) : Int32 := if w = 0 then 15 else nI w
theorem c_wt {m : Nat} {T : Nat → Int32} {S : Nat → Nat} {H : am_IT} {k w : Nat} {L : List rOp} {I : am_IT} (C : cS m T S H k L I) (hw : w = 0 ∨ w = 4 ∨ w = 5) (hL : L.length + (gw w).length ≤ 400) : ∃ I', F_X6_addStep_48 I (vW w) 0 = some I' ∧ cS m T S H k (L ++ gw w) I' := by
  rcases hw with rfl | rfl | rfl
  · refine ⟨I, if_pos rfl, ?_⟩
    show cS m T S H k (L ++ []) I
    rw [List.append_nil]; exact C
  · exact c_add C (4, 0) rfl rfl (by show 4 < 15; decide) (by have : (gw 4).length = 1 := rfl; omega)
  · exact c_add C (5, 0) rfl rfl (by show 5 < 15; decide) (by have : (gw 5).length = 1 := rfl; omega)
def bSum : Int32 → Int32 → am_IT → Option ((Int32 × Int32 × am_IT) ⊕ ((Int32 × am_IT) ⊕ (Int32 × am_IT))) := (fun (l1_6 : Int32) (l2_7 : Int32) (I_8 : am_IT) => if (I_8 47 5) ≤ l2_7 then (some (.inr (.inl (l1_6, I_8)))) else (am_b1 (F_X7_isJoining I_8 (I_8 47 7)) (fun (r_18 : Int32) => if r_18 = 0 then (some (.inr (.inl (l1_6, I_8)))) else (am_let (I_8 47 7) (fun (l3_21 : Int32) => am_b2 (if l3_21 = (43 : Int32) then (am_b1 (F_X6_addStep_48 I_8 l1_6 (0 : Int32)) (fun (I_28 : am_IT) => if l3_21 = (43 : Int32) then (some ((4 : Int32), I_28)) else (some ((5 : Int32), I_28)))) else (if l3_21 = (45 : Int32) then (am_b1 (F_X6_addStep_48 I_8 l1_6 (0 : Int32)) (fun (I_32 : am_IT) => if l3_21 = (43 : Int32) then (some ((4 : Int32), I_32)) else (some ((5 : Int32), I_32)))) else (some (l1_6, I_8)))) (fun (l1_23 : Int32) (I_24 : am_IT) => am_b1 (F_X7_advance_47 I_24) (fun (I_35 : am_IT) => if l3_21 = (47 : Int32) then (am_b2 (F_X7_readPart_47 I_35) (fun (r_49 : Int32) (I_50 : am_IT) => if r_49 = 0 then (some (.inr (.inr ((0 : Int32), I_50)))) else (if l3_21 = (42 : Int32) then (am_b1 (F_X6_addStep_48 I_50 (6 : Int32) (0 : Int32)) (fun (I_56 : am_IT) => am_let (l2_7 + (1 : Int32)) (fun (l2_57 : Int32) => some (.inl (l1_23, l2_57, I_56))))) else (am_let (l2_7 + (1 : Int32)) (fun (l2_54 : Int32) => some (.inl (l1_23, l2_54, I_50))))))) else (am_b2 (F_X7_readUnit_47 I_35) (fun (r_38 : Int32) (I_39 : am_IT) => if r_38 = 0 then (some (.inr (.inr ((0 : Int32), I_39)))) else (if l3_21 = (42 : Int32) then (am_b1 (F_X6_addStep_48 I_39 (6 : Int32) (0 : Int32)) (fun (I_45 : am_IT) => am_let (l2_7 + (1 : Int32)) (fun (l2_46 : Int32) => some (.inl (l1_23, l2_46, I_45))))) else (am_let (l2_7 + (1 : Int32)) (fun (l2_43 : Int32) => some (.inl (l1_23, l2_43, I_39))))))))))))))
def lO (m : Nat) (T : Nat → Int32) (S : Nat → Nat) (H : am_IT) (out : gO) (z : (Int32 × am_IT) ⊕ (Int32 × am_IT)) : Prop := match out with
  | .inl (k, L) => ∃ (w : Nat) (I : am_IT) (L1 : List rOp), z = .inl (vW w, I) ∧ (w = 0 ∨ w = 4 ∨ w = 5) ∧ cS m T S H k L1 I ∧ L = L1 ++ gw w ∧ L1.length + (gw w).length ≤ k
  | .inr (f, k) => ∃ I : am_IT, z = .inr (0, I) ∧ cF S H f k I
theorem c_loop {m : Nat} {T : Nat → Int32} {S : Nat → Nat} {H : am_IT} (hm : m ≤ 400) (hT : ∀ k, okT (T k)) (hT3 : ∀ k, m ≤ k → T k = 300) : ∀ (f k w : Nat) (L : List rOp) (I : am_IT) (c N : Nat), cS m T S H k L I → (w = 0 ∨ w = 4 ∨ w = 5) → L.length + (gw w).length ≤ k → c ≤ k → m - k < f → m - k < N → ∃ z, am_it N (am_u3 bSum) (vW w, nI c, I) = some z ∧ lO m T S H (gl T f k w L) z := by
  intro f
  induction f with
  | zero => intro k w L I c N _ _ _ _ h; omega
  | succ f ih =>
    intro k w L I c N C hw hL hc hf hN
    obtain ⟨N, rfl⟩ : ∃ N', N = N' + 1 := ⟨N - 1, by omega⟩
    have c5 : I 47 5 = nI (m + 1) := C.1.1
    have c9 : I 47 7 = T k := C.2.2.2.1
    have c7 : k ≤ m := C.2.1
    have lt : ¬ T k = 300 → k < m := fun h => by
      by_cases z : m ≤ k
      · exact absurd (hT3 k z) h
      · omega
    have hge : ¬ nI (m + 1) ≤ nI c := nI_ge (by omega) (by omega)
    have hgl : (gw w).length ≤ 1 := by rcases hw with rfl | rfl | rfl <;> decide
    unfold gl
    by_cases h1 : T k = 42
    · rw [if_pos h1]
      have hk := lt (by rw [h1]; decide)
      obtain ⟨I1, e1, C1⟩ := c_adv hm C hk
      obtain ⟨r, I2, e2, R⟩ := c_unit hm hT (hT3 m (Nat.le_refl _)) C1 (by omega)
      cases hu : un (T (k + 1)) with
      | none =>
        rw [hu] at R
        obtain ⟨rfl, R⟩ := R
        refine ⟨.inr (0, I2), ?_, I2, rfl, R⟩
        refine am_it_e ?_
        show bSum (vW w) (nI c) I = _
        unfold bSum
        rw [c5, if_neg hge, c9, h1, show F_X7_isJoining I 42 = some 1 from rfl, am_b1_s, if_neg (show ¬ (1 : Int32) = 0 by decide), am_let_s, if_neg (show ¬ (42 : Int32) = 43 by decide), if_neg (show ¬ (42 : Int32) = 45 by decide), am_b2_s, e1, am_b1_s, if_neg (show ¬ (42 : Int32) = 47 by decide), e2, am_b2_s, if_pos rfl]
      | some o =>
        rw [hu] at R
        obtain ⟨rfl, C2⟩ := R
        obtain ⟨I3, e3, C3⟩ := c_add C2 (6, 0) (a := 6) (b := 0) rfl rfl (by show 6 < 15; decide) (by rw [List.length_append]; have := C2.2.1; show L.length + 1 < 400; omega)
        rw [List.append_assoc] at C3
        obtain ⟨z, hz, hO⟩ := ih (k + 2) w (L ++ [o, (6, 0)]) I3 (c + 1) N C3 hw (by rw [List.length_append]; show L.length + 2 + _ ≤ _; omega) (by omega) (by omega) (by omega)
        refine ⟨z, ?_, hO⟩
        rw [← hz]
        refine am_it_l ?_
        show bSum (vW w) (nI c) I = _
        unfold bSum
        rw [c5, if_neg hge, c9, h1, show F_X7_isJoining I 42 = some 1 from rfl, am_b1_s, if_neg (show ¬ (1 : Int32) = 0 by decide), am_let_s, if_neg (show ¬ (42 : Int32) = 43 by decide), if_neg (show ¬ (42 : Int32) = 45 by decide), am_b2_s, e1, am_b1_s, if_neg (show ¬ (42 : Int32) = 47 by decide), e2, am_b2_s, if_neg (show ¬ (1 : Int32) = 0 by decide), if_pos rfl, e3, am_b1_s, am_let_s, nI_1]
    · rw [if_neg h1]
      by_cases h2 : T k = 47
      · rw [if_pos h2]
        have hk := lt (by rw [h2]; decide)
        obtain ⟨I1, e1, C1⟩ := c_adv hm C hk
        obtain ⟨r, I2, e2, R⟩ := c_part hm hT (hT3 m (Nat.le_refl _)) C1 (by omega)
        have hb : ∀ z, (if r = 0 then some (.inr (.inr ((0 : Int32), I2))) else some (.inl (vW w, nI c + 1, I2))) = some z → am_u3 bSum (vW w, nI c, I) = some z := by
          intro z hz
          rw [← hz]
          show bSum (vW w) (nI c) I = _
          unfold bSum
          rw [c5, if_neg hge, c9, h2, show F_X7_isJoining I 47 = some 1 from rfl, am_b1_s, if_neg (show ¬ (1 : Int32) = 0 by decide), am_let_s, if_neg (show ¬ (47 : Int32) = 43 by decide), if_neg (show ¬ (47 : Int32) = 45 by decide), am_b2_s, e1, am_b1_s, if_pos rfl, e2, am_b2_s, if_neg (show ¬ (47 : Int32) = 42 by decide), am_let_s]
        by_cases h3 : T (k + 1) < 1000
        · rw [if_pos h3] at R ⊢
          obtain ⟨rfl, R⟩ := R
          exact ⟨.inr (0, I2), am_it_e (hb _ (if_pos rfl)), I2, rfl, R⟩
        · rw [if_neg h3] at R ⊢
          by_cases h4 : T (k + 1) = 1000
          · rw [if_pos h4] at R ⊢
            obtain ⟨rfl, R⟩ := R
            exact ⟨.inr (0, I2), am_it_e (hb _ (if_pos rfl)), I2, rfl, R⟩
          · rw [if_neg h4] at R ⊢
            obtain ⟨rfl, C2⟩ := R
            obtain ⟨z, hz, hO⟩ := ih (k + 2) w _ I2 (c + 1) N C2 hw (by rw [List.length_append]; show L.length + 1 + _ ≤ _; omega) (by omega) (by omega) (by omega)
            refine ⟨z, ?_, hO⟩
            rw [← hz]
            exact am_it_l (hb _ (by rw [if_neg (by decide), nI_1]))
      · rw [if_neg h2]
        by_cases h3 : T k = 43 ∨ T k = 45
        · rw [if_pos h3]
          have hk := lt (by rcases h3 with h3 | h3 <;> (rw [h3]; decide))
          obtain ⟨I0, e0, C0⟩ := c_wt C hw (by omega)
          obtain ⟨I1, e1, C1⟩ := c_adv hm C0 hk
          obtain ⟨r, I2, e2, R⟩ := c_unit hm hT (hT3 m (Nat.le_refl _)) C1 (by rw [List.length_append]; omega)
          have hb : ∀ z, (if r = 0 then some (.inr (.inr ((0 : Int32), I2))) else some (.inl (vW (if T k = 43 then 4 else 5), nI c + 1, I2))) = some z → am_u3 bSum (vW w, nI c, I) = some z := by
            intro z hz
            rw [← hz]
            show bSum (vW w) (nI c) I = _
            unfold bSum
            rcases h3 with h3 | h3
            · rw [c5, if_neg hge, c9, h3, show F_X7_isJoining I 43 = some 1 from rfl, am_b1_s, if_neg (show ¬ (1 : Int32) = 0 by decide), am_let_s, if_pos rfl, e0, am_b1_s, if_pos rfl, am_b2_s, e1, am_b1_s, if_neg (show ¬ (43 : Int32) = 47 by decide), e2, am_b2_s, if_neg (show ¬ (43 : Int32) = 42 by decide), am_let_s]
              rfl
            · rw [c5, if_neg hge, c9, h3, show F_X7_isJoining I 45 = some 1 from rfl, am_b1_s, if_neg (show ¬ (1 : Int32) = 0 by decide), am_let_s, if_neg (show ¬ (45 : Int32) = 43 by decide), if_pos rfl, e0, am_b1_s, if_neg (show ¬ (45 : Int32) = 43 by decide), am_b2_s, e1, am_b1_s, if_neg (show ¬ (45 : Int32) = 47 by decide), e2, am_b2_s, if_neg (show ¬ (45 : Int32) = 42 by decide), am_let_s]
              rfl
          cases hu : un (T (k + 1)) with
          | none =>
            rw [hu] at R
            obtain ⟨rfl, R⟩ := R
            exact ⟨.inr (0, I2), am_it_e (hb _ (if_pos rfl)), I2, rfl, R⟩
          | some o =>
            rw [hu] at R
            obtain ⟨rfl, C2⟩ := R
            have hw' : ((if T k = 43 then 4 else 5) = 0 ∨ (if T k = 43 then 4 else 5) = 4 ∨ (if T k = 43 then 4 else 5) = 5) ∧ (gw (if T k = 43 then 4 else 5)).length = 1 := by
              split
              · exact ⟨Or.inr (Or.inl rfl), rfl⟩
              · exact ⟨Or.inr (Or.inr rfl), rfl⟩
            obtain ⟨z, hz, hO⟩ := ih (k + 2) _ _ I2 (c + 1) N C2 hw'.1 (by rw [hw'.2, List.length_append, List.length_append]; show L.length + _ + 1 + 1 ≤ _; omega) (by omega) (by omega) (by omega)
            refine ⟨z, ?_, hO⟩
            rw [← hz]
            exact am_it_l (hb _ (by rw [if_neg (by decide), nI_1]))
        · rw [if_neg h3]
          refine ⟨.inl (vW w, I), ?_, w, I, L, rfl, hw, C, rfl, hL⟩
          refine am_it_e ?_
          show bSum (vW w) (nI c) I = _
          unfold bSum
          rw [c5, if_neg hge, c9, show F_X7_isJoining I (T k) = some 0 by
            unfold F_X7_isJoining
            rw [if_neg (fun z => h3 (Or.inl z)), if_neg (fun z => h3 (Or.inr z)), if_neg h1, if_neg h2], am_b1_s, if_pos rfl]
theorem c_sum {m : Nat} {T : Nat → Int32} {S : Nat → Nat} {H : am_IT} {k : Nat} {L : List rOp} {I : am_IT} (hm : m ≤ 400) (hT : ∀ k, okT (T k)) (hT3 : ∀ k, m ≤ k → T k = 300) (C : cS m T S H k L I) (hL : L.length ≤ k) : ∃ r I', F_X7_readSum_47 I = some (r, I') ∧ cR m T S H (gs T k L) r I' := by
  unfold F_X7_readSum_47 gs
  obtain ⟨r, I1, e1, R⟩ := c_unit hm hT (hT3 m (Nat.le_refl _)) C hL
  rw [e1, am_b2_s]
  cases hu : un (T k) with
  | none =>
    rw [hu] at R
    obtain ⟨rfl, R⟩ := R
    rw [if_pos rfl]
    exact ⟨_, _, rfl, rfl, R⟩
  | some o =>
    rw [hu] at R
    obtain ⟨rfl, C1⟩ := R
    have h7 : k + 1 ≤ m := C1.2.1
    rw [if_neg (show ¬ (1 : Int32) = 0 by decide)]
    obtain ⟨z, hz, hO⟩ := c_loop hm hT hT3 1000 (k + 1) 0 (L ++ [o]) I1 0 am_fu C1 (Or.inl rfl) (by rw [List.length_append]; show L.length + 1 + 0 ≤ _; omega) (Nat.zero_le _) (by omega) (by show m - (k + 1) < 1000000; omega)
    have hz' : am_it am_fu (am_u3 bSum) ((15 : Int32), (0 : Int32), I1) = some z := hz
    unfold bSum at hz'
    rw [hz']
    revert hO
    show lO m T S H (gl T 1000 (k + 1) 0 (L ++ [o])) z → ∃ r I', _ ∧ cR m T S H (gl T 1000 (k + 1) 0 (L ++ [o])) r I'
    generalize gl T 1000 (k + 1) 0 (L ++ [o]) = out
    intro hO
    match out, hO with
    | .inl (k2, L2), hO =>
      obtain ⟨w, I2, L1, rfl, hw, C2, rfl, h5⟩ := hO
      have h8 : k2 ≤ m := C2.2.1
      obtain ⟨I3, e3, C3⟩ := c_wt C2 hw (by omega)
      rw [am_lr_l, am_u2_s, e3, am_b1_s]
      exact ⟨_, _, rfl, rfl, C3⟩
    | .inr (f, k2), hO =>
      obtain ⟨I2, rfl, F⟩ := hO
      rw [am_lr_r]
      exact ⟨_, _, rfl, rfl, F⟩
