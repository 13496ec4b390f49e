theorem it_u3b2 {A B C E1 E2 Z : Type} {f : A → B → C → Option ((A × B × C) ⊕ (E1 × E2))} {k : E1 → E2 → Option Z} {z : Option Z} {a0 : A} {b0 : B} {c0 : C} {e1 : E1} {e2 : E2} {n : Nat} (P : Nat → A) (Q : Nat → B) (R : Nat → C) (h0 : (a0, b0, c0) = (P 0, Q 0, R 0)) (hn : n < 1000000) (hs : ∀ i, i < n → f (P i) (Q i) (R i) = some (.inl (P (i + 1), Q (i + 1), R (i + 1)))) (he : f (P n) (Q n) (R n) = some (.inr (e1, e2))) (hk : k e1 e2 = z) : am_b2 (am_it am_fu (am_u3 f) (a0, b0, c0)) k = z := by
  rw [h0, am_it_up (f := am_u3 f) (fun i => (P i, Q i, R i)) (e := (e1, e2)) hn hs he]; exact hk
/-- how many walls change their colour -/
def ac (P N : Nat → Int32) : Nat → Int32
  | 0 => 0
  | i + 1 => if P i = N i then ac P N i else ac P N i + 1
theorem ac_c {P N P' N' : Nat → Int32} : ∀ {i : Nat}, (∀ j, j < i → P j = P' j ∧ N j = N' j) → ac P N i = ac P' N' i
  | 0, _ => rfl
  | i + 1, h => by
    unfold ac
    rw [ac_c (i := i) (fun j hj => h j (by omega)), (h i (by omega)).1, (h i (by omega)).2]
theorem set_s {f g : Nat → Int32} {i : Nat} (j : Nat) : (if j = i then g i else if j < i then g j else f j) = if j < i + 1 then g j else f j := by
  by_cases e : j = i
  · subst e; rw [if_pos rfl, if_pos (by omega)]
  · rw [if_neg e]
    by_cases h : j < i
    · rw [if_pos h, if_pos (by omega)]
    · rw [if_neg h, if_neg (by omega)]
theorem e_ad_26 {I : am_IT} {w : Nat} (hw : I 1 3 = nI w) (hw7 : w ≤ 7) : F_X11_adopt_0_26 I = some (ac (I 3) (I 26) w, st2 I 3 (fun j => if j < w then I 26 j else I 3 j)) := by
  unfold F_X11_adopt_0_26
  refine it_u3b2 (fun i => ac (I 3) (I 26) i) (fun i => nI i) (fun i => st2 I 3 (fun j => if j < i then I 26 j else I 3 j)) (n := w) (e1 := ac (I 3) (I 26) w) (e2 := st2 I 3 (fun j => if j < w then I 26 j else I 3 j)) ?_ (by omega) (fun i hi => ?_) ?_ rfl
  · rw [show (fun j => if j < 0 then I 26 j else I 3 j) = I 3 from funext (fun j => if_neg (by omega)), st2_I]; rfl
  · have hx : am_ix (nI i) 7 = true := am_ix_nI (by omega) (by decide)
    have e3 : (st2 I 3 (fun j => if j < i then I 26 j else I 3 j)) 3 i = I 3 i := by rw [st2_s, if_neg (Nat.lt_irrefl i)]
    have eN : (st2 I 3 (fun j => if j < i then I 26 j else I 3 j)) 26 i = I 26 i := rfl
    rw [show (st2 I 3 (fun j => if j < i then I 26 j else I 3 j)) 1 3 = nI w from hw, if_neg (nI_ge hi (by omega)), if_pos hx, if_pos hx, nI_clamp (by omega), e3, eN]
    have ea : ac (I 3) (I 26) (i + 1) = if I 3 i = I 26 i then ac (I 3) (I 26) i else ac (I 3) (I 26) i + 1 := rfl
    by_cases h : I 3 i = I 26 i
    · rw [if_pos h] at ea
      rw [if_pos h, am_let_s, ea, nI_1]
      refine congrArg (fun z => some (Sum.inl (ac (I 3) (I 26) i, nI (i + 1), z))) (st2_e I (fun j => ?_))
      rw [← set_s (f := I 3) (g := I 26) j]
      by_cases e : j = i
      · rw [if_pos e, if_neg (by omega), e, h]
      · rw [if_neg e]
    · rw [if_neg h] at ea
      rw [if_neg h, if_pos hx, if_pos hx, am_let_s, am_let_s, am_let_s, st2_u, ea, nI_1]
      exact congrArg (fun z => some (Sum.inl (ac (I 3) (I 26) i + 1, nI (i + 1), z))) (st2_e I (fun j => set_s (f := I 3) (g := I 26) j))
  · rw [show (st2 I 3 (fun j => if j < w then I 26 j else I 3 j)) 1 3 = nI w from hw, if_pos (nI_le (Nat.le_refl w) (by omega))]
theorem e_ad_31 {I : am_IT} {w : Nat} (hw : I 1 3 = nI w) (hw7 : w ≤ 7) : F_X11_adopt_0_31 I = some (ac (I 3) (I 31) w, st2 I 3 (fun j => if j < w then I 31 j else I 3 j)) := by
  unfold F_X11_adopt_0_31
  refine it_u3b2 (fun i => ac (I 3) (I 31) i) (fun i => nI i) (fun i => st2 I 3 (fun j => if j < i then I 31 j else I 3 j)) (n := w) (e1 := ac (I 3) (I 31) w) (e2 := st2 I 3 (fun j => if j < w then I 31 j else I 3 j)) ?_ (by omega) (fun i hi => ?_) ?_ rfl
  · rw [show (fun j => if j < 0 then I 31 j else I 3 j) = I 3 from funext (fun j => if_neg (by omega)), st2_I]; rfl
  · have hx : am_ix (nI i) 7 = true := am_ix_nI (by omega) (by decide)
    have e3 : (st2 I 3 (fun j => if j < i then I 31 j else I 3 j)) 3 i = I 3 i := by rw [st2_s, if_neg (Nat.lt_irrefl i)]
    have eN : (st2 I 3 (fun j => if j < i then I 31 j else I 3 j)) 31 i = I 31 i := rfl
    rw [show (st2 I 3 (fun j => if j < i then I 31 j else I 3 j)) 1 3 = nI w from hw, if_neg (nI_ge hi (by omega)), if_pos hx, if_pos hx, nI_clamp (by omega), e3, eN]
    have ea : ac (I 3) (I 31) (i + 1) = if I 3 i = I 31 i then ac (I 3) (I 31) i else ac (I 3) (I 31) i + 1 := rfl
    by_cases h : I 3 i = I 31 i
    · rw [if_pos h] at ea
      rw [if_pos h, am_let_s, ea, nI_1]
      refine congrArg (fun z => some (Sum.inl (ac (I 3) (I 31) i, nI (i + 1), z))) (st2_e I (fun j => ?_))
      rw [← set_s (f := I 3) (g := I 31) j]
      by_cases e : j = i
      · rw [if_pos e, if_neg (by omega), e, h]
      · rw [if_neg e]
    · rw [if_neg h] at ea
      rw [if_neg h, if_pos hx, if_pos hx, am_let_s, am_let_s, am_let_s, st2_u, ea, nI_1]
      exact congrArg (fun z => some (Sum.inl (ac (I 3) (I 31) i + 1, nI (i + 1), z))) (st2_e I (fun j => set_s (f := I 3) (g := I 31) j))
  · rw [show (st2 I 3 (fun j => if j < w then I 31 j else I 3 j)) 1 3 = nI w from hw, if_pos (nI_le (Nat.le_refl w) (by omega))]
theorem e_be {I : am_IT} {w off : Nat} (hw : I 55 4 = nI w) (hw7 : w ≤ 7) (ho7 : 7 ≤ off) (ho : off ≤ 28) : F_X12_becomes_55 I (nI off) = some (ac (I 72) (fun j => I 72 (off + j)) w, st2 I 72 (fun j => if j < w then I 72 (off + j) else I 72 j)) := by
  unfold F_X12_becomes_55
  refine it_u3b2 (fun i => ac (I 72) (fun j => I 72 (off + j)) i) (fun i => nI i) (fun i => st2 I 72 (fun j => if j < i then I 72 (off + j) else I 72 j)) (n := w) (e1 := ac (I 72) (fun j => I 72 (off + j)) w) (e2 := st2 I 72 (fun j => if j < w then I 72 (off + j) else I 72 j)) ?_ (by omega) (fun i hi => ?_) ?_ rfl
  · rw [show (fun j => if j < 0 then I 72 (off + j) else I 72 j) = I 72 from funext (fun j => if_neg (by omega)), st2_I]; rfl
  · have hz : (0 : Int32) + nI i = nI i := Int32.zero_add _
    have hx : am_ix (nI i) 35 = true := am_ix_nI (by omega) (by decide)
    have hx2 : am_ix (nI (off + i)) 35 = true := am_ix_nI (by omega) (by decide)
    have e3 : (st2 I 72 (fun j => if j < i then I 72 (off + j) else I 72 j)) 72 i = I 72 i := by rw [st2_s, if_neg (Nat.lt_irrefl i)]
    have eN : (st2 I 72 (fun j => if j < i then I 72 (off + j) else I 72 j)) 72 (off + i) = I 72 (off + i) := by rw [st2_s, if_neg (by omega)]
    rw [show (st2 I 72 (fun j => if j < i then I 72 (off + j) else I 72 j)) 55 4 = nI w from hw, if_neg (nI_ge hi (by omega)), hz, nI_add, if_pos hx, if_pos hx2, nI_clamp (by omega), nI_clamp (by omega), e3, eN]
    have ea : ac (I 72) (fun j => I 72 (off + j)) (i + 1) = if I 72 i = I 72 (off + i) then ac (I 72) (fun j => I 72 (off + j)) i else ac (I 72) (fun j => I 72 (off + j)) i + 1 := rfl
    by_cases h : I 72 i = I 72 (off + i)
    · rw [if_pos h] at ea
      rw [if_pos h, am_b1_s, if_pos hx2, if_pos hx, am_let_s, am_let_s, st2_u, ea, nI_1]
      exact congrArg (fun z => some (Sum.inl (ac (I 72) (fun j => I 72 (off + j)) i, nI (i + 1), z))) (st2_e I (fun j => set_s (f := I 72) (g := fun j => I 72 (off + j)) j))
    · rw [if_neg h] at ea
      rw [if_neg h, am_let_s, am_b1_s, if_pos hx2, if_pos hx, am_let_s, am_let_s, st2_u, ea, nI_1]
      exact congrArg (fun z => some (Sum.inl (ac (I 72) (fun j => I 72 (off + j)) i + 1, nI (i + 1), z))) (st2_e I (fun j => set_s (f := I 72) (g := fun j => I 72 (off + j)) j))
  · rw [show (st2 I 72 (fun j => if j < w then I 72 (off + j) else I 72 j)) 55 4 = nI w from hw, if_pos (nI_le (Nat.le_refl w) (by omega))]
/-- the next state and what is drawn from it -/
def nxt (x : Int32) : Int32 := 1664525 * x + 1013904223
theorem e_dr1 (I : am_IT) {n : Nat} (h0 : 0 < n) (hn : n < 100) : ∃ q, q < n ∧ F_X9_draw_1 I (nI n) = some (nI q, up2 I 1 1 (nxt (I 1 1))) ∧ ∀ J : am_IT, J 55 1 = I 1 1 → F_X12_draw_55 J (nI n) = some (nI q, up2 J 55 1 (nxt (I 1 1))) := by
  have hsh : ∃ v, v < 2 ^ 24 ∧ ((nxt (I 1 1)).toUInt32 >>> ((8 : Int32).toUInt32 &&& Int32.toUInt32 31)).toInt32 = nI v := by
    generalize nxt (I 1 1) = x
    refine ⟨x.toUInt32.toNat >>> 8, ?_, ?_⟩
    · have := UInt32.toNat_lt x.toUInt32
      rw [Nat.shiftRight_eq_div_pow]
      omega
    · apply b_ext
      intro i hi
      rw [show (8 : Int32) = nI 8 from rfl, b_ushr 8 (by decide), b_nI _ hi, Nat.testBit_shiftRight]
      rfl
  obtain ⟨v, hv, ev⟩ := hsh
  refine ⟨v % n, Nat.mod_lt _ h0, ?_, fun J hJ => ?_⟩
  · unfold F_X9_draw_1
    rw [am_let_s, if_neg (show ¬ nI n ≤ 0 from nI_ge (a := 0) h0 (by omega)), if_pos (nI_ne0 h0 (by omega)), up2_s, show ((1664525 : Int32) * (I 1 1)) + (1013904223 : Int32) = nxt (I 1 1) from rfl, ev, tn (by omega) h0 (by omega)]
  · unfold F_X12_draw_55
    rw [am_let_s, if_pos (nI_ne0 h0 (by omega)), up2_s, hJ, show ((1664525 : Int32) * (I 1 1)) + (1013904223 : Int32) = nxt (I 1 1) from rfl, ev, tn (by omega) h0 (by omega)]
