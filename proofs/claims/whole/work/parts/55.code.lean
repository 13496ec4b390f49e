theorem am_u2_s {A B Z : Type} (f : A → B → Z) (a : A) (b : B) : am_u2 f (a, b) = f a b := rfl
theorem am_u3_s {A B C Z : Type} (f : A → B → C → Z) (a : A) (b : B) (c : C) : am_u3 f (a, b, c) = f a b c := rfl
theorem b_nI (n : Nat) {i : Nat} (hi : i < 32) : bt (nI n) i = n.testBit i := by
  show (BitVec.ofNat 32 n).getLsbD i = _
  rw [BitVec.getLsbD_ofNat, decide_eq_true hi, Bool.true_and]
theorem nI_and (a b : Nat) : nI a &&& nI b = nI (a &&& b) := by
  apply b_ext
  intro i hi
  rw [b_and, b_nI a hi, b_nI b hi, b_nI _ hi, Nat.testBit_and]
theorem st_k {a b : Nat} (hb : b < 16) : nI (16 * a + b) &&& 15 = nI b := by
  rw [show (15 : Int32) = nI 15 from rfl, nI_and, Nat.and_two_pow_sub_one_eq_mod (n := 4) (16 * a + b), show (16 * a + b) % 2 ^ 4 = b by omega]
theorem st_n {a b : Nat} (ha : a < 10000) (hb : b < 16) : nI (16 * a + b) >>> ((4 : Int32) &&& 31) = nI a := by
  apply b_ext
  intro i hi
  rw [show (4 : Int32) = nI 4 from rfl, b_sshr 4 (by decide) _ hi, b_nI a hi]
  have e : a = (16 * a + b) >>> 4 := by rw [Nat.shiftRight_eq_div_pow]; omega
  by_cases h : 4 + i < 32
  · rw [if_pos h, b_nI _ h]
    conv => rhs; rw [e, Nat.testBit_shiftRight]
  · rw [if_neg h, b_nI _ (by decide), Nat.testBit_lt_two_pow (by omega), Nat.testBit_lt_two_pow (Nat.lt_of_lt_of_le (show a < 2 ^ 14 by omega) (Nat.pow_le_pow_right (by decide) (by omega)))]
theorem nI_dec (a : Nat) : nI (a + 1) - 1 = nI a := by rw [nI_succ]; exact nI_sub1 a
def stk (f : Nat → Int32) : List Int32 → Prop
  | [] => True
  | v :: r => f r.length = v ∧ stk f r
theorem stk_u {f : Nat → Int32} {j : Nat} {v : Int32} : ∀ {r : List Int32}, stk f r → r.length ≤ j → stk (fun i => if i = j then v else f i) r
  | [], _, _ => trivial
  | x :: r, h, hj => by
    have hj2 : r.length + 1 ≤ j := hj
    refine ⟨?_, stk_u h.2 (by omega)⟩
    show (if r.length = j then v else f r.length) = x
    rw [if_neg (by omega)]; exact h.1
theorem stk_p {f : Nat → Int32} {v : Int32} {r : List Int32} (h : stk f r) : stk (fun i => if i = r.length then v else f i) (v :: r) := ⟨if_pos rfl, stk_u h (Nat.le_refl _)⟩
/-- what the class makes of two -/
def jn (k : Nat) (x y : Int32) : Int32 := if k = 4 then x + y else if k = 5 then x - y else if k = 6 then x * y else if k = 7 then (if y ≤ x then 0 else 1) else if k = 8 then (if x = y then 1 else 0) else if k = 9 then (if x ≤ y then 0 else 1) else if k = 10 then x &&& y else x ||| y
def evC1 (F : Nat → Int32) (o : rOp) (s : List Int32) : Option (List Int32) :=
  if o.1 = 0 then (if s.length < 32 then some (nI o.2 :: s) else none)
  else if o.1 = 1 then (if s.length < 32 then some (F o.2 :: s) else none)
  else if o.1 = 3 then (match s with
    | v :: r => some ((1 - v) :: r)
    | _ => none)
  else if o.1 = 2 then (match s with
    | v :: r => some ((v / nI o.2) :: r)
    | _ => none)
  else (match s with
    | y :: x :: r => some (jn o.1 x y :: r)
    | _ => none)
def evC (F : Nat → Int32) : List rOp → List Int32 → Option (List Int32)
  | [], s => some s
  | o :: l, s => (evC1 F o s).bind (evC F l)
theorem e_jn (I : am_IT) {k : Nat} (h1 : 4 ≤ k) (h2 : k ≤ 11) (x y : Int32) : F_X2_joined I (nI k) x y = some (jn k x y) := by
  rcases (show k = 4 ∨ k = 5 ∨ k = 6 ∨ k = 7 ∨ k = 8 ∨ k = 9 ∨ k = 10 ∨ k = 11 by omega) with rfl | rfl | rfl | rfl | rfl | rfl | rfl | rfl
  · rfl
  · rfl
  · rfl
  · show (if y ≤ x then _ else _) = some (if y ≤ x then _ else _); split <;> rfl
  · show (if x = y then _ else _) = some (if x = y then _ else _); split <;> rfl
  · show (if x ≤ y then _ else _) = some (if x ≤ y then _ else _); split <;> rfl
  · rfl
  · rfl
theorem drop_c {α : Type} {l : List α} {i : Nat} (h : i < l.length) : ∃ o, l[i]? = some o ∧ l.drop i = o :: l.drop (i + 1) := ⟨l[i], List.getElem?_eq_getElem h, List.drop_eq_getElem_cons h⟩
theorem it_lr_inv {X E Z : Type} {f : X → Option (X ⊕ (E ⊕ Z))} {k : E → Option Z} {x0 : X} {R : Option Z → Prop} (Inv : Nat → X → Prop) (Post : (E ⊕ Z) → Prop) {n : Nat} (hn : n < 1000000) (hs : ∀ i x, i < n → Inv i x → ∃ y, f x = some (.inl y) ∧ Inv (i + 1) y) (he : ∀ x, Inv n x → ∃ e, f x = some (.inr e) ∧ Post e) (h0 : Inv 0 x0) (hk : ∀ e, Post e → R (am_lr (some e) k)) : R (am_lr (am_it am_fu f x0) k) := by
  obtain ⟨e, h1, h2⟩ := am_it_inv Inv Post hn hs he h0
  rw [h1]
  exact hk e h2
theorem e_holds {I : am_IT} {F : Nat → Int32} {k0 : Nat} {code : List rOp} (hk : k0 + code.length ≤ 400) (hst : ∀ i o, code[i]? = some o → I 14 (k0 + i) = nI (16 * o.2 + o.1) ∧ rOpOk o) (hF : ∀ j, j < 6 → I 28 j = F j) {v : Int32} (hev : evC F code [] = some [v]) (f : Nat → Int32) : ∃ f', F_X2_holds_25 (st2 I 29 f) (nI k0) (nI (k0 + code.length)) = some (if v = 0 then 0 else 1, st2 I 29 f') := by
  unfold F_X2_holds_25
  refine it_lr_inv (R := fun z => ∃ f', z = some (if v = 0 then 0 else 1, st2 I 29 f')) (fun i x => ∃ s g, x = (nI s.length, nI (k0 + i), st2 I 29 g) ∧ stk g s ∧ s.length ≤ 32 ∧ evC F (code.drop i) s = some [v]) (fun e => ∃ f', e = .inl (nI 1, st2 I 29 f') ∧ f' 0 = v) (n := code.length) (by omega) ?_ ?_ ⟨[], f, rfl, trivial, Nat.zero_le _, hev⟩ ?_
  rotate_left 2
  · rintro e ⟨f', rfl, hv⟩
    refine ⟨f', ?_⟩
    rw [am_lr_l, am_u2_s, if_neg (show ¬ nI 1 ≤ 0 by decide), if_pos (show am_ix (0 : Int32) 32 = true by decide), show (0 : Int32).toNatClampNeg = 0 from rfl, st2_s, hv]
    by_cases z : v = 0
    · rw [if_pos z, if_pos z]
    · rw [if_neg z, if_neg z]
  · rintro i x hi ⟨s, g, rfl, hs, hl, he⟩
    obtain ⟨o, ho, hd⟩ := drop_c hi
    obtain ⟨h14, hok⟩ := hst i o ho
    rw [hd] at he
    have ha : o.2 < 10000 ∧ o.1 < 16 := by rcases hok with h | h | h | h <;> omega
    rw [am_u3_s, if_neg (nI_ge (a := k0 + i) (by omega) (by omega)), if_neg (show ¬ (400 : Int32) ≤ nI (k0 + i) from nI_ge (b := 400) (by omega) (by decide)), if_pos (am_ix_nI (by omega) (by decide)), nI_clamp (by omega), show (st2 I 29 g) 14 (k0 + i) = nI (16 * o.2 + o.1) from h14, st_k ha.2, am_let_s, if_pos (am_ix_nI (by omega) (by decide)), st_n ha.1 ha.2, am_let_s]
    obtain ⟨s', hs', hev'⟩ : ∃ s', evC1 F o s = some s' ∧ evC F (code.drop (i + 1)) s' = some [v] := by
      cases h1 : evC1 F o s with
      | none => rw [show evC F (o :: code.drop (i + 1)) s = (evC1 F o s).bind (evC F (code.drop (i + 1))) from rfl, h1] at he; cases he
      | some s' => rw [show evC F (o :: code.drop (i + 1)) s = (evC1 F o s).bind (evC F (code.drop (i + 1))) from rfl, h1] at he; exact ⟨s', rfl, he⟩
    unfold evC1 at hs'
    rcases hok with ⟨h0, h2⟩ | ⟨h0, h2⟩ | ⟨h0, h2, h3⟩ | ⟨h0, h2, h3⟩
    · rw [if_pos h0] at hs'
      by_cases hsl : s.length < 32
      · rw [if_pos hsl] at hs'
        cases hs'
        rw [h0, if_pos (show nI 0 = 0 from rfl), if_pos (show nI s.length < (32 : Int32) from nI_lt (b := 32) hsl (by decide)), if_pos (show nI 0 = 0 from rfl), if_pos (am_ix_nI hsl (by decide)), am_let_s, am_let_s, am_let_s, nI_clamp (by omega), st2_u]
        exact ⟨_, rfl, nI o.2 :: s, _, by rw [nI_1, nI_1]; rfl, stk_p hs, by simp; omega, hev'⟩
      · rw [if_neg hsl] at hs'; cases hs'
    · rw [if_neg (by omega), if_pos h0] at hs'
      by_cases hsl : s.length < 32
      · rw [if_pos hsl] at hs'
        cases hs'
        have ef : F_X2_factAt_25 (st2 I 29 g) (nI o.2) = some (F o.2) := by
          unfold F_X2_factAt_25
          rw [if_neg (nI_pos (by omega)), if_neg (show ¬ (6 : Int32) ≤ nI o.2 from nI_ge (b := 6) h2 (by decide)), if_pos (am_ix_nI h2 (by decide)), nI_clamp (by omega)]
          exact congrArg some (hF o.2 h2)
        rw [h0, if_neg (show ¬ nI 1 = 0 by decide), if_pos (show nI 1 = 1 from rfl), if_pos (show nI s.length < (32 : Int32) from nI_lt (b := 32) hsl (by decide)), if_neg (show ¬ nI 1 = 0 by decide), ef, am_b1_s, if_pos (am_ix_nI hsl (by decide)), am_let_s, am_let_s, am_let_s, nI_clamp (by omega), st2_u]
        exact ⟨_, rfl, F o.2 :: s, _, by rw [nI_1, nI_1]; rfl, stk_p hs, by simp; omega, hev'⟩
      · rw [if_neg hsl] at hs'; cases hs'
    · rw [if_neg (by omega), if_neg (by omega), if_neg (by omega), if_pos h0] at hs'
      cases s with
      | nil => cases hs'
      | cons a r =>
        cases hs'
        have hl' : r.length + 1 ≤ 32 := hl
        have e1 : nI (a :: r).length - 1 = nI r.length := nI_dec _
        have ep : F_X2_part (st2 I 29 g) a (nI o.2) = some (a / nI o.2) := by
          unfold F_X2_part
          rw [if_neg (nI_ne0 h2 (by omega)), if_pos (nI_ne0 h2 (by omega))]
        rw [h0, if_neg (show ¬ nI 2 = 0 by decide), if_neg (show ¬ nI 2 = 1 by decide), if_neg (show ¬ nI 2 = 3 by decide), if_pos (show nI 2 = 2 from rfl), if_pos (show (1 : Int32) ≤ nI (a :: r).length from nI_le (a := 1) (by simp) (by simp; omega)), if_neg (show ¬ nI 2 = 3 by decide), e1, if_pos (am_ix_nI (by omega) (by decide)), nI_clamp (by omega), st2_s, hs.1, ep, am_b1_s, if_pos (am_ix_nI (by omega) (by decide)), am_let_s, am_let_s, st2_u]
        exact ⟨_, rfl, (a / nI o.2) :: r, _, by rw [nI_1]; rfl, stk_p hs.2, hl, hev'⟩
    · by_cases h13 : o.1 = 3
      · rw [if_neg (by omega), if_neg (by omega), if_pos h13] at hs'
        cases s with
        | nil => cases hs'
        | cons a r =>
          cases hs'
          have hl' : r.length + 1 ≤ 32 := hl
          have e1 : nI (a :: r).length - 1 = nI r.length := nI_dec _
          rw [h13, if_neg (show ¬ nI 3 = 0 by decide), if_neg (show ¬ nI 3 = 1 by decide), if_pos (show nI 3 = 3 from rfl), if_pos (show (1 : Int32) ≤ nI (a :: r).length from nI_le (a := 1) (by simp) (by simp; omega)), if_pos (show nI 3 = 3 from rfl), e1, if_pos (am_ix_nI (by omega) (by decide)), if_pos (am_ix_nI (by omega) (by decide)), nI_clamp (by omega), st2_s, hs.1, am_let_s, am_let_s, st2_u]
          exact ⟨_, rfl, (1 - a) :: r, _, by rw [nI_1]; rfl, stk_p hs.2, hl, hev'⟩
      · rw [if_neg (by omega), if_neg (by omega), if_neg (by omega), if_neg (by omega)] at hs'
        have hkk : ∀ m, m < 4 → ¬ nI o.1 = nI m := fun m hm e => by
          have := (nI_eq (by omega) (by omega)).mp e
          omega
        match s, hs', hs, hl with
        | [], hs', _, _ => cases hs'
        | [_], hs', _, _ => cases hs'
        | yy :: xx :: r, hs', hs, hl =>
          cases hs'
          have hl' : r.length + 1 + 1 ≤ 32 := hl
          have e1 : nI (yy :: xx :: r).length + (-1) = nI (r.length + 1) := by rw [← Int32.sub_eq_add_neg]; exact nI_dec _
          have e2 : nI (r.length + 1) - 1 = nI r.length := nI_dec _
          rw [if_neg (show ¬ nI o.1 = 0 from hkk 0 (by decide)), if_neg (show ¬ nI o.1 = 1 from hkk 1 (by decide)), if_neg (show ¬ nI o.1 = 3 from hkk 3 (by decide)), if_neg (show ¬ nI o.1 = 2 from hkk 2 (by decide)), if_pos (show (2 : Int32) ≤ nI (yy :: xx :: r).length from nI_le (a := 2) (by simp) (by simp; omega)), e1, am_let_s, e2, if_pos (am_ix_nI (by omega) (by decide)), if_pos (am_ix_nI (by omega) (by decide)), nI_clamp (by omega), nI_clamp (by omega), st2_s, show g (r.length + 1) = yy from hs.1, hs.2.1, e_jn _ (by omega) h2, am_b1_s, if_pos (am_ix_nI (by omega) (by decide)), am_let_s, am_let_s, st2_u]
          exact ⟨_, rfl, jn o.1 xx yy :: r, _, by rw [nI_1]; rfl, stk_p hs.2.2, by simp; omega, hev'⟩
  · rintro x ⟨s, g, rfl, hs, hl, he⟩
    rw [List.drop_length] at he
    cases he
    rw [am_u3_s, if_pos (nI_le (Nat.le_refl _) (by omega))]
    exact ⟨_, rfl, g, rfl, hs.1⟩
