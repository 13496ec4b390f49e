theorem it_b1_inv {X E Z : Type} {f : X → Option (X ⊕ E)} {k : E → Option Z} {x0 : X} {R : Option Z → Prop} (Inv : Nat → X → Prop) (Post : E → Prop) {n : Nat} (hn : n < 1000000) (hs : ∀ i x, i < n → Inv i x → ∃ y, f x = some (.inl y) ∧ Inv (i + 1) y) (he : ∀ x, Inv n x → ∃ e, f x = some (.inr e) ∧ Post e) (h0 : Inv 0 x0) (hk : ∀ e, Post e → R (k e)) : R (am_b1 (am_it am_fu f x0) k) := by
  obtain ⟨e, h1, h2⟩ := am_it_inv Inv Post hn hs he h0
  rw [h1]
  exact hk e h2
/-- what the reference makes of two -/
def tw (k : Nat) (x y : Int32) : Int32 := if k = 2 then x + y else if k = 3 then x - y else if k = 4 then x * y else if k = 5 then x / y else if k = 6 then (if y ≤ x then 0 else 1) else if k = 7 then (if x = y then 1 else 0) else if k = 8 then (if x ≤ y then 0 else 1) else if k = 10 then x * y else (if x + y ≤ 0 then 0 else 1)
def evR1 (F : Nat → Int32) (o : Nat × Nat) (s : List Int32) : Option (List Int32) :=
  if o.1 = 0 then (if s.length < 420 then some (nI o.2 :: s) else none)
  else if o.1 = 1 then (if s.length < 420 then some (F o.2 :: s) else none)
  else if o.1 = 9 then (match s with
    | v :: r => some ((1 - v) :: r)
    | _ => none)
  else (match s with
    | y :: x :: r => if o.1 = 5 ∧ y = 0 then none else some (tw o.1 x y :: r)
    | _ => none)
def evR (F : Nat → Int32) : List (Nat × Nat) → List Int32 → Option (List Int32)
  | [], s => some s
  | o :: l, s => (evR1 F o s).bind (evR F l)
theorem e_tw (I : am_IT) {k : Nat} (h1 : 2 ≤ k) (h2 : k ≤ 11) (h9 : k ≠ 9) (x y : Int32) (h5 : ¬ (k = 5 ∧ y = 0)) : F_X12_twoOf_55 I (nI k) x y = some (tw k x y) := by
  rcases (show k = 2 ∨ k = 3 ∨ k = 4 ∨ k = 5 ∨ k = 6 ∨ k = 7 ∨ k = 8 ∨ k = 10 ∨ k = 11 by omega) with rfl | rfl | rfl | rfl | rfl | rfl | rfl | rfl | rfl
  · rfl
  · rfl
  · rfl
  · show (if ¬ y = 0 then _ else _) = _
    rw [if_pos (fun e => h5 ⟨rfl, e⟩)]; rfl
  · show (if y ≤ x then _ else _) = some (if y ≤ x then _ else _); split <;> rfl
  · show (if x = y then _ else _) = some (if x = y then _ else _); split <;> rfl
  · show (if x ≤ y then _ else _) = some (if x ≤ y then _ else _); split <;> rfl
  · rfl
  · show (if x + y ≤ 0 then _ else _) = some (if x + y ≤ 0 then _ else _); split <;> rfl
theorem z400 (n : Nat) : (400 : Int32) * 0 + nI n = nI n := by rw [show (400 : Int32) * 0 = nI 0 by decide, nI_add, Nat.zero_add]
theorem e_isSo {I : am_IT} {F : Nat → Int32} {k0 l : Nat} {refs : List (Nat × Nat)} (hl : l < 16) (h76 : I 76 l = nI k0) (h77 : I 77 l = nI (k0 + refs.length)) (hk : k0 + refs.length ≤ 400) (hst : ∀ i a b, refs[i]? = some (a, b) → I 78 (k0 + i) = nI a ∧ (a ≤ 1 → I 79 (k0 + i) = nI b) ∧ a ≤ 11 ∧ (a = 1 → b < 6)) (hF : ∀ j, j < 6 → I 81 j = F j) (hne : 0 < refs.length) {v : Int32} (hev : evR F refs [] = some [v]) (f : Nat → Int32) : ∃ f', F_X12_isSo_55 (st2 I 82 f) 0 (nI l) = some (if v = 0 then 0 else 1, st2 I 82 f') := by
  unfold F_X12_isSo_55
  have hx : am_ix (nI l) 32 = true := am_ix_nI (by omega) (by decide)
  rw [if_pos hx, if_pos hx, nI_clamp (by omega), show (st2 I 82 f) 76 l = nI k0 from h76, show (st2 I 82 f) 77 l = nI (k0 + refs.length) from h77, if_neg (fun e => by have := (nI_eq (by omega) (by omega)).mp e; omega), if_pos hx, z400, am_let_s]
  refine it_b1_inv (R := fun z => ∃ f', z = some (if v = 0 then 0 else 1, st2 I 82 f')) (fun i x => ∃ s g, x = (nI s.length, nI (k0 + i), st2 I 82 g) ∧ stk g s ∧ s.length ≤ 420 ∧ evR F (refs.drop i) s = some [v]) (fun e => ∃ f', e = st2 I 82 f' ∧ f' 0 = v) (n := refs.length) (by omega) ?_ ?_ ⟨[], f, rfl, trivial, Nat.zero_le _, hev⟩ ?_
  rotate_left 2
  · rintro e ⟨f', rfl, hv⟩
    refine ⟨f', ?_⟩
    rw [if_pos (show am_ix (0 : Int32) 420 = true by decide), show (0 : Int32).toNatClampNeg = 0 from rfl, st2_s, hv]
    by_cases z : v = 0
    · rw [if_pos z, if_pos z]
    · rw [if_neg z, if_neg z]
  · rintro i x hi ⟨s, g, rfl, hs, hl2, he⟩
    obtain ⟨⟨a, n⟩, ho, hd⟩ := drop_c hi
    obtain ⟨h78, h79, ha, hb⟩ := hst i a n ho
    rw [hd] at he
    have hx8 : am_ix (nI (k0 + i)) 800 = true := am_ix_nI (by omega) (by decide)
    rw [am_u3_s, if_pos hx, show (st2 I 82 g) 77 l = nI (k0 + refs.length) from h77, z400, if_neg (nI_ge (a := k0 + i) (by omega) (by omega)), if_pos hx8, nI_clamp (by omega), show (st2 I 82 g) 78 (k0 + i) = nI a from h78]
    obtain ⟨s', hs', hev'⟩ : ∃ s', evR1 F (a, n) s = some s' ∧ evR F (refs.drop (i + 1)) s' = some [v] := by
      cases h1 : evR1 F (a, n) s with
      | none => rw [show evR F ((a, n) :: refs.drop (i + 1)) s = (evR1 F (a, n) s).bind (evR F (refs.drop (i + 1))) from rfl, h1] at he; cases he
      | some s' => rw [show evR F ((a, n) :: refs.drop (i + 1)) s = (evR1 F (a, n) s).bind (evR F (refs.drop (i + 1))) from rfl, h1] at he; exact ⟨s', rfl, he⟩
    unfold evR1 at hs'
    by_cases h0 : a = 0
    · subst h0
      rw [if_pos rfl] at hs'
      by_cases hsl : s.length < 420
      · rw [if_pos hsl] at hs'
        cases hs'
        rw [if_pos (show nI 0 = 0 from rfl), if_pos hx8, if_pos (show nI 0 = 0 from rfl), if_pos hx8, show (st2 I 82 g) 79 (k0 + i) = nI n from h79 (by omega), am_b1_s, if_pos (am_ix_nI hsl (by decide)), am_let_s, am_let_s, am_let_s, nI_clamp (by omega), st2_u]
        exact ⟨_, rfl, nI n :: s, _, by rw [nI_1, nI_1]; rfl, stk_p hs, by simp; omega, hev'⟩
      · rw [if_neg hsl] at hs'; cases hs'
    · have n0 : ¬ nI a = 0 := nI_ne0 (by omega) (by omega)
      rw [if_neg (show ¬ (a, n).1 = 0 from h0)] at hs'
      rw [if_neg n0, if_pos hx8]
      by_cases h1 : a = 1
      · subst h1
        rw [if_pos rfl] at hs'
        by_cases hsl : s.length < 420
        · rw [if_pos hsl] at hs'
          cases hs'
          rw [if_pos (show nI 1 = 1 from rfl), if_pos hx8, if_neg n0, if_pos hx8, show (st2 I 82 g) 79 (k0 + i) = nI n from h79 (by omega), if_pos (am_ix_nI (hb rfl) (by decide)), am_b1_s, if_pos (am_ix_nI hsl (by decide)), am_let_s, am_let_s, am_let_s, nI_clamp (show s.length < 2 ^ 31 by omega), nI_clamp (show n < 2 ^ 31 by have := hb rfl; omega), st2_u]
          have hFn : (st2 I 82 g) 81 n = F n := hF n (hb rfl)
          exact ⟨_, rfl, F n :: s, _, by rw [nI_1, nI_1, hFn]; rfl, stk_p hs, by simp; omega, hev'⟩
        · rw [if_neg hsl] at hs'; cases hs'
      · have n1 : ¬ nI a = 1 := fun e => h1 ((nI_eq (b := 1) (by omega) (by omega)).mp e)
        rw [if_neg (show ¬ (a, n).1 = 1 from h1)] at hs'
        rw [if_neg n1, if_pos hx8]
        by_cases h9 : a = 9
        · subst h9
          rw [if_pos rfl] at hs'
          cases s with
          | nil => cases hs'
          | cons q r =>
            cases hs'
            have hl' : r.length + 1 ≤ 420 := hl2
            have e1 : nI (q :: r).length - 1 = nI r.length := nI_dec _
            rw [if_pos (show nI 9 = 9 from rfl), e1, if_pos (am_ix_nI (by omega) (by decide)), if_pos (am_ix_nI (by omega) (by decide)), nI_clamp (by omega), st2_s, hs.1, am_let_s, am_let_s, st2_u]
            exact ⟨_, rfl, (1 - q) :: r, _, by rw [nI_1]; rfl, stk_p hs.2, hl2, hev'⟩
        · have n9 : ¬ nI a = 9 := fun e => h9 ((nI_eq (b := 9) (by omega) (by omega)).mp e)
          rw [if_neg (show ¬ (a, n).1 = 9 from h9)] at hs'
          rw [if_neg n9]
          match s, hs', hs, hl2 with
          | [], hs', _, _ => cases hs'
          | [_], hs', _, _ => cases hs'
          | yy :: xx :: r, hs', hs, hl2 =>
            have h5 : ¬ (a = 5 ∧ yy = 0) := fun h5 => by
              have hs2 : (if a = 5 ∧ yy = 0 then none else some (tw a xx yy :: r)) = some s' := hs'
              rw [if_pos h5] at hs2; cases hs2
            have hs2 : (if a = 5 ∧ yy = 0 then none else some (tw a xx yy :: r)) = some s' := hs'
            rw [if_neg h5] at hs2
            cases hs2
            have hl' : r.length + 1 + 1 ≤ 420 := hl2
            have e1 : nI (yy :: xx :: r).length - 1 = nI (r.length + 1) := nI_dec _
            have e2 : nI (r.length + 1) - 1 = nI r.length := nI_dec _
            rw [e1, am_let_s, if_pos hx8, e2, if_pos (am_ix_nI (by omega) (by decide)), if_pos (am_ix_nI (by omega) (by decide)), nI_clamp (by omega), nI_clamp (by omega), st2_s, show g (r.length + 1) = yy from hs.1, hs.2.1, e_tw _ (by omega) ha h9 _ _ h5, am_b1_s, if_pos (am_ix_nI (by omega) (by decide)), am_let_s, am_let_s, st2_u]
            exact ⟨_, rfl, tw a xx yy :: r, _, by rw [nI_1]; rfl, stk_p hs.2.2, by simp; omega, hev'⟩
  · rintro x ⟨s, g, rfl, hs, hl2, he⟩
    rw [List.drop_length] at he
    cases he
    rw [am_u3_s, if_pos hx, nI_clamp (by omega), show (st2 I 82 g) 77 l = nI (k0 + refs.length) from h77, z400, if_pos (nI_le (Nat.le_refl _) (by omega))]
    exact ⟨_, rfl, g, rfl, hs.1⟩
/-- truths and numbers -/
def wt : List Bool → List Int32 → Prop
  | [], [] => True
  | t :: ts, v :: s => (t = true → v = 0 ∨ v = 1) ∧ wt ts s
  | _, _ => False
theorem wt_l : ∀ {ts : List Bool} {s : List Int32}, wt ts s → ts.length = s.length
  | [], [], _ => rfl
  | _ :: _, _ :: _, h => congrArg (· + 1) (wt_l h.2)
  | [], _ :: _, h => h.elim
  | _ :: _, [], h => h.elim
theorem tf01 {p : Prop} [Decidable p] : (if p then (0 : Int32) else 1) = 0 ∨ (if p then (0 : Int32) else 1) = 1 := by split <;> simp
theorem tf10 {p : Prop} [Decidable p] : (if p then (1 : Int32) else 0) = 0 ∨ (if p then (1 : Int32) else 0) = 1 := by split <;> simp
theorem ev_both {F : Nat → Int32} : ∀ (code : List rOp) (s : List Int32) (ts ts' : List Bool), (∀ o ∈ code, rOpOk o) → rRun code ts = some ts' → wt ts s → s.length ≤ 32 → ∃ s', evC F code s = some s' ∧ evR F (rRefs code) s = some s' ∧ wt ts' s'
  | [], s, ts, ts', _, hr, hw, _ => by
    cases hr
    exact ⟨s, rfl, rfl, hw⟩
  | o :: code, s, ts, ts', hok, hr, hw, hl => by
    have ho := hok o (List.mem_cons_self ..)
    have hok' : ∀ o ∈ code, rOpOk o := fun o h => hok o (List.mem_cons_of_mem _ h)
    obtain ⟨ts1, h1, h2⟩ : ∃ ts1, rDep o ts = some ts1 ∧ rRun code ts1 = some ts' := by
      cases h : rDep o ts with
      | none => rw [show rRun (o :: code) ts = (rDep o ts).bind (rRun code) from rfl, h] at hr; cases hr
      | some t1 => rw [show rRun (o :: code) ts = (rDep o ts).bind (rRun code) from rfl, h] at hr; exact ⟨t1, rfl, hr⟩
    have hwl := wt_l hw
    -- one step
    have step : ∃ s1, evC1 F o s = some s1 ∧ wt ts1 s1 ∧ s1.length ≤ 32 ∧ ∀ rest, evR F (rRef o ++ rest) s = evR F rest s1 := by
      obtain ⟨k, n⟩ := o
      unfold rDep at h1
      rcases ho with ⟨h0, hn⟩ | ⟨h0, hn⟩ | ⟨h0, hn, hn2⟩ | ⟨h0, hn, hn2⟩
      · have h0' : k = 0 := h0
        subst h0'
        rw [if_pos (show (0, n).1 ≤ 1 from Nat.zero_le 1)] at h1
        by_cases hsl : ts.length < 32
        · rw [if_pos hsl] at h1
          cases h1
          refine ⟨nI n :: s, (show (if s.length < 32 then some (nI n :: s) else none) = _ from if_pos (by omega)), ⟨fun e => (by cases e), hw⟩, by simp; omega, fun rest => ?_⟩
          show (evR1 F (0, n) s).bind (evR F rest) = _
          rw [show evR1 F (0, n) s = some (nI n :: s) from (show (if s.length < 420 then some (nI n :: s) else none) = _ from if_pos (by omega))]; rfl
        · rw [if_neg hsl] at h1; cases h1
      · have h0' : k = 1 := h0
        subst h0'
        rw [if_pos (show (1, n).1 ≤ 1 from Nat.le_refl 1)] at h1
        by_cases hsl : ts.length < 32
        · rw [if_pos hsl] at h1
          cases h1
          refine ⟨F n :: s, (show (if s.length < 32 then some (F n :: s) else none) = _ from if_pos (by omega)), ⟨fun e => (by cases e), hw⟩, by simp; omega, fun rest => ?_⟩
          show (evR1 F (1, n) s).bind (evR F rest) = _
          rw [show evR1 F (1, n) s = some (F n :: s) from (show (if s.length < 420 then some (F n :: s) else none) = _ from if_pos (by omega))]; rfl
        · rw [if_neg hsl] at h1; cases h1
      · have h0' : k = 2 := h0
        subst h0'
        match ts, s, h1, hw, hl with
        | [], _, h1, _, _ => cases h1
        | true :: _, _, h1, _, _ => cases h1
        | false :: r, v :: q, h1, hw, hl =>
          cases h1
          have hl' : q.length + 1 ≤ 32 := hl
          refine ⟨(v / nI n) :: q, rfl, ⟨fun e => (by cases e), hw.2⟩, hl, fun rest => ?_⟩
          have hn' : 0 < n := hn
          have hn3 : n < 10000 := hn2
          show (evR1 F (0, n) (v :: q)).bind (fun z => (evR1 F (5, 0) z).bind (evR F rest)) = _
          rw [show evR1 F (0, n) (v :: q) = some (nI n :: v :: q) from if_pos (show q.length + 1 < 420 by omega)]
          show (if (5 : Nat) = 5 ∧ nI n = 0 then none else some (tw 5 v (nI n) :: q)).bind (evR F rest) = _
          rw [if_neg (fun e => nI_ne0 hn' (by omega) e.2)]; rfl
      · have hn' : k ≤ 11 := hn
        have h0' : 3 ≤ k := h0
        rcases (show k = 3 ∨ k = 4 ∨ k = 5 ∨ k = 6 ∨ k = 7 ∨ k = 8 ∨ k = 9 ∨ k = 10 ∨ k = 11 by omega) with rfl | rfl | rfl | rfl | rfl | rfl | rfl | rfl | rfl
        · match ts, s, h1, hw, hl with
          | [], _, h1, _, _ => cases h1
          | false :: _, _, h1, _, _ => cases h1
          | true :: r, v :: q, h1, hw, hl =>
            cases h1
            refine ⟨(1 - v) :: q, rfl, ⟨fun _ => ?_, hw.2⟩, hl, fun rest => rfl⟩
            rcases hw.1 rfl with rfl | rfl
            · exact Or.inr rfl
            · exact Or.inl rfl
        · match ts, s, h1, hw, hl with
          | [], _, h1, _, _ => cases h1
          | [_], _, h1, _, _ => revert h1; cases ‹Bool› <;> (intro h1; cases h1)
          | true :: _ :: _, _, h1, _, _ => cases h1
          | false :: true :: _, _, h1, _, _ => cases h1
          | false :: false :: r, yy :: xx :: q, h1, hw, hl =>
            cases h1
            have hl' : q.length + 1 + 1 ≤ 32 := hl
            refine ⟨jn 4 xx yy :: q, rfl, ⟨fun e => (by cases e), hw.2.2⟩, by simp; omega, fun rest => rfl⟩
        · match ts, s, h1, hw, hl with
          | [], _, h1, _, _ => cases h1
          | [_], _, h1, _, _ => revert h1; cases ‹Bool› <;> (intro h1; cases h1)
          | true :: _ :: _, _, h1, _, _ => cases h1
          | false :: true :: _, _, h1, _, _ => cases h1
          | false :: false :: r, yy :: xx :: q, h1, hw, hl =>
            cases h1
            have hl' : q.length + 1 + 1 ≤ 32 := hl
            refine ⟨jn 5 xx yy :: q, rfl, ⟨fun e => (by cases e), hw.2.2⟩, by simp; omega, fun rest => rfl⟩
        · match ts, s, h1, hw, hl with
          | [], _, h1, _, _ => cases h1
          | [_], _, h1, _, _ => revert h1; cases ‹Bool› <;> (intro h1; cases h1)
          | true :: _ :: _, _, h1, _, _ => cases h1
          | false :: true :: _, _, h1, _, _ => cases h1
          | false :: false :: r, yy :: xx :: q, h1, hw, hl =>
            cases h1
            have hl' : q.length + 1 + 1 ≤ 32 := hl
            refine ⟨jn 6 xx yy :: q, rfl, ⟨fun e => (by cases e), hw.2.2⟩, by simp; omega, fun rest => rfl⟩
        · match ts, s, h1, hw, hl with
          | [], _, h1, _, _ => cases h1
          | [_], _, h1, _, _ => revert h1; cases ‹Bool› <;> (intro h1; cases h1)
          | true :: _ :: _, _, h1, _, _ => cases h1
          | false :: true :: _, _, h1, _, _ => cases h1
          | false :: false :: r, yy :: xx :: q, h1, hw, hl =>
            cases h1
            have hl' : q.length + 1 + 1 ≤ 32 := hl
            refine ⟨jn 7 xx yy :: q, rfl, ⟨?_, hw.2.2⟩, by simp; omega, fun rest => rfl⟩
            exact fun _ => tf01 (p := yy ≤ xx)
        · match ts, s, h1, hw, hl with
          | [], _, h1, _, _ => cases h1
          | [_], _, h1, _, _ => revert h1; cases ‹Bool› <;> (intro h1; cases h1)
          | true :: _ :: _, _, h1, _, _ => cases h1
          | false :: true :: _, _, h1, _, _ => cases h1
          | false :: false :: r, yy :: xx :: q, h1, hw, hl =>
            cases h1
            have hl' : q.length + 1 + 1 ≤ 32 := hl
            refine ⟨jn 8 xx yy :: q, rfl, ⟨?_, hw.2.2⟩, by simp; omega, fun rest => rfl⟩
            exact fun _ => tf10 (p := xx = yy)
        · match ts, s, h1, hw, hl with
          | [], _, h1, _, _ => cases h1
          | [_], _, h1, _, _ => revert h1; cases ‹Bool› <;> (intro h1; cases h1)
          | true :: _ :: _, _, h1, _, _ => cases h1
          | false :: true :: _, _, h1, _, _ => cases h1
          | false :: false :: r, yy :: xx :: q, h1, hw, hl =>
            cases h1
            have hl' : q.length + 1 + 1 ≤ 32 := hl
            refine ⟨jn 9 xx yy :: q, rfl, ⟨?_, hw.2.2⟩, by simp; omega, fun rest => rfl⟩
            exact fun _ => tf01 (p := xx ≤ yy)
        · match ts, s, h1, hw, hl with
          | [], _, h1, _, _ => cases h1
          | [_], _, h1, _, _ => revert h1; cases ‹Bool› <;> (intro h1; cases h1)
          | false :: _ :: _, _, h1, _, _ => cases h1
          | true :: false :: _, _, h1, _, _ => cases h1
          | true :: true :: r, yy :: xx :: q, h1, hw, hl =>
            cases h1
            have hl' : q.length + 1 + 1 ≤ 32 := hl
            refine ⟨jn 10 xx yy :: q, rfl, ⟨?_, hw.2.2⟩, by simp; omega, fun rest => ?_⟩
            · intro _; rcases hw.1 rfl with rfl | rfl <;> rcases hw.2.1 rfl with rfl | rfl <;> first | exact Or.inl rfl | exact Or.inr rfl
            · rcases hw.1 rfl with rfl | rfl <;> rcases hw.2.1 rfl with rfl | rfl <;> rfl
        · match ts, s, h1, hw, hl with
          | [], _, h1, _, _ => cases h1
          | [_], _, h1, _, _ => revert h1; cases ‹Bool› <;> (intro h1; cases h1)
          | false :: _ :: _, _, h1, _, _ => cases h1
          | true :: false :: _, _, h1, _, _ => cases h1
          | true :: true :: r, yy :: xx :: q, h1, hw, hl =>
            cases h1
            have hl' : q.length + 1 + 1 ≤ 32 := hl
            refine ⟨jn 11 xx yy :: q, rfl, ⟨?_, hw.2.2⟩, by simp; omega, fun rest => ?_⟩
            · intro _; rcases hw.1 rfl with rfl | rfl <;> rcases hw.2.1 rfl with rfl | rfl <;> first | exact Or.inl rfl | exact Or.inr rfl
            · rcases hw.1 rfl with rfl | rfl <;> rcases hw.2.1 rfl with rfl | rfl <;> rfl
    obtain ⟨s1, c1, w1, l1, r1⟩ := step
    obtain ⟨s', c2, r2, w2⟩ := ev_both code s1 ts1 ts' hok' h2 w1 l1
    refine ⟨s', ?_, ?_, w2⟩
    · show (evC1 F o s).bind (evC F code) = _
      rw [c1]; exact c2
    · show evR F (rRef o ++ rRefs code) s = _
      rw [r1]; exact r2
