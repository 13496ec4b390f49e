theorem am_it_ex {X E : Type} {f : X → Option (X ⊕ E)} (Inv : Nat → X → Prop) (Post : E → Prop) {n : Nat} (hn : n < 1000000) (hs : ∀ i x, i < n → Inv i x → (∃ y, f x = some (.inl y) ∧ Inv (i + 1) y) ∨ (∃ e, f x = some (.inr e) ∧ Post e)) (he : ∀ x, Inv n x → ∃ e, f x = some (.inr e) ∧ Post e) {x0 : X} (h0 : Inv 0 x0) : ∃ e, am_it am_fu f x0 = some e ∧ Post e := by
  have go : ∀ (m i : Nat) (x : X), i ≤ n → n < i + m → Inv i x → ∃ e, am_it m f x = some e ∧ Post e := by
    intro m
    induction m with
    | zero => intro i x h1 h2; omega
    | succ m ih =>
      intro i x h1 h2 hi
      unfold am_it
      by_cases h : i = n
      · subst h
        obtain ⟨e, he1, he2⟩ := he x hi
        rw [he1]; exact ⟨e, rfl, he2⟩
      · rcases hs i x (by omega) hi with ⟨z, hz1, hz2⟩ | ⟨e, he1, he2⟩
        · rw [hz1]
          exact ih (i + 1) z (by omega) (by omega) hz2
        · rw [he1]; exact ⟨e, rfl, he2⟩
  exact go am_fu 0 x0 (Nat.zero_le _) (by show n < 0 + 1000000; omega) h0
theorem it_lr_ex {X E Z : Type} {f : X → Option (X ⊕ (E ⊕ Z))} {k : E → Option Z} {x0 : X} {R : Option Z → Prop} (Inv : Nat → X → Prop) (Post : (E ⊕ Z) → Prop) {n : Nat} (hn : n < 1000000) (hs : ∀ i x, i < n → Inv i x → (∃ y, f x = some (.inl y) ∧ Inv (i + 1) y) ∨ (∃ e, f x = some (.inr e) ∧ Post e)) (he : ∀ x, Inv n x → ∃ e, f x = some (.inr e) ∧ Post e) (h0 : Inv 0 x0) (hk : ∀ e, Post e → R (am_lr (some e) k)) : R (am_lr (am_it am_fu f x0) k) := by
  obtain ⟨e, h1, h2⟩ := am_it_ex Inv Post hn hs he h0
  rw [h1]
  exact hk e h2
theorem flat_at {α β : Type} (f : α → List β) : ∀ (ls : List α) (l : Nat) (x : α) (i : Nat), ls[l]? = some x → i < (f x).length → (ls.flatMap f)[((ls.take l).map (fun q => (f q).length)).sum + i]? = (f x)[i]?
  | [], l, x, i, h, _ => by simp at h
  | y :: ls, 0, x, i, h, hi => by
    have e : y = x := by simpa using h
    subst e
    rw [List.flatMap_cons]
    show (f y ++ ls.flatMap f)[0 + i]? = _
    rw [Nat.zero_add, List.getElem?_append_left hi]
  | y :: ls, l + 1, x, i, h, hi => by
    have h' : ls[l]? = some x := by simpa using h
    have ih := flat_at f ls l x i h' hi
    rw [List.flatMap_cons, show ((y :: ls).take (l + 1)).map (fun q => (f q).length) = (f y).length :: (ls.take l).map (fun q => (f q).length) from rfl, List.sum_cons, Nat.add_assoc, List.getElem?_append_right (Nat.le_add_right _ _), Nat.add_sub_cancel_left]
    exact ih
theorem sum_at {α : Type} (g : α → Nat) : ∀ (ls : List α) (l : Nat) (x : α), ls[l]? = some x → ((ls.take (l + 1)).map g).sum = ((ls.take l).map g).sum + g x
  | [], l, x, h => by simp at h
  | y :: ls, 0, x, h => by
    have e : y = x := by simpa using h
    subst e
    show ([g y] : List Nat).sum = _
    simp
  | y :: ls, l + 1, x, h => by
    have h' : ls[l]? = some x := by simpa using h
    have ih := sum_at g ls l x h'
    rw [show ((y :: ls).take (l + 1 + 1)).map g = g y :: (ls.take (l + 1)).map g from rfl, show ((y :: ls).take (l + 1)).map g = g y :: (ls.take l).map g from rfl, List.sum_cons, List.sum_cons, ih, Nat.add_assoc]
theorem lt_of_get {α : Type} {l : List α} {i : Nat} {x : α} (h : l[i]? = some x) : i < l.length := by
  rcases Nat.lt_or_ge i l.length with h1 | h1
  · exact h1
  · rw [List.getElem?_eq_none h1] at h; cases h
def lnV (F : Nat → Int32) (code : List rOp) : Int32 := match evC F code [] with
  | some [v] => v
  | _ => 0
/-- the method of the first line whose condition holds, from 0; 5 if none does -/
def pkM (F : Nat → Int32) : List (Nat × List rOp) → Nat
  | [] => 5
  | q :: l => if q.2.length = 0 ∨ ¬ lnV F q.2 = 0 then q.1 else pkM F l
/-- what a line's numbers are in the class and in the reference -/
theorem rl_cls {I : am_IT} {ls : List (Nat × List rOp)} {lw lf lt : Nat → Int32}
    (q1 : ∀ l m code, ls[l]? = some (m, code) → m < 6 ∧ I 12 l = nI (261 + m) ∧ lw l = nI (1 + m) ∧ (∀ o ∈ code, rOpOk o) ∧ (code = [] ∨ rRun code [] = some [true]) ∧
    I 13 l = nI ((ls.take (l + 1)).map (fun q => q.2.length)).sum ∧ lf l = nI ((ls.take l).map (fun q => (rRefs q.2).length)).sum ∧ lt l = nI ((ls.take (l + 1)).map (fun q => (rRefs q.2).length)).sum)
    (q2 : (ls.flatMap (fun q => q.2)).length ≤ 400) (q5 : ∀ k o, (ls.flatMap (fun q => q.2))[k]? = some o → I 14 k = nI (16 * o.2 + o.1)) {l m : Nat} {code : List rOp} (hl : ls[l]? = some (m, code)) (hc : 0 < code.length) :
    ((ls.take l).map (fun q => q.2.length)).sum + code.length ≤ 400 ∧ ∀ i o, code[i]? = some o → I 14 (((ls.take l).map (fun q => q.2.length)).sum + i) = nI (16 * o.2 + o.1) ∧ rOpOk o := by
  have fa := fun i hi => flat_at (fun q : Nat × List rOp => q.2) ls l (m, code) i hl hi
  refine ⟨?_, fun i o ho => ?_⟩
  · have h := fa (code.length - 1) (by show code.length - 1 < code.length; omega)
    rw [show ((m, code) : Nat × List rOp).2[code.length - 1]? = some (code[code.length - 1]'(by omega)) from List.getElem?_eq_getElem _] at h
    have := lt_of_get h
    omega
  · have hi := lt_of_get ho
    have h := fa i hi
    exact ⟨q5 _ o (h.trans ho), (q1 l m code hl).2.2.2.1 o (List.mem_of_getElem? ho)⟩
theorem e_sf {I : am_IT} {ls : List (Nat × List rOp)} {l : Nat} (hl : l < ls.length) (h16 : ls.length ≤ 16) (q : ∀ l m code, ls[l]? = some (m, code) → I 13 l = nI ((ls.take (l + 1)).map (fun q => q.2.length)).sum) : F_X6_stepsFrom_11 I (nI l) = some (nI ((ls.take l).map (fun q => q.2.length)).sum) := by
  unfold F_X6_stepsFrom_11
  cases l with
  | zero => rfl
  | succ l =>
    have e := q l (ls[l]).1 (ls[l]).2 (List.getElem?_eq_getElem (by omega))
    rw [if_neg (show ¬ nI (l + 1) ≤ 0 from nI_ge (a := 0) (by omega) (by omega)), if_neg (show ¬ (16 : Int32) < nI (l + 1) from Int32.not_lt.mpr (nI_le (b := 16) (by omega) (by decide))), nI_dec, if_pos (am_ix_nI (by omega) (by decide)), nI_clamp (by omega), e]
theorem e_cm {I : am_IT} {F : Nat → Int32} {ln : Nat} {ls : List (Nat × List rOp)} {lw lf lt : Nat → Int32} (hlen : ls.length = ln) (h16 : ln ≤ 16) (h11 : I 11 0 = nI ln)
    (q1 : ∀ l m code, ls[l]? = some (m, code) → m < 6 ∧ I 12 l = nI (261 + m) ∧ lw l = nI (1 + m) ∧ (∀ o ∈ code, rOpOk o) ∧ (code = [] ∨ rRun code [] = some [true]) ∧
    I 13 l = nI ((ls.take (l + 1)).map (fun q => q.2.length)).sum ∧ lf l = nI ((ls.take l).map (fun q => (rRefs q.2).length)).sum ∧ lt l = nI ((ls.take (l + 1)).map (fun q => (rRefs q.2).length)).sum)
    (q2 : (ls.flatMap (fun q => q.2)).length ≤ 400) (q5 : ∀ k o, (ls.flatMap (fun q => q.2))[k]? = some o → I 14 k = nI (16 * o.2 + o.1)) (hF : ∀ j, j < 6 → I 28 j = F j) (f : Nat → Int32) : ∃ f', F_X2_chosenMethod_25 (st2 I 29 f) = some (nI (261 + pkM F ls), st2 I 29 f') := by
  unfold F_X2_chosenMethod_25
  refine it_lr_ex (R := fun z => ∃ f', z = some (nI (261 + pkM F ls), st2 I 29 f')) (fun i x => ∃ g, x = (nI i, st2 I 29 g) ∧ pkM F (ls.drop i) = pkM F ls) (fun e => ∃ g, (e = .inl (st2 I 29 g) ∧ pkM F ls = 5) ∨ e = .inr (nI (261 + pkM F ls), st2 I 29 g)) (n := ln) (by omega) ?_ ?_ ⟨f, rfl, rfl⟩ ?_
  · rintro l x hl ⟨g, rfl, hp⟩
    obtain ⟨⟨m, code⟩, ho, hd⟩ := drop_c (l := ls) (i := l) (by omega)
    obtain ⟨hm, e12, -, hok, hrun, e13, -, -⟩ := q1 l m code ho
    have hx : am_ix (nI l) 16 = true := am_ix_nI (by omega) (by decide)
    have hsum := sum_at (fun q : Nat × List rOp => q.2.length) ls l (m, code) ho
    rw [hd] at hp
    rw [am_u2_s, show (st2 I 29 g) 11 0 = nI ln from h11, if_neg (nI_ge hl (by omega)), if_neg (show ¬ (16 : Int32) ≤ nI l from nI_ge (b := 16) (by omega) (by decide)), e_sf (I := st2 I 29 g) (ls := ls) (by omega) (by omega) (fun l m code h => (q1 l m code h).2.2.2.2.2.1), am_b1_s, if_pos hx, nI_clamp (by omega), show (st2 I 29 g) 13 l = _ from e13, am_let_s, hsum]
    by_cases h0 : code.length = 0
    · refine Or.inr ?_
      rw [if_pos (by rw [show ((m, code) : Nat × List rOp).2.length = 0 from h0]; rfl), if_pos hx, show (st2 I 29 g) 12 l = nI (261 + m) from e12]
      refine ⟨_, rfl, g, Or.inr ?_⟩
      rw [← hp, show pkM F ((m, code) :: ls.drop (l + 1)) = m from if_pos (Or.inl h0)]
    · obtain ⟨hk, hst⟩ := rl_cls (lw := lw) q1 q2 q5 ho (by omega)
      have hrun' : rRun code [] = some [true] := by
        rcases hrun with h | h
        · rw [h] at h0; exact absurd rfl h0
        · exact h
      obtain ⟨s', c1, -, w1⟩ := ev_both (F := F) code [] [] [true] hok hrun' trivial (by simp)
      obtain ⟨v, rfl⟩ : ∃ v, s' = [v] := by
        match s', w1 with
        | [v], _ => exact ⟨v, rfl⟩
        | _ :: _ :: _, w => exact w.2.elim
      obtain ⟨g', hg⟩ := e_holds (I := I) hk hst hF c1 g
      have hv : lnV F code = v := by unfold lnV; rw [c1]
      rw [if_neg (fun e => by have := (nI_eq (by omega) (by show _ + code.length < _; omega)).mp e; have h2 : ((m, code) : Nat × List rOp).2.length = code.length := rfl; omega), show F_X2_holds_25 (st2 I 29 g) (nI ((ls.take l).map (fun q => q.2.length)).sum) (nI (((ls.take l).map (fun q => q.2.length)).sum + ((m, code) : Nat × List rOp).2.length)) = _ from hg, am_b2_s]
      by_cases z : v = 0
      · refine Or.inl ?_
        rw [if_pos z, if_pos (show (0 : Int32) = 0 from rfl), am_let_s, nI_1]
        refine ⟨_, rfl, g', rfl, ?_⟩
        rw [← hp]
        exact (if_neg (fun e => by
          rcases e with e | e
          · exact h0 e
          · exact e (hv.trans z))).symm
      · refine Or.inr ?_
        rw [if_neg z, if_neg (show ¬ (1 : Int32) = 0 by decide), if_pos hx, show (st2 I 29 g') 12 l = nI (261 + m) from e12]
        refine ⟨_, rfl, g', Or.inr ?_⟩
        rw [← hp, show pkM F ((m, code) :: ls.drop (l + 1)) = m from if_pos (Or.inr (fun e => z (hv.symm.trans e)))]
  · rintro x ⟨g, rfl, hp⟩
    rw [am_u2_s, show (st2 I 29 g) 11 0 = nI ln from h11, if_pos (nI_le (Nat.le_refl _) (by omega))]
    rw [← hlen, List.drop_length] at hp
    exact ⟨_, rfl, g, Or.inl ⟨rfl, hp.symm⟩⟩
  · rintro e ⟨g, ⟨rfl, h5⟩ | rfl⟩
    · rw [am_lr_l, h5]; exact ⟨g, rfl⟩
    · rw [am_lr_r]; exact ⟨g, rfl⟩
