theorem rRef_ne (o : rOp) : 0 < (rRef o).length := by
  unfold rRef
  repeat' split
  all_goals exact Nat.succ_pos _
theorem rRefs_ne {code : List rOp} (h : 0 < code.length) : 0 < (rRefs code).length := by
  cases code with
  | nil => exact absurd h (by decide)
  | cons o r =>
    show 0 < (rRef o ++ rRefs r).length
    rw [List.length_append]
    have := rRef_ne o
    omega
theorem rRef_ok {o : rOp} (h : rOpOk o) {a b : Nat} (hm : (a, b) ∈ rRef o) : a ≤ 11 ∧ (a = 1 → b < 6) := by
  obtain ⟨k, n⟩ := o
  have go : ∀ {c d : Nat}, (a, b) ∈ [(c, d)] → c ≤ 11 → (c = 1 → d < 6) → a ≤ 11 ∧ (a = 1 → b < 6) := by
    intro c d hm h1 h2
    have e := List.mem_singleton.mp hm
    cases e
    exact ⟨h1, h2⟩
  rcases h with ⟨h0, hn⟩ | ⟨h0, hn⟩ | ⟨h0, hn, hn2⟩ | ⟨h0, hn, hn2⟩
  · have h0' : k = 0 := h0
    subst h0'
    exact go hm (by decide) (fun e => by cases e)
  · have h0' : k = 1 := h0
    subst h0'
    exact go hm (by decide) (fun _ => hn)
  · have h0' : k = 2 := h0
    subst h0'
    have hm2 : (a, b) ∈ [(0, n), (5, 0)] := hm
    rcases List.mem_cons.mp hm2 with e | e
    · cases e; exact ⟨by decide, fun e => by cases e⟩
    · exact go e (by decide) (fun e => by cases e)
  · have hn' : k ≤ 11 := hn
    have h0' : 3 ≤ k := h0
    rcases (show k = 3 ∨ k = 4 ∨ k = 5 ∨ k = 6 ∨ k = 7 ∨ k = 8 ∨ k = 9 ∨ k = 10 ∨ k = 11 by omega) with rfl | rfl | rfl | rfl | rfl | rfl | rfl | rfl | rfl <;> exact go hm (by decide) (fun e => by cases e)
theorem rRefs_fm (ls : List (Nat × List rOp)) : rRefs (ls.flatMap (fun q => q.2)) = ls.flatMap (fun q => rRefs q.2) := by
  induction ls with
  | nil => rfl
  | cons q l ih =>
    rw [List.flatMap_cons, List.flatMap_cons, ← ih]
    unfold rRefs
    rw [List.flatMap_append]
def mJ (I : am_IT) (u : Nat) (n s x : Int32) : am_IT := up2 (up2 (up2 (up2 (up2 (up2 I 81 0 (nI u)) 81 1 n) 81 2 s) 81 3 x) 81 4 (I 72 u)) 81 5 (I 55 13)
theorem rl_mod {I : am_IT} {ls : List (Nat × List rOp)}
    (hP : ∀ (l m : Nat) (code : List rOp), ls[l]? = some (m, code) → ∀ o ∈ code, rOpOk o)
    (q3 : (rRefs (ls.flatMap (fun q => q.2))).length ≤ 400) (q6 : ∀ k a b, (rRefs (ls.flatMap (fun q => q.2)))[k]? = some (a, b) → I 78 k = nI a ∧ (a ≤ 1 → I 79 k = nI b)) {l m : Nat} {code : List rOp} (hl : ls[l]? = some (m, code)) (hc : 0 < code.length) :
    ((ls.take l).map (fun q => (rRefs q.2).length)).sum + (rRefs code).length ≤ 400 ∧ ∀ i a b, (rRefs code)[i]? = some (a, b) → I 78 (((ls.take l).map (fun q => (rRefs q.2).length)).sum + i) = nI a ∧ (a ≤ 1 → I 79 (((ls.take l).map (fun q => (rRefs q.2).length)).sum + i) = nI b) ∧ a ≤ 11 ∧ (a = 1 → b < 6) := by
  have fa := fun i hi => flat_at (fun q : Nat × List rOp => rRefs q.2) ls l (m, code) i hl hi
  rw [rRefs_fm] at q3
  have hr := rRefs_ne hc
  refine ⟨?_, fun i a b ho => ?_⟩
  · have h := fa ((rRefs code).length - 1) (by show (rRefs code).length - 1 < (rRefs code).length; omega)
    rw [show (rRefs ((m, code) : Nat × List rOp).2)[(rRefs code).length - 1]? = some ((rRefs code)[(rRefs code).length - 1]'(by omega)) from List.getElem?_eq_getElem _] at h
    have := lt_of_get h
    omega
  · have hi := lt_of_get ho
    have h := (fa i hi).trans ho
    rw [← rRefs_fm] at h
    obtain ⟨e1, e2⟩ := q6 _ a b h
    obtain ⟨o, ho1, ho2⟩ := List.mem_flatMap.mp (List.mem_of_getElem? ho)
    obtain ⟨e3, e4⟩ := rRef_ok (hP l m code hl o ho1) ho2
    exact ⟨e1, e2, e3, e4⟩
theorem e_mf {I : am_IT} {F : Nat → Int32} {ln u : Nat} {n s x : Int32} {ls : List (Nat × List rOp)} {me se : Nat → Int32} (hlen : ls.length = ln) (h16 : ln ≤ 16) (hu : u < 7) (h32 : I 55 32 = nI ln)
    (q1 : ∀ l m code, ls[l]? = some (m, code) → m < 6 ∧ me l = nI (261 + m) ∧ I 75 l = nI (1 + m) ∧ (∀ o ∈ code, rOpOk o) ∧ (code = [] ∨ rRun code [] = some [true]) ∧
    se l = nI ((ls.take (l + 1)).map (fun q => q.2.length)).sum ∧ I 76 l = nI ((ls.take l).map (fun q => (rRefs q.2).length)).sum ∧ I 77 l = nI ((ls.take (l + 1)).map (fun q => (rRefs q.2).length)).sum)
    (q3 : (rRefs (ls.flatMap (fun q => q.2))).length ≤ 400) (q6 : ∀ k a b, (rRefs (ls.flatMap (fun q => q.2)))[k]? = some (a, b) → I 78 k = nI a ∧ (a ≤ 1 → I 79 k = nI b))
    (hF : F 0 = nI u ∧ F 1 = n ∧ F 2 = s ∧ F 3 = x ∧ F 4 = I 72 u ∧ F 5 = I 55 13) : ∃ f', F_X12_methodFor_55 I (nI u) n s x = some (nI (1 + pkM F ls), st2 (mJ I u n s x) 82 f') := by
  unfold F_X12_methodFor_55
  rw [if_pos (by decide), am_let_s, if_pos (by decide), am_let_s, if_pos (by decide), am_let_s, if_pos (by decide), am_let_s, show (0 : Int32) + nI u = nI u from Int32.zero_add _, if_pos (am_ix_nI (by omega) (by decide)), if_pos (by decide), am_let_s, if_pos (by decide), am_let_s, nI_clamp (by omega)]
  have hJ : ∀ j, j < 6 → (mJ I u n s x) 81 j = F j := by
    intro j hj
    obtain ⟨f0, f1, f2, f3, f4, f5⟩ := hF
    rcases (show j = 0 ∨ j = 1 ∨ j = 2 ∨ j = 3 ∨ j = 4 ∨ j = 5 by omega) with rfl | rfl | rfl | rfl | rfl | rfl
    · exact f0.symm
    · exact f1.symm
    · exact f2.symm
    · exact f3.symm
    · exact f4.symm
    · exact f5.symm
  show ∃ f', am_lr (am_it am_fu _ (0, mJ I u n s x)) _ = _
  refine it_lr_ex (R := fun z => ∃ f', z = some (nI (1 + pkM F ls), st2 (mJ I u n s x) 82 f')) (fun i z => ∃ g, z = (nI i, st2 (mJ I u n s x) 82 g) ∧ pkM F (ls.drop i) = pkM F ls) (fun e => ∃ g, (e = .inl (st2 (mJ I u n s x) 82 g) ∧ pkM F ls = 5) ∨ e = .inr (nI (1 + pkM F ls), st2 (mJ I u n s x) 82 g)) (n := ln) (by omega) ?_ ?_ ⟨(mJ I u n s x) 82, by rw [st2_I]; rfl, rfl⟩ ?_
  · rintro l z hl ⟨g, rfl, hp⟩
    obtain ⟨⟨m, code⟩, ho, hd⟩ := drop_c (l := ls) (i := l) (by omega)
    obtain ⟨hm, -, e75, hok, hrun, -, e76, e77⟩ := q1 l m code ho
    have hx : am_ix (nI l) 32 = true := am_ix_nI (by omega) (by decide)
    have hsum := sum_at (fun q : Nat × List rOp => (rRefs q.2).length) ls l (m, code) ho
    rw [hsum] at e77
    rw [hd] at hp
    rw [am_u2_s, show (st2 (mJ I u n s x) 82 g) 55 32 = nI ln from h32, if_neg (nI_ge hl (by omega))]
    by_cases h0 : code.length = 0
    · refine Or.inr ?_
      have hc : code = [] := List.eq_nil_of_length_eq_zero h0
      subst hc
      have es : F_X12_isSo_55 (st2 (mJ I u n s x) 82 g) 0 (nI l) = some (1, st2 (mJ I u n s x) 82 g) := by
        unfold F_X12_isSo_55
        rw [if_pos hx, if_pos hx, nI_clamp (by omega), show (st2 (mJ I u n s x) 82 g) 76 l = _ from e76, show (st2 (mJ I u n s x) 82 g) 77 l = _ from e77, if_pos (show nI ((ls.take l).map (fun q => (rRefs q.2).length)).sum = nI (((ls.take l).map (fun q => (rRefs q.2).length)).sum + (rRefs ((m, []) : Nat × List rOp).2).length) from rfl)]
      rw [es, am_b2_s, if_neg (show ¬ (1 : Int32) = 0 by decide), if_pos hx, nI_clamp (by omega), show (st2 (mJ I u n s x) 82 g) 75 l = nI (1 + m) from e75]
      refine ⟨_, rfl, g, Or.inr ?_⟩
      rw [← hp, show pkM F ((m, []) :: ls.drop (l + 1)) = m from if_pos (Or.inl rfl)]
    · obtain ⟨hk, hst⟩ := rl_mod (fun l m code h => (q1 l m code h).2.2.2.1) q3 q6 ho (by omega)
      have hrun' : rRun code [] = some [true] := by
        rcases hrun with h | h
        · rw [h] at h0; exact absurd rfl h0
        · exact h
      obtain ⟨s', c1, c2, w1⟩ := ev_both (F := F) code [] [] [true] hok hrun' trivial (by simp)
      obtain ⟨v, rfl⟩ : ∃ v, s' = [v] := by
        match s', w1 with
        | [v], _ => exact ⟨v, rfl⟩
        | _ :: _ :: _, w => exact w.2.elim
      obtain ⟨g', hg⟩ := e_isSo (I := mJ I u n s x) (by omega) e76 e77 hk hst hJ (rRefs_ne (code := code) (Nat.pos_of_ne_zero h0)) c2 g
      have hv : lnV F code = v := by unfold lnV; rw [c1]
      rw [hg, am_b2_s]
      by_cases z : v = 0
      · refine Or.inl ?_
        rw [if_pos z, if_pos (show (0 : Int32) = 0 from rfl), am_let_s, nI_1]
        refine ⟨_, rfl, g', rfl, ?_⟩
        rw [← hp]
        exact (if_neg (fun e => by
          rcases e with e | e
          · exact h0 e
          · exact e (hv.trans z))).symm
      · refine Or.inr ?_
        rw [if_neg z, if_neg (show ¬ (1 : Int32) = 0 by decide), if_pos hx, nI_clamp (by omega), show (st2 (mJ I u n s x) 82 g') 75 l = nI (1 + m) from e75]
        refine ⟨_, rfl, g', Or.inr ?_⟩
        rw [← hp, show pkM F ((m, code) :: ls.drop (l + 1)) = m from if_pos (Or.inr (fun e => z (hv.symm.trans e)))]
  · rintro z ⟨g, rfl, hp⟩
    rw [am_u2_s, show (st2 (mJ I u n s x) 82 g) 55 32 = nI ln from h32, if_pos (nI_le (Nat.le_refl _) (by omega))]
    rw [← hlen, List.drop_length] at hp
    exact ⟨_, rfl, g, Or.inl ⟨rfl, hp.symm⟩⟩
  · rintro e ⟨g, ⟨rfl, h5⟩ | rfl⟩
    · rw [am_lr_l, h5]; exact ⟨g, rfl⟩
    · rw [am_lr_r]; exact ⟨g, rfl⟩
