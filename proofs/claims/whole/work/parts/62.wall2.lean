theorem it_u5b4R {A B C D F E1 E2 E3 E4 Z : Type} {f : A → B → C → D → F → Option ((A × B × C × D × F) ⊕ (E1 × E2 × E3 × E4))} {k : E1 → E2 → E3 → E4 → Option Z} {R : Option Z → Prop} {a0 : A} {b0 : B} {c0 : C} {d0 : D} {f0 : F} {e1 : E1} {e2 : E2} {e3 : E3} {e4 : E4} {n : Nat} (P : Nat → A) (Q : Nat → B) (R' : Nat → C) (T : Nat → D) (U : Nat → F) (h0 : (a0, b0, c0, d0, f0) = (P 0, Q 0, R' 0, T 0, U 0)) (hn : n < 1000000) (hs : ∀ i, i < n → f (P i) (Q i) (R' i) (T i) (U i) = some (.inl (P (i + 1), Q (i + 1), R' (i + 1), T (i + 1), U (i + 1)))) (he : f (P n) (Q n) (R' n) (T n) (U n) = some (.inr (e1, e2, e3, e4))) (hk : R (k e1 e2 e3 e4)) : R (am_b4 (am_it am_fu (am_u5 f) (a0, b0, c0, d0, f0)) k) := by
  rw [it_u5b4 P Q R' T U h0 hn hs he rfl]; exact hk
theorem e_jc {I : am_IT} {p u c yr ln : Nat} {y : Nat → Int32} {s : Nat → Nat → Int32} {ls : List (Nat × List rOp)} {me se : Nat → Int32} (hp : I 55 5 = nI p) (hp7 : p ≤ 7) (hc : I 55 2 = nI c) (h1 : 2 ≤ c) (h2 : c ≤ 4) (hyr : I 55 13 = nI yr) (hyb : yr ≤ 1000) (hu : u < 7)
    (hY : ∀ j, j < p → ∃ h, h < 8 ∧ I 57 j = nI h ∧ I 83 (7 * h + u) = y j) (h0 : ∀ j, j < p → 0 ≤ y j)
    (hs : ∀ J : am_IT, J 55 = I 55 → J 64 = I 64 → ∀ i k, i < p → k < 4 → F_X12_says_55 J (nI i) (nI k) = some (s i k)) (hlen : ls.length = ln) (h16 : ln ≤ 16) (h32 : I 55 32 = nI ln)
    (q1 : ∀ (l m : Nat) (code : List rOp), ls[l]? = some (m, code) → m < 6 ∧ me l = nI (261 + m) ∧ I 75 l = nI (1 + m) ∧ (∀ o ∈ code, rOpOk o) ∧ (code = [] ∨ rRun code [] = some [true]) ∧
    se l = nI ((ls.take (l + 1)).map (fun q => q.2.length)).sum ∧ I 76 l = nI ((ls.take l).map (fun q => (rRefs q.2).length)).sum ∧ I 77 l = nI ((ls.take (l + 1)).map (fun q => (rRefs q.2).length)).sum)
    (q3 : (rRefs (ls.flatMap (fun q => q.2))).length ≤ 400) (q6 : ∀ k a b, (rRefs (ls.flatMap (fun q => q.2)))[k]? = some (a, b) → I 78 k = nI a ∧ (a ≤ 1 → I 79 k = nI b)) :
    ∃ J, F_X12_judgedColour_55 I (nI u) = some (dC ls (I 72 u) y s c p u yr, J) ∧ ∀ k, k ≠ 81 → k ≠ 82 → k ≠ 84 → J k = I k := by
  unfold F_X12_judgedColour_55
  have hz : (0 : Int32) + nI u = nI u := Int32.zero_add _
  refine it_u5b4R (R := fun z => ∃ J : am_IT, z = some (dC ls (I 72 u) y s c p u yr, J) ∧ ∀ k, k ≠ 81 → k ≠ 82 → k ≠ 84 → J k = I k) (fun i => nI (cN y i)) (fun i => fS y i) (fun i => fW y i) (fun i => fX y i) (fun i => nI i) (n := p) (e1 := nI (cN y p)) (e2 := fS y p) (e3 := fW y p) (e4 := fX y p) rfl (by omega) (fun i hi => ?_) ?_ ?_
  · obtain ⟨h, hh, e57, e83⟩ := hY i hi
    rw [hp, if_neg (nI_ge hi (by omega)), if_pos (am_ix_nI (by omega) (by decide)), nI_clamp (by omega), e57, m7', if_pos (am_ix_nI (by omega) (by decide)), am_let_s, nI_clamp (by omega), e83, nI_succ i]
    show _ = some (Sum.inl (nI (if y i = 0 then cN y i else cN y i + 1), (if y i = 0 then fS y i else fS y i + y i), (if y i = 0 then fW y i else if y i ≤ fX y i then fW y i else nI i), (if y i = 0 then fX y i else if y i ≤ fX y i then fX y i else y i), nI i + 1))
    by_cases z : y i = 0
    · rw [if_pos z, if_pos z, if_pos z, if_pos z, if_pos z]; rfl
    · rw [if_neg z, if_neg z, if_neg z, if_neg z, if_neg z, nI_succ]
      by_cases l : y i ≤ fX y i
      · rw [am_let_s, am_let_s, if_pos l, am_b1_s, if_pos l, if_pos l, if_pos l]; rfl
      · rw [am_let_s, am_let_s, if_neg l, am_b1_s, if_neg l, if_neg l, if_neg l]; rfl
  · rw [hp, if_pos (nI_le (Nat.le_refl p) (by omega))]
  · have hcn := cN_le y p
    by_cases z : cN y p = 0
    · refine ⟨I, ?_, fun _ _ _ _ => rfl⟩
      unfold dC
      rw [if_pos z, if_pos (show nI (cN y p) = 0 by rw [z]; rfl), hz, if_pos (am_ix_nI (by omega) (by decide)), nI_clamp (by omega)]
    · have hp1 : 1 ≤ p := by omega
      obtain ⟨f', hf'⟩ := e_mf (I := I) (F := fF u (nI (cN y p)) (fS y p) (fX y p) (I 72 u) (nI yr)) (n := nI (cN y p)) (s := fS y p) (x := fX y p) hlen h16 hu h32 q1 q3 q6 ⟨rfl, rfl, rfl, rfl, rfl, hyr.symm⟩
      have hm6 : pkM (fF u (nI (cN y p)) (fS y p) (fX y p) (I 72 u) (nI yr)) ls < 6 := pkM_6 _ (fun l m code h => (q1 l m code h).1)
      rw [if_neg (nI_ne0 (by omega) (by omega)), hf', am_b2_s]
      unfold dC
      rw [if_neg z]
      generalize pkM (fF u (nI (cN y p)) (fS y p) (fX y p) (I 72 u) (nI yr)) ls = m at hm6 ⊢
      have ag : ∀ k, k ≠ 81 → k ≠ 82 → (st2 (mJ I u (nI (cN y p)) (fS y p) (fX y p)) 82 f') k = I k := fun k h1 h2 => (st2_k _ _ h2).trans (mJ_k I u _ _ _ h1)
      generalize st2 (mJ I u (nI (cN y p)) (fS y p) (fX y p)) 82 f' = K at ag ⊢
      have k55 := ag 55 (by decide) (by decide)
      have k57 := ag 57 (by decide) (by decide)
      have k64 := ag 64 (by decide) (by decide)
      have k72 := ag 72 (by decide) (by decide)
      have k83 := ag 83 (by decide) (by decide)
      have hbc : ∀ q, q < p → F_X12_bestColourOf_55 K (nI q) = some (nI (fv (s q) (c - 1))) := fun q hq => e_bc (by rw [k55]; exact hc) h1 h2 (fun k hk => hs K k55 k64 q k hq hk)
      have hbs : m < 6 → F_X12_byScores_55 K (nI (1 + m)) (nI u) = some (nI (fv (fun k => pS y s c m k p) (c - 1)), st2 K 84 (bG K y s c m p 0)) := fun hm => e_bs (by rw [k55]; exact hp) hp7 (by rw [k55]; exact hc) h1 h2 hm hu (by rw [k57, k83]; exact hY) (fun f i k hi hk => hs (st2 K 84 f) ((st2_k _ _ (by decide)).trans k55) ((st2_k _ _ (by decide)).trans k64) i k hi hk)
      have hbs' : ∃ J, F_X12_byScores_55 K (nI (1 + m)) (nI u) = some (nI (fv (fun k => pS y s c m k p) (c - 1)), J) ∧ ∀ k, k ≠ 81 → k ≠ 82 → k ≠ 84 → J k = I k := ⟨_, hbs hm6, fun k h1 h2 h3 => (st2_k _ _ h3).trans (ag k h1 h2)⟩
      have agK : ∀ k, k ≠ 81 → k ≠ 82 → k ≠ 84 → K k = I k := fun k h1 h2 _ => ag k h1 h2
      rcases (show m = 0 ∨ m = 1 ∨ m = 2 ∨ m = 3 ∨ m = 4 ∨ m = 5 by omega) with rfl | rfl | rfl | rfl | rfl | rfl
      · refine ⟨K, ?_, agK⟩
        have hl := fv_le y (p - 1)
        have hw : fW y p = nI (fv y (p - 1)) := by
          rcases fW_fv (y := y) (i := p) h0 with ⟨a1, -⟩ | ⟨-, -, a3, -⟩
          · exact absurd a1 z
          · exact a3
        rw [if_neg (show ¬ nI (1 + 0) = (6 : Int32) by decide), if_pos (show nI (1 + 0) = (1 : Int32) from rfl), hw, hbc _ (by omega), am_b1_s]
        rfl
      · obtain ⟨J, hJ, hJ2⟩ := hbs'
        refine ⟨J, ?_, hJ2⟩
        rw [if_neg (show ¬ nI (1 + 1) = (6 : Int32) by decide), if_neg (show ¬ nI (1 + 1) = (1 : Int32) by decide), if_neg (show ¬ nI (1 + 1) = (5 : Int32) by decide), hJ, am_b2_s]
        rfl
      · obtain ⟨J, hJ, hJ2⟩ := hbs'
        refine ⟨J, ?_, hJ2⟩
        rw [if_neg (show ¬ nI (1 + 2) = (6 : Int32) by decide), if_neg (show ¬ nI (1 + 2) = (1 : Int32) by decide), if_neg (show ¬ nI (1 + 2) = (5 : Int32) by decide), hJ, am_b2_s]
        rfl
      · obtain ⟨J, hJ, hJ2⟩ := hbs'
        refine ⟨J, ?_, hJ2⟩
        rw [if_neg (show ¬ nI (1 + 3) = (6 : Int32) by decide), if_neg (show ¬ nI (1 + 3) = (1 : Int32) by decide), if_neg (show ¬ nI (1 + 3) = (5 : Int32) by decide), hJ, am_b2_s]
        rfl
      · refine ⟨K, ?_, agK⟩
        have hq : (yr + u) % p < p := Nat.mod_lt _ hp1
        obtain ⟨h, hh, e57, e83⟩ := hY _ hq
        rw [if_neg (show ¬ nI (1 + 4) = (6 : Int32) by decide), if_neg (show ¬ nI (1 + 4) = (1 : Int32) by decide), if_pos (show nI (1 + 4) = (5 : Int32) from rfl), k55, hp, hyr, if_pos (nI_ne0 hp1 (by omega)), nI_add, tn (by omega) hp1 (by omega), am_let_s, if_pos (am_ix_nI (by omega) (by decide)), nI_clamp (by omega), k57, e57, m7', if_pos (am_ix_nI (by omega) (by decide)), nI_clamp (by omega), k83, e83, hz, if_pos (am_ix_nI (by omega) (by decide)), nI_clamp (by omega), k72, hbc _ hq, am_b1_s]
        show (if y ((yr + u) % p) ≤ 0 then _ else _) = some ((if y ((yr + u) % p) ≤ 0 then _ else _), K)
        by_cases l : y ((yr + u) % p) ≤ 0
        · rw [if_pos l, if_pos l]
        · rw [if_neg l, if_neg l]
      · refine ⟨K, ?_, agK⟩
        rw [if_pos (show nI (1 + 5) = (6 : Int32) from rfl), hz, if_pos (am_ix_nI (by omega) (by decide)), nI_clamp (by omega), k72]
        rfl
