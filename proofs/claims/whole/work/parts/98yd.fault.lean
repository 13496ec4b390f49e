/-! text: on a fault -/
theorem RE_of {b : Bool} {I I1 : am_IT} {n : Nat} (hn : n ≤ 400) (h26 : I 55 26 = nI n) (ht : ∀ j, j < n → I 54 j = I 73 j ∧ vb 256 (I 54 j)) (h74 : ∀ j, j < 85 → I 74 j = rWords.getD j 0) (e55 : I1 55 26 = I 55 26) (e73 : I1 73 = I 73) (e74 : I1 74 = I 74) : RE (I 54) n I1 := by
  refine ⟨hn, e55.trans h26, fun i hi => ?_, fun i hi => (ht i hi).2, ?_⟩
  · rw [e73]; exact (ht i hi).1.symm
  · rw [e74]; exact h74
theorem mt_c {a j : Nat} (h : mt a j = true) : (a = 55 ∧ (j = 2 ∨ j = 1 ∨ j = 13 ∨ j = 4 ∨ j = 5 ∨ j = 8 ∨ j = 32 ∨ j = 18 ∨ j = 26 ∨ j = 44 ∨ j = 45 ∨ j = 49 ∨ j = 65)) ∨ ((a = 75 ∨ a = 76 ∨ a = 77) ∧ j < 16) ∨ ((a = 78 ∨ a = 79) ∧ j < 400) ∨ (a = 0 ∧ (j = 9 ∨ j = 10 ∨ j = 11)) ∨ (a ≠ 0 ∧ a ≠ 55 ∧ (a < 47 ∨ 53 < a) ∧ (a < 75 ∨ 80 < a)) := by
  unfold mt mtC at h
  simp only [Bool.or_eq_true, Bool.and_eq_true, beq_iff_eq, decide_eq_true_eq, List.contains_cons, List.contains_nil, Bool.false_eq_true, or_false] at h
  omega
theorem op13_f {b : Bool} {I J : am_IT} {n m fq kq : Nat} {s e : Nat → Nat} {t : Nat → Int32} (hR : RI b I) (hn : n ≤ 400) (h26 : I 55 26 = nI n) (ht : ∀ j, j < n → I 54 j = I 73 j ∧ vb 256 (I 54 j)) (h74 : ∀ j, j < 85 → I 74 j = rWords.getD j 0) (Z : TZ (I 54) n m s e t) (e1 : F_X7_read_47_54 I (I 0 9) = some (0, J)) (F : cF (pS9 m n s) I fq kq J) (hg : gt (tT m t) 1000 0 [] [] = .inr (fq, kq)) : ∃ (r : Int32) (I1 : am_IT) (I2 : am_IT), F_X11_text_0 I = some (r, I1) ∧ F_X12_text_55 I1 = some (r, I2) ∧ RI b I2 := by
  obtain ⟨f1, f2, f3⟩ := F
  have g : ∀ q, q ≠ 0 → (q < 47 ∨ 53 < q) → (up2 (up2 (up2 J 0 9 0) 0 10 (J 47 1)) 0 11 (J 47 2)) q = I q := fun q h1 h2 => by
    rw [up2_k _ _ h1, up2_k _ _ h1, up2_k _ _ h1]; exact f1 q h2
  have R : RE (I 54) n (up2 (up2 (up2 J 0 9 0) 0 10 (J 47 1)) 0 11 (J 47 2)) := RE_of (b := b) hn h26 ht h74 (by rw [g 55 (by decide) (by decide)]) (g 73 (by decide) (by decide)) (g 74 (by decide) (by decide))
  obtain ⟨J2, r2, I', e2, e3, O⟩ := r_text0 R Z
  rw [hg] at O
  obtain ⟨rfl, q1, q2, W⟩ := O
  refine ⟨_, _, _, c_textF e1, r_textF e2 e3 rfl, ?_⟩
  have ti : ∀ q, q ≠ 55 → (tI9 (up2 (up2 (up2 J 0 9 0) 0 10 (J 47 1)) 0 11 (J 47 2))) q = (up2 (up2 (up2 J 0 9 0) 0 10 (J 47 1)) 0 11 (J 47 2)) q := fun q h => by
    unfold tI9
    rw [up2_k _ _ h, up2_k _ _ h, up2_k _ _ h, up2_k _ _ h, up2_k _ _ h, up2_k _ _ h]
  have w0 : I' 0 = (up2 (up2 (up2 J 0 9 0) 0 10 (J 47 1)) 0 11 (J 47 2)) 0 := (W.1 0 (by decide) (by decide)).trans (ti 0 (by decide))
  refine RI_ff (I := I) (fun a j ma hs => ?_) ?_ rfl ?_ ?_ hR
  · rcases mt_c ma with ⟨rfl, hj⟩ | ⟨ha, hj⟩ | ⟨ha, hj⟩ | ⟨rfl, hj⟩ | ⟨h0, h55, ha, hb⟩
    · have nj : j ≠ 26 ∧ j ≠ 44 ∧ j ≠ 45 := ⟨fun z => hs (by unfold six9; omega), fun z => hs (by unfold six9; omega), fun z => hs (by unfold six9; omega)⟩
      rw [up2_j _ _ nj.2.2, up2_j _ _ nj.2.1, up2_j _ _ nj.1, W.2.1 j (by omega) (by omega) (by omega) (by omega) (by omega) (by omega)]
      unfold tI9
      rw [up2_j _ _ (by omega), up2_j _ _ (by omega), up2_j _ _ (by omega), up2_j _ _ (by omega), up2_j _ _ (by omega), up2_j _ _ (by omega), g 55 (by decide) (by decide)]
    · have w := W.2.2.2 j (by omega)
      rcases ha with rfl | rfl | rfl
      · exact (w.1.trans (congrFun (ti 75 (by decide)) j)).trans (congrFun (g 75 (by decide) (by decide)) j)
      · exact (w.2.1.trans (congrFun (ti 76 (by decide)) j)).trans (congrFun (g 76 (by decide) (by decide)) j)
      · exact (w.2.2.trans (congrFun (ti 77 (by decide)) j)).trans (congrFun (g 77 (by decide) (by decide)) j)
    · have w := W.2.2.1 j hj
      rcases ha with rfl | rfl
      · exact (w.1.trans (congrFun (ti 78 (by decide)) j)).trans (congrFun (g 78 (by decide) (by decide)) j)
      · exact (w.2.trans (congrFun (ti 79 (by decide)) j)).trans (congrFun (g 79 (by decide) (by decide)) j)
    · exact absurd (Or.inl ⟨rfl, hj⟩) hs
    · rw [up2_k _ _ h55, up2_k _ _ h55, up2_k _ _ h55, W.1 a h55 hb, ti a h55, g a h0 ha]
  · show I' 0 9 = 0
    rw [w0]; rfl
  · show I' 0 10 = I' 55 42
    rw [w0, q1]; exact f2
  · show I' 0 11 = I' 55 43
    rw [w0, q2]; exact f3
