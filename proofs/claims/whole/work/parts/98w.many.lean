/-! text: the reference's stack of what is pending -/
def mA (B : Nat → Int32) (n m : Nat) (T : Nat → Int32) (S E : Nat → Nat) (H : am_IT) (k : Nat) (R : List (Nat × Nat)) (P : List Nat) (o : Nat) (I : am_IT) : Prop :=
  mZ B n m T S E I k R I ∧ mG H I ∧ I 55 41 = nI P.length ∧ stk (I 80) (P.map nI) ∧ I 55 39 = nI o
theorem mA_F {B : Nat → Int32} {n m : Nat} {T : Nat → Int32} {S E : Nat → Nat} {H : am_IT} {k k' o : Nat} {R R' : List (Nat × Nat)} {P : List Nat} {I I' : am_IT} (A : mA B n m T S E H k R P o I) (M : mZ B n m T S E I k' R' I') : mA B n m T S E H k' R' P o I' := by
  obtain ⟨a1, a2, a3, a4, a5⟩ := A
  obtain ⟨b1, b2, b3, b4, b5, b6, b7, b8⟩ := M
  refine ⟨⟨b1, b2, b3, b4, b5, b6, mF_r I', b8⟩, mG_t a2 (mF_G b7), (b7.2.1 41 (Or.inr (by decide)) (by decide)).trans a3, ?_, (b7.2.1 39 (Or.inr (by decide)) (by decide)).trans a5⟩
  rw [b7.1 80 (by decide) (by decide) (by decide)]; exact a4
theorem mA_55 {B : Nat → Int32} {n m : Nat} {T : Nat → Int32} {S E : Nat → Nat} {H : am_IT} {k o o' : Nat} {R : List (Nat × Nat)} {P P' : List Nat} {I : am_IT} {j : Nat} {v : Int32} (A : mA B n m T S E H k R P o I) (hj : j = 39 ∨ j = 41) (hP : (up2 I 55 j v) 55 41 = nI P'.length) (hS : stk (I 80) (P'.map nI)) (ho : (up2 I 55 j v) 55 39 = nI o') : mA B n m T S E H k R P' o' (up2 I 55 j v) := by
  obtain ⟨⟨b1, b2, b3, b4, b5, b6, b7, b8⟩, ⟨g1, g2, g3, g4⟩, a3, a4, a5⟩ := A
  have u : ∀ i, i ≠ 39 → i ≠ 41 → (up2 I 55 j v) 55 i = I 55 i := fun i h1 h2 => up2_j _ _ (by omega)
  refine ⟨⟨b1, (u 27 (by decide) (by decide)).trans b2, (u 28 (by decide) (by decide)).trans b3, ?_, (u 38 (by decide) (by decide)).trans b5, b6, mF_r _, ⟨b8.1, (u 26 (by decide) (by decide)).trans b8.2.1, b8.2.2.1, b8.2.2.2.1, b8.2.2.2.2⟩⟩, ⟨fun q h1 h2 => (up2_k _ _ h1).trans (g1 q h1 h2), fun i a b c d e f => (u i c d).trans (g2 i a b c d e f), g3, g4⟩, hP, hS, ho⟩
  rw [u 29 (by decide) (by decide), u 30 (by decide) (by decide)]; exact b4
theorem a_emit {B : Nat → Int32} {n m : Nat} {T : Nat → Int32} {S E : Nat → Nat} {H : am_IT} {k o : Nat} {R : List (Nat × Nat)} {P : List Nat} {I : am_IT} (A : mA B n m T S E H k R P o I) (hR : R.length < 400) (a : Nat) {u v : Int32} (hu : u = nI a) (hv : v = nI 0) : ∃ I', F_X12_emits_55 I u v = some I' ∧ mA B n m T S E H k (R ++ [(a, 0)]) P o I' := by
  obtain ⟨I', e, M⟩ := r_emit A.1 hR a 0 hu hv
  exact ⟨I', e, mA_F A M⟩
theorem a_reads {B : Nat → Int32} {n m : Nat} {T : Nat → Int32} {S E : Nat → Nat} {H : am_IT} {k o : Nat} {R : List (Nat × Nat)} {P : List Nat} {I : am_IT} (X : nx B n m T S E) (A : mA B n m T S E H k R P o I) (hk : k < m) : ∃ I', F_X12_reads_55 I = some I' ∧ mA B n m T S E H (k + 1) R P o I' := by
  obtain ⟨I', e, M⟩ := r_reads X A.1 hk
  exact ⟨I', e, mA_F A M⟩
theorem a_errs {B : Nat → Int32} {n m : Nat} {T : Nat → Int32} {S E : Nat → Nat} {H : am_IT} {k o : Nat} {R : List (Nat × Nat)} {P : List Nat} {I : am_IT} (A : mA B n m T S E H k R P o I) {v : Int32} {f : Nat} (hv : v = nI f) : ∃ I', F_X12_errs_55 I v = some (-1, I') ∧ mE S H f k I' := by
  obtain ⟨I', e, h1, h2, h3⟩ := r_errs A.1 hv
  exact ⟨I', e, h1, h2, mG_t A.2.1 h3⟩
theorem a_wait {B : Nat → Int32} {n m : Nat} {T : Nat → Int32} {S E : Nat → Nat} {H : am_IT} {k o : Nat} {R : List (Nat × Nat)} {P : List Nat} {I : am_IT} (A : mA B n m T S E H k R P o I) (hP : P.length < 40) (w : Nat) {v : Int32} (hv : v = nI w) : ∃ I', F_X12_waits_55 I v = some I' ∧ mA B n m T S E H k R (w :: P) o I' := by
  have a3 := A.2.2.1
  unfold F_X12_waits_55
  rw [a3, if_pos (am_ix_nI hP (by decide)), am_let_s, nI_clamp (by omega), show (up2 I 80 P.length v) 55 41 = nI P.length from a3, am_let_s, nI_1]
  have A2 : mA B n m T S E H k R P o (up2 I 80 P.length v) := by
    obtain ⟨⟨b1, b2, b3, b4, b5, b6, b7, b8⟩, ⟨g1, g2, g3, g4⟩, a3, a4, a5⟩ := A
    refine ⟨⟨b1, b2, b3, b4, b5, b6, mF_r _, b8⟩, ⟨fun q h1 h2 => (up2_k _ _ (by omega)).trans (g1 q h1 h2), g2, g3, g4⟩, a3, ?_, a5⟩
    have hl : P.length = (P.map nI).length := (List.length_map _).symm
    have := (stk_p (v := v) a4).2
    rw [show (up2 I 80 P.length v) 80 = fun i => if i = (P.map nI).length then v else I 80 i from by
      funext i
      rw [up2_r, ← hl]]
    exact this
  refine ⟨_, rfl, mA_55 A2 (Or.inr rfl) (up2_s _ _ _ _) ?_ A2.2.2.2.2⟩
  refine ⟨?_, A2.2.2.2.1⟩
  rw [List.length_map, up2_s, hv]
def bSet (a1 : Int32) : am_IT → Option (am_IT ⊕ am_IT) := (fun (I_1 : am_IT) => if (I_1 55 41) ≤ 0 then (some (.inr (I_1))) else (if am_ix ((I_1 55 41) - (1 : Int32)) 40 = true then (if (I_1 80 ((I_1 55 41) - (1 : Int32)).toNatClampNeg) = a1 then (am_let (up2 I_1 55 41 ((I_1 55 41) - (1 : Int32))) (fun (I_11 : am_IT) => am_b1 (F_X12_emits_55 I_11 a1 (0 : Int32)) (fun (I_13 : am_IT) => if a1 = (9 : Int32) then (am_let (up2 I_13 55 39 ((I_13 55 39) - (1 : Int32))) (fun (I_15 : am_IT) => some (.inl (I_15)))) else (some (.inl (I_13)))))) else (some (.inr (I_1)))) else none))
theorem a_setl {B : Nat → Int32} {n m : Nat} {T : Nat → Int32} {S E : Nat → Nat} {H : am_IT} {k w : Nat} (hw : w < 20) {P0 : List Nat} (h0 : ∀ v r, P0 = v :: r → ¬ v = w ∧ v < 20) : ∀ (j o : Nat) (R : List (Nat × Nat)) (I : am_IT) (N : Nat), mA B n m T S E H k R (List.replicate j w ++ P0) o I → R.length + j ≤ 400 → j + P0.length ≤ 40 → (w = 9 → j ≤ o) → j < N → ∃ I', am_it N (bSet (nI w)) I = some I' ∧ mA B n m T S E H k (R ++ List.replicate j (w, 0)) P0 (if w = 9 then o - j else o) I' := by
  intro j
  induction j with
  | zero =>
    intro o R I N A hR hP ho hN
    obtain ⟨N, rfl⟩ : ∃ N', N = N' + 1 := ⟨N - 1, by omega⟩
    have A' : mA B n m T S E H k R P0 o I := A
    refine ⟨I, am_it_e ?_, ?_⟩
    · unfold bSet
      cases hp : P0 with
      | nil =>
        have a3 : I 55 41 = 0 := by rw [A'.2.2.1, hp]; rfl
        rw [a3, if_pos (show (0 : Int32) ≤ 0 by decide)]
      | cons v r =>
        have a3 : I 55 41 = nI (r.length + 1) := by rw [A'.2.2.1, hp]; rfl
        have a4 : I 80 r.length = nI v := by
          have h := A'.2.2.2.1
          rw [hp] at h
          have h1 := h.1
          rw [List.length_map] at h1
          exact h1
        have hr : r.length + 1 ≤ 40 := by rw [hp] at hP; have : 0 + (r.length + 1) ≤ 40 := hP; omega
        rw [a3, if_neg (show ¬ nI (r.length + 1) ≤ 0 from nI_ge (a := 0) (by omega) (by omega)), nI_dec, if_pos (am_ix_nI (by omega) (by decide)), nI_clamp (by omega), a4, if_neg (fun z => (h0 v r hp).1 ((nI_eq (by have := (h0 v r hp).2; omega) (by omega)).mp z))]
    · show mA B n m T S E H k (R ++ []) P0 (if w = 9 then o - 0 else o) I
      rw [List.append_nil]
      by_cases h9 : w = 9
      · rw [if_pos h9]; exact A'
      · rw [if_neg h9]; exact A'
  | succ j ih =>
    intro o R I N A hR hP ho hN
    obtain ⟨N, rfl⟩ : ∃ N', N = N' + 1 := ⟨N - 1, by omega⟩
    have A' : mA B n m T S E H k R (w :: (List.replicate j w ++ P0)) o I := A
    have hlen : (List.replicate j w ++ P0).length = j + P0.length := by rw [List.length_append, List.length_replicate]
    have a3 : I 55 41 = nI (j + P0.length + 1) := by
      rw [A'.2.2.1]
      show nI ((List.replicate j w ++ P0).length + 1) = _
      rw [hlen]
    have a4 : I 80 (j + P0.length) = nI w := by
      have h := A'.2.2.2.1.1
      rw [List.length_map, hlen] at h
      exact h
    have A1 : mA B n m T S E H k R (List.replicate j w ++ P0) o (up2 I 55 41 (nI (j + P0.length))) := mA_55 A' (Or.inr rfl) (by rw [up2_s, hlen]) A'.2.2.2.1.2 A'.2.2.2.2
    obtain ⟨I2, e2, A2⟩ := a_emit A1 (by omega) w (u := nI w) (v := 0) rfl rfl
    have hb : ∀ z, (if nI w = (9 : Int32) then some (.inl (up2 I2 55 39 (I2 55 39 - 1))) else some (.inl I2)) = some z → bSet (nI w) I = some z := by
      intro z hz
      rw [← hz]
      unfold bSet
      rw [a3, if_neg (show ¬ nI (j + P0.length + 1) ≤ 0 from nI_ge (a := 0) (by omega) (by omega)), nI_dec, if_pos (am_ix_nI (by omega) (by decide)), nI_clamp (by omega), a4, if_pos rfl, am_let_s, e2, am_b1_s]
      rfl
    have hR2 : R ++ List.replicate (j + 1) (w, 0) = R ++ [(w, 0)] ++ List.replicate j (w, 0) := by
      rw [List.append_assoc]; rfl
    rw [hR2]
    by_cases h9 : w = 9
    · have ho' := ho h9
      have A3 : mA B n m T S E H k (R ++ [(w, 0)]) (List.replicate j w ++ P0) (o - 1) (up2 I2 55 39 (I2 55 39 - 1)) := mA_55 A2 (Or.inl rfl) A2.2.2.1 A2.2.2.2.1 (by
        rw [up2_s, A2.2.2.2.2, show o = o - 1 + 1 by omega, nI_dec]; rfl)
      obtain ⟨I4, e4, A4⟩ := ih (o - 1) (R ++ [(w, 0)]) _ N A3 (by rw [List.length_append]; show R.length + 1 + j ≤ 400; omega) (by omega) (fun _ => by omega) (by omega)
      refine ⟨I4, ?_, ?_⟩
      · rw [← e4]
        exact am_it_l (hb _ (if_pos (by rw [h9]; rfl)))
      · rw [if_pos h9] at A4 ⊢
        rw [show o - (j + 1) = o - 1 - j by omega]
        exact A4
    · obtain ⟨I4, e4, A4⟩ := ih o (R ++ [(w, 0)]) _ N A2 (by rw [List.length_append]; show R.length + 1 + j ≤ 400; omega) (by omega) (fun z => absurd z h9) (by omega)
      refine ⟨I4, ?_, ?_⟩
      · rw [← e4]
        exact am_it_l (hb _ (if_neg (fun z => h9 ((nI_eq (a := w) (b := 9) (by omega) (by decide)).mp z))))
      · rw [if_neg h9] at A4 ⊢
        exact A4
theorem a_set {B : Nat → Int32} {n m : Nat} {T : Nat → Int32} {S E : Nat → Nat} {H : am_IT} {k w : Nat} (hw : w < 20) {P0 : List Nat} (h0 : ∀ v r, P0 = v :: r → ¬ v = w ∧ v < 20) {j o : Nat} {R : List (Nat × Nat)} {I : am_IT} (A : mA B n m T S E H k R (List.replicate j w ++ P0) o I) (hR : R.length + j ≤ 400) (hP : j + P0.length ≤ 40) (ho : w = 9 → j ≤ o) {v : Int32} (hv : v = nI w) : ∃ I', F_X12_settles_55 I v = some I' ∧ mA B n m T S E H k (R ++ List.replicate j (w, 0)) P0 (if w = 9 then o - j else o) I' := by
  obtain ⟨I', e, A'⟩ := a_setl hw h0 j o R I am_fu A hR hP ho (by show j < 1000000; omega)
  subst hv
  unfold F_X12_settles_55
  unfold bSet at e
  rw [e, am_b1_s]
  exact ⟨I', rfl, A'⟩
def bDue : Int32 → Int32 → am_IT → Option ((Int32 × Int32 × am_IT) ⊕ (Int32 × am_IT)) := (fun (l1_2 : Int32) (l2_3 : Int32) (I_4 : am_IT) => if l2_3 = 0 then (am_b1 (F_X12_isWord_55 I_4 (9 : Int32)) (fun (r_10 : Int32) => if r_10 = 0 then (am_b1 (F_X12_isWord_55 I_4 (8 : Int32)) (fun (r_14 : Int32) => if r_14 = 0 then (am_b1 (F_X12_settles_55 I_4 (10 : Int32)) (fun (I_18 : am_IT) => am_b1 (F_X12_settles_55 I_18 (11 : Int32)) (fun (I_20 : am_IT) => if l1_2 = 0 then (some (.inr ((0 : Int32), I_20))) else (am_b1 (F_X12_isSign_55 I_20 (41 : Int32)) (fun (r_23 : Int32) => if r_23 = 0 then (am_b2 (F_X12_errs_55 I_20 (1 : Int32)) (fun (r_34 : Int32) (I_35 : am_IT) => some (.inr (r_34, I_35)))) else (am_let (up2 I_20 55 41 ((I_20 55 41) - (1 : Int32))) (fun (I_26 : am_IT) => am_let (l1_2 - (1 : Int32)) (fun (l1_27 : Int32) => am_let (up2 I_26 55 39 ((I_26 55 39) - (1 : Int32))) (fun (I_28 : am_IT) => am_b1 (F_X12_settles_55 I_28 (9 : Int32)) (fun (I_30 : am_IT) => am_b1 (F_X12_reads_55 I_30) (fun (I_32 : am_IT) => some (.inl (l1_27, l2_3, I_32))))))))))))) else (am_b1 (F_X12_settles_55 I_4 (10 : Int32)) (fun (I_39 : am_IT) => am_b1 (F_X12_settles_55 I_39 (11 : Int32)) (fun (I_41 : am_IT) => am_b1 (F_X12_waits_55 I_41 (11 : Int32)) (fun (I_43 : am_IT) => am_b1 (F_X12_reads_55 I_43) (fun (I_45 : am_IT) => some (.inl (l1_2, (1 : Int32), I_45))))))))) else (am_b1 (F_X12_settles_55 I_4 (10 : Int32)) (fun (I_47 : am_IT) => am_b1 (F_X12_waits_55 I_47 (10 : Int32)) (fun (I_49 : am_IT) => am_b1 (F_X12_reads_55 I_49) (fun (I_51 : am_IT) => some (.inl (l1_2, (1 : Int32), I_51)))))))) else (am_b1 (F_X12_isWord_55 I_4 (10 : Int32)) (fun (r_53 : Int32) => if r_53 = 0 then (am_b1 (F_X12_isSign_55 I_4 (40 : Int32)) (fun (r_76 : Int32) => if r_76 = 0 then (am_b2 (F_X12_readCompared_55 I_4) (fun (r_80 : Int32) (I_81 : am_IT) => if r_80 = (-1 : Int32) then (some (.inr ((-1 : Int32), I_81))) else (am_b1 (F_X12_settles_55 I_81 (9 : Int32)) (fun (I_84 : am_IT) => some (.inl (l1_2, (0 : Int32), I_84)))))) else (if (I_4 55 39) = (8 : Int32) then (am_b2 (F_X12_errs_55 I_4 (3 : Int32)) (fun (r_102 : Int32) (I_103 : am_IT) => some (.inr (r_102, I_103)))) else (am_let (up2 I_4 55 39 ((I_4 55 39) + (1 : Int32))) (fun (I_87 : am_IT) => am_b1 (if r_53 = 0 then (am_let (l1_2 + (1 : Int32)) (fun (l1_92 : Int32) => some (l1_92))) else (some (l1_2))) (fun (l1_89 : Int32) => am_b1 (if r_53 = 0 then (some ((12 : Int32))) else (some ((9 : Int32)))) (fun (v_94 : Int32) => am_b1 (F_X12_waits_55 I_87 v_94) (fun (I_98 : am_IT) => am_b1 (F_X12_reads_55 I_98) (fun (I_100 : am_IT) => some (.inl (l1_89, l2_3, I_100))))))))))) else (if (I_4 55 39) = (8 : Int32) then (am_b2 (F_X12_errs_55 I_4 (3 : Int32)) (fun (r_72 : Int32) (I_73 : am_IT) => some (.inr (r_72, I_73)))) else (am_let (up2 I_4 55 39 ((I_4 55 39) + (1 : Int32))) (fun (I_57 : am_IT) => am_b1 (if r_53 = 0 then (am_let (l1_2 + (1 : Int32)) (fun (l1_62 : Int32) => some (l1_62))) else (some (l1_2))) (fun (l1_59 : Int32) => am_b1 (if r_53 = 0 then (some ((12 : Int32))) else (some ((9 : Int32)))) (fun (v_64 : Int32) => am_b1 (F_X12_waits_55 I_57 v_64) (fun (I_68 : am_IT) => am_b1 (F_X12_reads_55 I_68) (fun (I_70 : am_IT) => some (.inl (l1_59, l2_3, I_70))))))))))))
