/-! text: how the reference reads sums -/
def bProd : am_IT → Option (am_IT ⊕ (am_IT ⊕ (Int32 × am_IT))) := (fun (I_5 : am_IT) => am_b1 (F_X12_isSign_55 I_5 (42 : Int32)) (fun (r_13 : Int32) => if r_13 = 0 then (am_b1 (F_X12_isSign_55 I_5 (47 : Int32)) (fun (r_84 : Int32) => if r_84 = 0 then (some (.inr (.inl (I_5)))) else (am_b1 (F_X12_isSign_55 I_5 (42 : Int32)) (fun (r_88 : Int32) => am_b1 (F_X12_reads_55 I_5) (fun (I_91 : am_IT) => if r_88 = 0 then (if (I_91 55 29) = (3 : Int32) then (if r_88 = 0 then (if (I_91 55 30) = 0 then (am_b2 (F_X12_errs_55 I_91 (2 : Int32)) (fun (r_147 : Int32) (I_148 : am_IT) => some (.inr (.inr (r_147, I_148))))) else (am_b2 (F_X12_readUnit_55 I_91) (fun (r_136 : Int32) (I_137 : am_IT) => if r_136 = (-1 : Int32) then (some (.inr (.inr ((-1 : Int32), I_137)))) else (am_b1 (if r_88 = 0 then (some ((5 : Int32))) else (some ((4 : Int32)))) (fun (v_140 : Int32) => am_b1 (F_X12_emits_55 I_137 v_140 (0 : Int32)) (fun (I_144 : am_IT) => some (.inl (I_144)))))))) else (am_b2 (F_X12_readUnit_55 I_91) (fun (r_124 : Int32) (I_125 : am_IT) => if r_124 = (-1 : Int32) then (some (.inr (.inr ((-1 : Int32), I_125)))) else (am_b1 (if r_88 = 0 then (some ((5 : Int32))) else (some ((4 : Int32)))) (fun (v_128 : Int32) => am_b1 (F_X12_emits_55 I_125 v_128 (0 : Int32)) (fun (I_132 : am_IT) => some (.inl (I_132)))))))) else (am_b2 (F_X12_errs_55 I_91 (1 : Int32)) (fun (r_151 : Int32) (I_152 : am_IT) => some (.inr (.inr (r_151, I_152)))))) else (if r_88 = 0 then (if (I_91 55 30) = 0 then (am_b2 (F_X12_errs_55 I_91 (2 : Int32)) (fun (r_118 : Int32) (I_119 : am_IT) => some (.inr (.inr (r_118, I_119))))) else (am_b2 (F_X12_readUnit_55 I_91) (fun (r_107 : Int32) (I_108 : am_IT) => if r_107 = (-1 : Int32) then (some (.inr (.inr ((-1 : Int32), I_108)))) else (am_b1 (if r_88 = 0 then (some ((5 : Int32))) else (some ((4 : Int32)))) (fun (v_111 : Int32) => am_b1 (F_X12_emits_55 I_108 v_111 (0 : Int32)) (fun (I_115 : am_IT) => some (.inl (I_115)))))))) else (am_b2 (F_X12_readUnit_55 I_91) (fun (r_95 : Int32) (I_96 : am_IT) => if r_95 = (-1 : Int32) then (some (.inr (.inr ((-1 : Int32), I_96)))) else (am_b1 (if r_88 = 0 then (some ((5 : Int32))) else (some ((4 : Int32)))) (fun (v_99 : Int32) => am_b1 (F_X12_emits_55 I_96 v_99 (0 : Int32)) (fun (I_103 : am_IT) => some (.inl (I_103))))))))))))) else (am_b1 (F_X12_isSign_55 I_5 (42 : Int32)) (fun (r_17 : Int32) => am_b1 (F_X12_reads_55 I_5) (fun (I_20 : am_IT) => if r_17 = 0 then (if (I_20 55 29) = (3 : Int32) then (if r_17 = 0 then (if (I_20 55 30) = 0 then (am_b2 (F_X12_errs_55 I_20 (2 : Int32)) (fun (r_76 : Int32) (I_77 : am_IT) => some (.inr (.inr (r_76, I_77))))) else (am_b2 (F_X12_readUnit_55 I_20) (fun (r_65 : Int32) (I_66 : am_IT) => if r_65 = (-1 : Int32) then (some (.inr (.inr ((-1 : Int32), I_66)))) else (am_b1 (if r_17 = 0 then (some ((5 : Int32))) else (some ((4 : Int32)))) (fun (v_69 : Int32) => am_b1 (F_X12_emits_55 I_66 v_69 (0 : Int32)) (fun (I_73 : am_IT) => some (.inl (I_73)))))))) else (am_b2 (F_X12_readUnit_55 I_20) (fun (r_53 : Int32) (I_54 : am_IT) => if r_53 = (-1 : Int32) then (some (.inr (.inr ((-1 : Int32), I_54)))) else (am_b1 (if r_17 = 0 then (some ((5 : Int32))) else (some ((4 : Int32)))) (fun (v_57 : Int32) => am_b1 (F_X12_emits_55 I_54 v_57 (0 : Int32)) (fun (I_61 : am_IT) => some (.inl (I_61)))))))) else (am_b2 (F_X12_errs_55 I_20 (1 : Int32)) (fun (r_80 : Int32) (I_81 : am_IT) => some (.inr (.inr (r_80, I_81)))))) else (if r_17 = 0 then (if (I_20 55 30) = 0 then (am_b2 (F_X12_errs_55 I_20 (2 : Int32)) (fun (r_47 : Int32) (I_48 : am_IT) => some (.inr (.inr (r_47, I_48))))) else (am_b2 (F_X12_readUnit_55 I_20) (fun (r_36 : Int32) (I_37 : am_IT) => if r_36 = (-1 : Int32) then (some (.inr (.inr ((-1 : Int32), I_37)))) else (am_b1 (if r_17 = 0 then (some ((5 : Int32))) else (some ((4 : Int32)))) (fun (v_40 : Int32) => am_b1 (F_X12_emits_55 I_37 v_40 (0 : Int32)) (fun (I_44 : am_IT) => some (.inl (I_44)))))))) else (am_b2 (F_X12_readUnit_55 I_20) (fun (r_24 : Int32) (I_25 : am_IT) => if r_24 = (-1 : Int32) then (some (.inr (.inr ((-1 : Int32), I_25)))) else (am_b1 (if r_17 = 0 then (some ((5 : Int32))) else (some ((4 : Int32)))) (fun (v_28 : Int32) => am_b1 (F_X12_emits_55 I_25 v_28 (0 : Int32)) (fun (I_32 : am_IT) => some (.inl (I_32)))))))))))))
def bRS : am_IT → Option (am_IT ⊕ (am_IT ⊕ (Int32 × am_IT))) := (fun (I_5 : am_IT) => am_b1 (F_X12_isSign_55 I_5 (43 : Int32)) (fun (r_13 : Int32) => if r_13 = 0 then (am_b1 (F_X12_isSign_55 I_5 (45 : Int32)) (fun (r_30 : Int32) => if r_30 = 0 then (some (.inr (.inl (I_5)))) else (am_b1 (if (I_5 55 30) = (43 : Int32) then (some ((2 : Int32))) else (some ((3 : Int32)))) (fun (v_34 : Int32) => am_b1 (F_X12_reads_55 I_5) (fun (I_38 : am_IT) => am_b2 (F_X12_readProduct_55 I_38) (fun (r_40 : Int32) (I_41 : am_IT) => if r_40 = (-1 : Int32) then (some (.inr (.inr ((-1 : Int32), I_41)))) else (am_b1 (F_X12_emits_55 I_41 v_34 (0 : Int32)) (fun (I_44 : am_IT) => some (.inl (I_44)))))))))) else (am_b1 (if (I_5 55 30) = (43 : Int32) then (some ((2 : Int32))) else (some ((3 : Int32)))) (fun (v_17 : Int32) => am_b1 (F_X12_reads_55 I_5) (fun (I_21 : am_IT) => am_b2 (F_X12_readProduct_55 I_21) (fun (r_23 : Int32) (I_24 : am_IT) => if r_23 = (-1 : Int32) then (some (.inr (.inr ((-1 : Int32), I_24)))) else (am_b1 (F_X12_emits_55 I_24 v_17 (0 : Int32)) (fun (I_27 : am_IT) => some (.inl (I_27))))))))))
theorem KV_sg {t a v : Int32} (K : KV t a v) (h : isMk t = true) : a = 4 ∧ v = t := by
  obtain ⟨q, hq, e⟩ := mk_lt h
  rcases K with ⟨h1, h2⟩ | ⟨h1, h2⟩ | ⟨r, hr, h1, h2, h3⟩ | ⟨x, hx, h1, h2, h3⟩ | ⟨h1, h2, h3⟩
  · rw [h1] at h; exact absurd h (by decide)
  · rw [h1] at h; exact absurd h (by decide)
  · rw [e] at h1
    have := (nI_eq (by omega) (by have := (wp_t r hr).1; omega)).mp h1
    omega
  · rw [e] at h1
    have := (nI_eq (by omega) (by omega)).mp h1
    omega
  · exact ⟨h2, h3⟩
theorem KV_nu {t a v : Int32} (K : KV t a v) : (¬ a = 3 ∧ t < 1000) ∨ (∃ x, x < 10000 ∧ t = nI (1000 + x) ∧ a = 3 ∧ v = nI x ∧ un t = some (0, x)) := by
  rcases KV_un K with ⟨h, h1, h2⟩ | h | ⟨x, hx, h1, h2, h3, h4, h⟩
  · refine Or.inl ⟨h1, ?_⟩
    unfold un at h
    by_cases g : (1000 : Int32) ≤ t
    · rw [if_pos g] at h; cases h
    · exact Int32.not_le.mp g
  · exact Or.inr h
  · exact Or.inl ⟨by rw [h2]; decide, by rw [h1]; exact nI_lt (b := 1000) (by omega) (by decide)⟩
def pW (B : Nat → Int32) (n m : Nat) (T : Nat → Int32) (S E : Nat → Nat) (H : am_IT) (out : gO) (w k : Nat) (z : am_IT ⊕ (Int32 × am_IT)) : Prop :=
  (∃ I' fq kq, z = .inr (-1, I') ∧ out = .inr (fq, kq) ∧ mE S H fq kq I') ∨ (∃ I' k' L' f', z = .inl I' ∧ mZ B n m T S E H k' (rRefs L') I' ∧ out = gl T f' k' w L' ∧ ¬ T k' = 42 ∧ ¬ T k' = 47 ∧ m - k' < f' ∧ (rRefs L').length + (gw w).length ≤ k' ∧ k ≤ k')
theorem pW_le {B : Nat → Int32} {n m : Nat} {T : Nat → Int32} {S E : Nat → Nat} {H : am_IT} {out : gO} {w k k1 : Nat} {z : am_IT ⊕ (Int32 × am_IT)} (h : pW B n m T S E H out w k z) (g : k1 ≤ k) : pW B n m T S E H out w k1 z := by
  rcases h with h | ⟨I', k', L', f', a1, a2, a3, a4, a5, a6, a7, a8⟩
  · exact Or.inl h
  · exact Or.inr ⟨I', k', L', f', a1, a2, a3, a4, a5, a6, a7, by omega⟩
theorem r_ploop {B : Nat → Int32} {n m : Nat} {T : Nat → Int32} {S E : Nat → Nat} {H : am_IT} (X : nx B n m T S E) (hT3 : ∀ k, m ≤ k → T k = 300) : ∀ (f k w : Nat) (L : List rOp) (I : am_IT) (N : Nat), mZ B n m T S E H k (rRefs L) I → (rRefs L).length + (gw w).length ≤ k → m - k < f → m - k < N → ∃ z, am_it N bProd I = some z ∧ pW B n m T S E H (gl T f k w L) w k z := by
  have h10 : ¬ (1 : Int32) = 0 := by decide
  have hm : m ≤ 400 := X.2
  intro f
  induction f with
  | zero => intro k w L I N _ _ h; omega
  | succ f ih =>
    intro k w L I N M hL hf hN
    obtain ⟨N, rfl⟩ : ∃ N', N = N' + 1 := ⟨N - 1, by omega⟩
    have K := M.2.2.2.1
    have c7 : k ≤ m := M.1
    have lt : ∀ k, ¬ T k = 300 → k < m := fun k h => by
      by_cases z : m ≤ k
      · exact absurd (hT3 k z) h
      · omega
    by_cases h1 : T k = 42
    · have hk := lt k (by rw [h1]; decide)
      obtain ⟨I1, e1, M1⟩ := r_reads X M hk
      have hgl : gl T (f + 1) k w L = (match un (T (k + 1)) with
        | none => (.inr (1, k + 1) : gO)
        | some o => gl T f (k + 2) w (L ++ [o, (6, 0)])) := by
        exact if_pos h1
      rw [hgl]
      cases hu : un (T (k + 1)) with
      | none =>
        obtain ⟨I2, e2, F2⟩ := r_unit_n M1 hu
        refine ⟨.inr (-1, I2), am_it_e ?_, Or.inl ⟨I2, 1, k + 1, rfl, rfl, F2⟩⟩
        unfold bProd
        rw [e_isS K (c := 42) rfl, if_pos h1, am_b1_s, if_neg h10, am_b1_s, e1, am_b1_s, if_neg h10, if_neg h10, e2, am_b2_s, if_pos rfl]
      | some o =>
        have hk1 : k + 1 < m := by
          by_cases z : m ≤ k + 1
          · rw [hT3 _ z, show un 300 = none by decide] at hu
            cases hu
          · omega
        obtain ⟨I2, e2, M2⟩ := r_unit_s X M1 hk1 (by omega) hu
        have ho : (rRef o).length = 1 := by
          rcases KV_un M1.2.2.2.1 with ⟨h, _⟩ | ⟨x, _, _, _, _, h⟩ | ⟨x, _, _, _, _, _, h⟩
          · rw [hu] at h; cases h
          · rw [hu] at h; cases h; rfl
          · rw [hu] at h; cases h; rfl
        obtain ⟨I3, e3, M3⟩ := r_emit M2 (by rw [List.length_append]; omega) 4 0 (u := 4) (v := 0) rfl rfl
        have hr : rRefs L ++ rRef o ++ [(4, 0)] = rRefs (L ++ [o, (6, 0)]) := by
          rw [rRefs_app, List.append_assoc]; rfl
        rw [hr] at M3
        have hl2 : (rRefs (L ++ [o, (6, 0)])).length = (rRefs L).length + 2 := by
          rw [← hr, List.length_append, List.length_append, ho]; rfl
        obtain ⟨z, hz, hO⟩ := ih (k + 2) w (L ++ [o, (6, 0)]) I3 N M3 (by omega) (by omega) (by omega)
        refine ⟨z, ?_, pW_le hO (by omega)⟩
        rw [← hz]
        refine am_it_l ?_
        unfold bProd
        rw [e_isS K (c := 42) rfl, if_pos h1, am_b1_s, if_neg h10, am_b1_s, e1, am_b1_s, if_neg h10, if_neg h10, e2, am_b2_s, if_neg (show ¬ (0 : Int32) = -1 by decide), if_neg h10, am_b1_s, e3, am_b1_s]
    · by_cases h2 : T k = 47
      · have hk := lt k (by rw [h2]; decide)
        obtain ⟨I1, e1, M1⟩ := r_reads X M hk
        have hgl : gl T (f + 1) k w L = (if T (k + 1) < 1000 then (.inr (1, k + 1) : gO) else if T (k + 1) = 1000 then .inr (2, k + 1) else gl T f (k + 2) w (L ++ [(2, (T (k + 1)).toNatClampNeg - 1000)])) := by
          show (if T k = 42 then _ else if T k = 47 then _ else _) = _
          rw [if_neg h1, if_pos h2]
        rw [hgl]
        rcases KV_nu M1.2.2.2.1 with ⟨g1, g2⟩ | ⟨x, hx, g1, g2, g3, g4⟩
        · rw [if_pos g2]
          obtain ⟨I2, e2, F2⟩ := r_errs M1 (v := 1) (f := 1) rfl
          refine ⟨.inr (-1, I2), am_it_e ?_, Or.inl ⟨I2, 1, k + 1, rfl, rfl, F2⟩⟩
          unfold bProd
          rw [e_isS K (c := 42) rfl, if_neg h1, am_b1_s, if_pos rfl, e_isS K (c := 47) rfl, if_pos h2, am_b1_s, if_neg h10, am_b1_s, e1, am_b1_s, if_pos rfl, if_neg g1, e2, am_b2_s]
        · rw [if_neg (show ¬ T (k + 1) < 1000 by rw [g1]; exact fun z => by have := (nI_ltI (a := 1000 + x) (b := 1000) (by omega) (by decide)).mp z; omega)]
          by_cases g5 : x = 0
          · rw [if_pos (by rw [g1, g5]; rfl)]
            obtain ⟨I2, e2, F2⟩ := r_errs M1 (v := 2) (f := 2) rfl
            refine ⟨.inr (-1, I2), am_it_e ?_, Or.inl ⟨I2, 2, k + 1, rfl, rfl, F2⟩⟩
            unfold bProd
            rw [e_isS K (c := 42) rfl, if_neg h1, am_b1_s, if_pos rfl, e_isS K (c := 47) rfl, if_pos h2, am_b1_s, if_neg h10, am_b1_s, e1, am_b1_s, if_pos rfl, if_pos g2, if_pos rfl, if_pos (show I1 55 30 = 0 by rw [g3, g5]; rfl), e2, am_b2_s]
          · rw [if_neg (show ¬ T (k + 1) = 1000 by rw [g1]; exact fun z => by have := (nI_eq (a := 1000 + x) (b := 1000) (by omega) (by decide)).mp z; omega)]
            have hk1 : k + 1 < m := by
              by_cases z : m ≤ k + 1
              · rw [hT3 _ z] at g4
                exact absurd g4 (by
                  show ¬ (un 300 = some (0, x))
                  rw [show un 300 = none by decide]
                  exact fun z => by cases z)
              · omega
            obtain ⟨I2, e2, M2⟩ := r_unit_s X M1 hk1 (by omega) g4
            obtain ⟨I3, e3, M3⟩ := r_emit M2 (by rw [List.length_append]; show _ + 1 < _; omega) 5 0 (u := 5) (v := 0) rfl rfl
            have hq : (T (k + 1)).toNatClampNeg - 1000 = x := by rw [g1, nI_clamp (by omega)]; omega
            rw [hq]
            have hr : rRefs L ++ rRef (0, x) ++ [(5, 0)] = rRefs (L ++ [(2, x)]) := by
              rw [rRefs_app, List.append_assoc]; rfl
            rw [hr] at M3
            have hl2 : (rRefs (L ++ [(2, x)])).length = (rRefs L).length + 2 := by
              rw [← hr, List.length_append, List.length_append]; rfl
            obtain ⟨z, hz, hO⟩ := ih (k + 2) w (L ++ [(2, x)]) I3 N M3 (by omega) (by omega) (by omega)
            refine ⟨z, ?_, pW_le hO (by omega)⟩
            rw [← hz]
            refine am_it_l ?_
            unfold bProd
            rw [e_isS K (c := 42) rfl, if_neg h1, am_b1_s, if_pos rfl, e_isS K (c := 47) rfl, if_pos h2, am_b1_s, if_neg h10, am_b1_s, e1, am_b1_s, if_pos rfl, if_pos g2, if_pos rfl, if_neg (show ¬ I1 55 30 = 0 by rw [g3]; exact fun z => g5 ((nI_eq (a := x) (b := 0) (by omega) (by decide)).mp z)), e2, am_b2_s, if_neg (show ¬ (0 : Int32) = -1 by decide), if_pos rfl, am_b1_s, e3, am_b1_s]
      · refine ⟨.inl I, am_it_e ?_, Or.inr ⟨I, k, L, f + 1, rfl, M, rfl, h1, h2, hf, hL, Nat.le_refl _⟩⟩
        unfold bProd
        rw [e_isS K (c := 42) rfl, if_neg h1, am_b1_s, if_pos rfl, e_isS K (c := 47) rfl, if_neg h2, am_b1_s, if_pos rfl]
theorem r_prod_n {B : Nat → Int32} {n m : Nat} {T : Nat → Int32} {S E : Nat → Nat} {H : am_IT} {k : Nat} {R : List (Nat × Nat)} {I : am_IT} (M : mZ B n m T S E H k R I) (hu : un (T k) = none) : ∃ I', F_X12_readProduct_55 I = some (-1, I') ∧ mE S H 1 k I' := by
  obtain ⟨I1, e1, F1⟩ := r_unit_n M hu
  unfold F_X12_readProduct_55
  rw [e1, am_b2_s, if_pos rfl]
  exact ⟨_, rfl, F1⟩
theorem r_prod_s {B : Nat → Int32} {n m : Nat} {T : Nat → Int32} {S E : Nat → Nat} {H : am_IT} (X : nx B n m T S E) (hT3 : ∀ k, m ≤ k → T k = 300) {f k w : Nat} {L : List rOp} {I : am_IT} (M : mZ B n m T S E H k (rRefs L) I) (hL : (rRefs L).length + (gw w).length ≤ k) {o : rOp} (hu : un (T k) = some o) (hf : m - (k + 1) < f) : ∃ z, pW B n m T S E H (gl T f (k + 1) w (L ++ [o])) w (k + 1) z ∧ F_X12_readProduct_55 I = some (match z with
    | .inl I' => (0, I')
    | .inr q => q) := by
  have hm : m ≤ 400 := X.2
  have hk1 : k < m := by
    by_cases z : m ≤ k
    · rw [hT3 _ z] at hu
      exact absurd hu (by rw [show un 300 = none by decide]; exact fun z => by cases z)
    · omega
  have ho : (rRef o).length = 1 := by
    rcases KV_un M.2.2.2.1 with ⟨h, _⟩ | ⟨x, _, _, _, _, h⟩ | ⟨x, _, _, _, _, _, h⟩
    · rw [hu] at h; cases h
    · rw [hu] at h; cases h; rfl
    · rw [hu] at h; cases h; rfl
  obtain ⟨I1, e1, M1⟩ := r_unit_s X M hk1 (by omega) hu
  have hr : rRefs L ++ rRef o = rRefs (L ++ [o]) := by
    rw [rRefs_app]
    show _ = rRefs L ++ (rRef o ++ [])
    rw [List.append_nil]
  rw [hr] at M1
  obtain ⟨z, hz, hO⟩ := r_ploop X hT3 f (k + 1) w (L ++ [o]) I1 am_fu M1 (by rw [← hr, List.length_append, ho]; omega) hf (by show m - (k + 1) < 1000000; omega)
  refine ⟨z, hO, ?_⟩
  unfold F_X12_readProduct_55
  unfold bProd at hz
  rw [e1, am_b2_s, if_neg (show ¬ (0 : Int32) = -1 by decide), hz]
  cases z with
  | inl I' => rfl
  | inr q => rfl
