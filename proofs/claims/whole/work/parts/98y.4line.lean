/-! text: a line of the reference -/
def oL9 (B : Nat → Int32) (n m : Nat) (T : Nat → Int32) (S E : Nat → Nat) (I : am_IT) (l : Nat) (L : List rOp) (out : gM) (z : (Int32 × am_IT) ⊕ ((Int32 × am_IT) ⊕ (Int32 × am_IT))) : Prop := match out with
  | .inr (fq, kq) => ∃ I' : am_IT, z = .inr (.inr (-1, I')) ∧ I' 55 42 = nI fq ∧ I' 55 43 = nI (S kq) ∧ wK9 l I I'
  | .inl (mm, k1, L1) => ∃ I' : am_IT, z = .inl (nI (l + 1), I') ∧ mZ B n m T S E I' k1 (rRefs L1) I' ∧ wK9 l I I' ∧ I' 55 39 = 0 ∧ I' 75 (16 + l) = nI (1 + mm) ∧ I' 76 (16 + l) = nI (rRefs L).length ∧ I' 77 (16 + l) = nI (rRefs L1).length
theorem r_line1 {B : Nat → Int32} {n m : Nat} {T : Nat → Int32} {S E : Nat → Nat} (X : nx B n m T S E) (hT : ∀ k, okT (T k)) (hT3 : ∀ k, m ≤ k → T k = 300) {k l : Nat} {L : List rOp} {I : am_IT} (M : mZ B n m T S E I k (rRefs L) I) (h39 : I 55 39 = 0) (hL : (rRefs L).length ≤ k) (hl : l ≤ 16) (h1 : T k = 256) : ∃ z, bTx (nI l) I = some z ∧ oL9 B n m T S E I l L (gn T k l L) z := by
  have h10 : ¬ (1 : Int32) = 0 := by decide
  have hm : m ≤ 400 := X.2
  have K := M.2.2.2.1
  have lt : ∀ k, ¬ T k = 300 → k < m := fun k h => by
    by_cases z : m ≤ k
    · exact absurd (hT3 k z) h
    · omega
  unfold bTx gn
  rw [if_pos h1, e_isW K (w := 0) (by decide) (v := 0) rfl, if_pos (show T k = nI (256 + wp 0) from h1), am_b1_s, if_neg h10]
  by_cases h2 : 16 ≤ l
  · have h16 : l = 16 := by omega
    subst h16
    obtain ⟨I1, e1, F1, F2, F3⟩ := r_errs M (v := 3) (f := 3) rfl
    rw [if_pos h2, if_pos (show nI 16 = 16 from rfl), e1, am_b2_s]
    exact ⟨_, rfl, I1, rfl, F1, F2, wS_G F3 (Nat.le_refl _)⟩
  · have hl2 : (16 : Int32) + nI l = nI (16 + l) := nI_add 16 l
    have hx : am_ix (nI (16 + l)) 32 = true := am_ix_nI (by omega) (by decide)
    have hc : (nI (16 + l)).toNatClampNeg = 16 + l := nI_clamp (by omega)
    obtain ⟨I1, e1, M1, G1, o1⟩ := w_reads X M (lt k (by rw [h1]; decide))
    rw [if_neg h2, if_neg (show ¬ nI l = 16 from fun z => by have := (nI_eq (a := l) (b := 16) (by omega) (by decide)).mp z; omega), am_let_s, hl2, e1, am_b1_s]
    have W1 := wS_G (l := l) G1 hl
    rcases KV_me M1.2.2.2.1 with ⟨g1, g2⟩ | ⟨mm, hmm, g1, g2, g3⟩
    · obtain ⟨I2, e2, F1, F2, F3⟩ := r_errs M1 (v := 1) (f := 1) rfl
      rw [if_pos g1]
      by_cases q : I1 55 29 = 2
      · have : F_X12_isIn_55 I1 (I1 55 30) 1 6 = some 0 := by
          unfold F_X12_isIn_55
          rcases g2 q with h | h
          · rw [if_pos h]
          · by_cases h' : I1 55 30 < 1
            · rw [if_pos h']
            · rw [if_neg h', if_pos h]
        rw [if_pos q, this, am_b1_s, if_pos rfl, e2, am_b2_s]
        exact ⟨_, rfl, I2, rfl, F1, F2, wS_t W1 (wS_G F3 hl)⟩
      · rw [if_neg q, e2, am_b2_s]
        exact ⟨_, rfl, I2, rfl, F1, F2, wS_t W1 (wS_G F3 hl)⟩
    · have hin : F_X12_isIn_55 I1 (nI (1 + mm)) 1 6 = some 1 := by
        unfold F_X12_isIn_55
        rw [if_neg (show ¬ nI (1 + mm) < (1 : Int32) from fun z => by have := (nI_ltI (a := 1 + mm) (b := 1) (by omega) (by decide)).mp z; omega), if_neg (show ¬ (6 : Int32) < nI (1 + mm) from fun z => by have := (nI_ltI (a := 6) (b := 1 + mm) (by decide) (by omega)).mp z; omega)]
      have hng : ¬ (T (k + 1) < 261 ∨ 266 < T (k + 1)) := by
        rw [g1]
        rintro (z | z)
        · have := (nI_ltI (a := 261 + mm) (b := 261) (by omega) (by decide)).mp z; omega
        · have := (nI_ltI (a := 266) (b := 261 + mm) (by decide) (by omega)).mp z; omega
      have hq : (T (k + 1)).toNatClampNeg - 261 = mm := by rw [g1, nI_clamp (by omega)]; omega
      have hk1 := lt (k + 1) (by
        rw [g1]
        intro z
        have := (nI_eq (a := 261 + mm) (b := 300) (by omega) (by decide)).mp z
        omega)
      have M1' := w_up (i := 16 + l) (Or.inl rfl) (nI (1 + mm)) M1
      obtain ⟨I2, e2, M2, G2, o2⟩ := w_reads X M1' hk1
      have M2' := w_up (i := 16 + l) (Or.inr (Or.inl rfl)) (nI (rRefs L).length) M2
      have W2 : wK9 l I (up2 I2 76 (16 + l) (nI (rRefs L).length)) := wS_t (wS_t (wS_t W1 (wS_u l I1 (Or.inl rfl) _)) (wS_G G2 hl)) (wS_u l I2 (Or.inr (Or.inl rfl)) _)
      have c38 : I2 55 38 = nI (rRefs L).length := M2.2.2.2.2.1
      have c75 : (up2 I2 76 (16 + l) (nI (rRefs L).length)) 75 (16 + l) = nI (1 + mm) := by
        rw [up2_i66 (by omega), (G2.2.2.2 (16 + l) (by omega)).1, up2_s]
      have c76 : (up2 I2 76 (16 + l) (nI (rRefs L).length)) 76 (16 + l) = nI (rRefs L).length := up2_s _ _ _ _
      have o2' : (up2 I2 76 (16 + l) (nI (rRefs L).length)) 55 39 = 0 := by
        rw [up2_i66 (by omega), o2, up2_i66 (by omega), o1, h39]
      rw [if_neg hng, hq, if_pos g2, g3, hin, am_b1_s, if_neg h10, if_pos hx, am_let_s, hc, e2, am_b1_s, if_pos hx, c38, am_let_s]
      revert M2' W2 c75 c76 o2'
      generalize up2 I2 76 (16 + l) (nI (rRefs L).length) = J2
      intro M2' W2 c75 c76 o2'
      have K2 := M2'.2.2.2.1
      have fin : ∀ (k1 : Nat) (L1 : List rOp) (J : am_IT), mZ B n m T S E J k1 (rRefs L1) J → wK9 l I J → J 55 39 = 0 → J 75 (16 + l) = nI (1 + mm) → J 76 (16 + l) = nI (rRefs L).length → ∃ z, (am_let (up2 J 77 (16 + l) (J 55 38)) (fun (I_38 : am_IT) => am_b1 (F_X12_isSign_55 I_38 (59 : Int32)) (fun (r_40 : Int32) => if r_40 = 0 then (am_b2 (F_X12_errs_55 I_38 (1 : Int32)) (fun (r_47 : Int32) (I_48 : am_IT) => some (.inr (.inr (r_47, I_48))))) else (am_b1 (F_X12_reads_55 I_38) (fun (I_44 : am_IT) => am_let (nI l + (1 : Int32)) (fun (l1_45 : Int32) => some (.inl (l1_45, I_44)))))))) = some z ∧ oL9 B n m T S E I l L (if T k1 = 59 then (.inl (mm, k1 + 1, L1) : gM) else .inr (1, k1)) z := by
        intro k1 L1 J MJ WJ oJ j75 j76
        have MK := w_up (i := 16 + l) (Or.inr (Or.inr rfl)) (J 55 38) MJ
        have j38 : J 55 38 = nI (rRefs L1).length := MJ.2.2.2.2.1
        have WK := wS_t WJ (wS_u l J (Or.inr (Or.inr rfl)) (J 55 38))
        rw [am_let_s, e_isS MK.2.2.2.1 (c := 59) rfl]
        by_cases q : T k1 = 59
        · obtain ⟨I5, e5, M5, G5, o5⟩ := w_reads X MK (lt k1 (by rw [q]; decide))
          rw [if_pos q, if_pos q, am_b1_s, if_neg h10, e5, am_b1_s, am_let_s, nI_1]
          have g5 := G5.2.2.2 (16 + l) (by omega)
          refine ⟨_, rfl, I5, rfl, M5, wS_t WK (wS_G G5 hl), ?_, ?_, ?_, ?_⟩
          · rw [o5, up2_i66 (by omega), oJ]
          · rw [g5.1, up2_i66 (by omega), j75]
          · rw [g5.2.1, up2_i66 (by omega), j76]
          · rw [g5.2.2, up2_s, j38]
        · obtain ⟨I5, e5, F1, F2, F3⟩ := r_errs MK (v := 1) (f := 1) rfl
          rw [if_neg q, if_neg q, am_b1_s, if_pos rfl, e5, am_b2_s]
          exact ⟨_, rfl, I5, rfl, F1, F2, wS_t WK (wS_G F3 hl)⟩
      by_cases h4 : T (k + 1 + 1) = 257
      · obtain ⟨I3, e3, M3, G3, o3⟩ := w_reads X M2' (lt _ (by rw [h4]; decide))
        obtain ⟨r, I4, e4, R⟩ := r_any (H := I3) X hT hT3 M3 (mG_r I3) (o3.trans o2') (by omega)
        rw [e_isW K2 (w := 7) (by decide) (v := 7) rfl, if_pos (show T (k + 1 + 1) = nI (256 + wp 7) from h4), am_b1_s, if_neg h10, e3, am_b1_s, e4, am_b2_s]
        show ∃ z, _ ∧ oL9 B n m T S E I l L (if T (k + 1 + 1) = 257 then (match gz T 2000 1 0 (k + 3) L with
          | .inr f => .inr f
          | .inl (k1, L1) => if T k1 = 59 then (.inl (mm, k1 + 1, L1) : gM) else .inr (1, k1)) else if T (k + 2) = 59 then .inl (mm, k + 3, L) else .inr (1, k + 2)) z
        rw [if_pos h4]
        have W3 := wS_t W2 (wS_G (l := l) G3 hl)
        cases hg : gz T 2000 1 0 (k + 3) L with
        | inr e =>
          obtain ⟨fq, kq⟩ := e
          have hg' : gz T 2000 1 0 (k + 1 + 1 + 1) L = .inr (fq, kq) := hg
          rw [hg'] at R
          obtain ⟨rfl, F1, F2, F3⟩ := R
          rw [if_pos rfl]
          exact ⟨_, rfl, I4, rfl, F1, F2, wS_t W3 (wS_G F3 hl)⟩
        | inl e =>
          obtain ⟨k1, L1⟩ := e
          have hg' : gz T 2000 1 0 (k + 1 + 1 + 1) L = .inl (k1, L1) := hg
          rw [hg'] at R
          obtain ⟨rfl, M4, G4, o4⟩ := R
          rw [if_neg (show ¬ (0 : Int32) = -1 by decide), if_pos hx]
          have g3 := G3.2.2.2 (16 + l) (by omega)
          have g4 := G4.2.2.2 (16 + l) (by omega)
          exact fin k1 L1 I4 M4 (wS_t W3 (wS_G G4 hl)) o4 (by rw [g4.1, g3.1, c75]) (by rw [g4.2.1, g3.2.1, c76])
      · rw [e_isW K2 (w := 7) (by decide) (v := 7) rfl, if_neg (show ¬ T (k + 1 + 1) = nI (256 + wp 7) from h4), am_b1_s, if_pos rfl, if_pos hx]
        show ∃ z, _ ∧ oL9 B n m T S E I l L (if T (k + 1 + 1) = 257 then (match gz T 2000 1 0 (k + 3) L with
          | .inr f => .inr f
          | .inl (k1, L1) => if T k1 = 59 then (.inl (mm, k1 + 1, L1) : gM) else .inr (1, k1)) else if T (k + 2) = 59 then .inl (mm, k + 3, L) else .inr (1, k + 2)) z
        rw [if_neg h4]
        exact fin (k + 2) L J2 M2' W2 o2' c75 c76
