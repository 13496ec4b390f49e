/-! text: how the reference reads lines -/
def wK9 (l : Nat) (I J : am_IT) : Prop := (∀ q, q ≠ 55 → (q < 75 ∨ 80 < q) → J q = I q) ∧ (∀ j, (j < 27 ∨ 30 < j) → j ≠ 38 → j ≠ 39 → j ≠ 41 → j ≠ 42 → j ≠ 43 → J 55 j = I 55 j) ∧ (∀ i, i < 400 → J 78 i = I 78 i ∧ J 79 i = I 79 i) ∧ ∀ i, i < 16 + l → J 75 i = I 75 i ∧ J 76 i = I 76 i ∧ J 77 i = I 77 i
theorem wS_t {l : Nat} {I J K : am_IT} (h : wK9 l I J) (g : wK9 l J K) : wK9 l I K := ⟨fun q h1 h2 => (g.1 q h1 h2).trans (h.1 q h1 h2), fun j a b c d e f => (g.2.1 j a b c d e f).trans (h.2.1 j a b c d e f), fun i hi => ⟨(g.2.2.1 i hi).1.trans (h.2.2.1 i hi).1, (g.2.2.1 i hi).2.trans (h.2.2.1 i hi).2⟩, fun i hi => ⟨(g.2.2.2 i hi).1.trans (h.2.2.2 i hi).1, (g.2.2.2 i hi).2.1.trans (h.2.2.2 i hi).2.1, (g.2.2.2 i hi).2.2.trans (h.2.2.2 i hi).2.2⟩⟩
theorem wS_G {l : Nat} {I J : am_IT} (h : mG I J) (hl : l ≤ 16) : wK9 l I J := ⟨h.1, h.2.1, h.2.2.1, fun i hi => h.2.2.2 i (by omega)⟩
theorem wS_d {l l' : Nat} {I J : am_IT} (h : wK9 l I J) (hl : l' ≤ l) : wK9 l' I J := ⟨h.1, h.2.1, h.2.2.1, fun i hi => h.2.2.2 i (by omega)⟩
theorem wS_u (l : Nat) (I : am_IT) {q : Nat} (hq : q = 75 ∨ q = 76 ∨ q = 77) (v : Int32) : wK9 l I (up2 I q (16 + l) v) := ⟨fun r h1 h2 => up2_k _ _ (by omega), fun j _ _ _ _ _ _ => up2_i66 (by omega), fun i _ => ⟨up2_i66 (by omega), up2_i66 (by omega)⟩, fun i hi => ⟨up2_i66 (by omega), up2_i66 (by omega), up2_i66 (by omega)⟩⟩
theorem mZ_b {B : Nat → Int32} {n m : Nat} {T : Nat → Int32} {S E : Nat → Nat} {H I : am_IT} {k : Nat} {R : List (Nat × Nat)} (M : mZ B n m T S E H k R I) : mZ B n m T S E I k R I := ⟨M.1, M.2.1, M.2.2.1, M.2.2.2.1, M.2.2.2.2.1, M.2.2.2.2.2.1, mF_r _, M.2.2.2.2.2.2.2⟩
theorem w_reads {B : Nat → Int32} {n m : Nat} {T : Nat → Int32} {S E : Nat → Nat} {I : am_IT} {k : Nat} {R : List (Nat × Nat)} (X : nx B n m T S E) (M : mZ B n m T S E I k R I) (hk : k < m) : ∃ I', F_X12_reads_55 I = some I' ∧ mZ B n m T S E I' (k + 1) R I' ∧ mG I I' ∧ I' 55 39 = I 55 39 := by
  obtain ⟨I', e, M'⟩ := r_reads X M hk
  have F := M'.2.2.2.2.2.2.1
  exact ⟨I', e, mZ_b M', mF_G F, F.2.1 39 (Or.inr (by decide)) (by decide)⟩
theorem w_up {B : Nat → Int32} {n m : Nat} {T : Nat → Int32} {S E : Nat → Nat} {I : am_IT} {k q i : Nat} {R : List (Nat × Nat)} (hq : q = 75 ∨ q = 76 ∨ q = 77) (v : Int32) (M : mZ B n m T S E I k R I) : mZ B n m T S E (up2 I q i v) k R (up2 I q i v) := by
  obtain ⟨b1, b2, b3, b4, b5, b6, b7, b8⟩ := M
  have u : ∀ j, (up2 I q i v) 55 j = I 55 j := fun j => up2_i66 (by omega)
  refine ⟨b1, (u 27).trans b2, (u 28).trans b3, ?_, (u 38).trans b5, fun a x y h => ?_, mF_r _, ⟨b8.1, (u 26).trans b8.2.1, fun a h => ?_, b8.2.2.2.1, fun a h => ?_⟩⟩
  · rw [u 29, u 30]; exact b4
  · rw [up2_k _ _ (show (78 : Nat) ≠ q by omega), up2_k _ _ (show (79 : Nat) ≠ q by omega)]; exact b6 a x y h
  · rw [up2_k _ _ (show (73 : Nat) ≠ q by omega)]; exact b8.2.2.1 a h
  · rw [up2_k _ _ (show (74 : Nat) ≠ q by omega)]; exact b8.2.2.2.2 a h
def bTx : Int32 → am_IT → Option ((Int32 × am_IT) ⊕ ((Int32 × am_IT) ⊕ (Int32 × am_IT))) := (fun (l1_1 : Int32) (I_2 : am_IT) => am_b1 (F_X12_isWord_55 I_2 (0 : Int32)) (fun (r_11 : Int32) => if r_11 = 0 then (some (.inr (.inl (l1_1, I_2)))) else (if l1_1 = (16 : Int32) then (am_b2 (F_X12_errs_55 I_2 (3 : Int32)) (fun (r_75 : Int32) (I_76 : am_IT) => some (.inr (.inr (r_75, I_76))))) else (am_let ((16 : Int32) + l1_1) (fun (l2_15 : Int32) => am_b1 (F_X12_reads_55 I_2) (fun (I_17 : am_IT) => if (I_17 55 29) = (2 : Int32) then (am_b1 (F_X12_isIn_55 I_17 (I_17 55 30) (1 : Int32) (6 : Int32)) (fun (r_24 : Int32) => if r_24 = 0 then (am_b2 (F_X12_errs_55 I_17 (1 : Int32)) (fun (r_71 : Int32) (I_72 : am_IT) => some (.inr (.inr (r_71, I_72))))) else (if am_ix l2_15 32 = true then (am_let (up2 I_17 75 l2_15.toNatClampNeg (I_17 55 30)) (fun (I_28 : am_IT) => am_b1 (F_X12_reads_55 I_28) (fun (I_30 : am_IT) => if am_ix l2_15 32 = true then (am_let (up2 I_30 76 l2_15.toNatClampNeg (I_30 55 38)) (fun (I_32 : am_IT) => am_b1 (F_X12_isWord_55 I_32 (7 : Int32)) (fun (r_34 : Int32) => if r_34 = 0 then (if am_ix l2_15 32 = true then (am_let (up2 I_32 77 l2_15.toNatClampNeg (I_32 55 38)) (fun (I_38 : am_IT) => am_b1 (F_X12_isSign_55 I_38 (59 : Int32)) (fun (r_40 : Int32) => if r_40 = 0 then (am_b2 (F_X12_errs_55 I_38 (1 : Int32)) (fun (r_47 : Int32) (I_48 : am_IT) => some (.inr (.inr (r_47, I_48))))) else (am_b1 (F_X12_reads_55 I_38) (fun (I_44 : am_IT) => am_let (l1_1 + (1 : Int32)) (fun (l1_45 : Int32) => some (.inl (l1_45, I_44)))))))) else none) else (am_b1 (F_X12_reads_55 I_32) (fun (I_51 : am_IT) => am_b2 (F_X12_readAny_55 I_51) (fun (r_53 : Int32) (I_54 : am_IT) => if r_53 = (-1 : Int32) then (some (.inr (.inr ((-1 : Int32), I_54)))) else (if am_ix l2_15 32 = true then (am_let (up2 I_54 77 l2_15.toNatClampNeg (I_54 55 38)) (fun (I_57 : am_IT) => am_b1 (F_X12_isSign_55 I_57 (59 : Int32)) (fun (r_59 : Int32) => if r_59 = 0 then (am_b2 (F_X12_errs_55 I_57 (1 : Int32)) (fun (r_66 : Int32) (I_67 : am_IT) => some (.inr (.inr (r_66, I_67))))) else (am_b1 (F_X12_reads_55 I_57) (fun (I_63 : am_IT) => am_let (l1_1 + (1 : Int32)) (fun (l1_64 : Int32) => some (.inl (l1_64, I_63)))))))) else none))))))) else none))) else none))) else (am_b2 (F_X12_errs_55 I_17 (1 : Int32)) (fun (r_20 : Int32) (I_21 : am_IT) => some (.inr (.inr (r_20, I_21)))))))))))
theorem KV_me {t a v : Int32} (K : KV t a v) : ((t < 261 ∨ 266 < t) ∧ (a = 2 → (v < 1 ∨ 6 < v))) ∨ (∃ mm, mm < 6 ∧ t = nI (261 + mm) ∧ a = 2 ∧ v = nI (1 + mm)) := by
  rcases K with ⟨h1, h2⟩ | ⟨h1, h2⟩ | ⟨r, hr, h1, h2, h3⟩ | ⟨x, hx, h1, h2, h3⟩ | ⟨h1, h2, h3⟩
  · subst h1; subst h2
    exact Or.inl ⟨by decide, fun z => absurd z (by decide)⟩
  · subst h1; subst h2
    exact Or.inl ⟨by decide, fun z => absurd z (by decide)⟩
  · obtain ⟨w1, w2, w3, w4, w5, w6⟩ := wp_t r hr
    by_cases g : 1 ≤ r ∧ r ≤ 6
    · have := w6 g.1 g.2
      exact Or.inr ⟨r - 1, by omega, by rw [h1, show 261 + (r - 1) = 256 + wp r by omega], h2, by rw [h3, show 1 + (r - 1) = r by omega]⟩
    · refine Or.inl ⟨?_, fun _ => ?_⟩
      · rw [h1]
        by_cases z : wp r < 5
        · exact Or.inl (nI_lt (b := 261) (by omega) (by decide))
        · exact Or.inr (nI_lt (a := 266) (by omega) (by omega))
      · rw [h3]
        by_cases z : r < 1
        · exact Or.inl (nI_lt (b := 1) z (by decide))
        · exact Or.inr (nI_lt (a := 6) (by omega) (by omega))
  · exact Or.inl ⟨Or.inr (by rw [h1]; exact nI_lt (a := 266) (by omega) (by omega)), fun z => by rw [h2] at z; exact absurd z (by decide)⟩
  · obtain ⟨q, hq, e⟩ := mk_lt h1
    exact Or.inl ⟨Or.inl (by rw [e]; exact nI_lt (b := 261) (by omega) (by decide)), fun z => by rw [h2] at z; exact absurd z (by decide)⟩
