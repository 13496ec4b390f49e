/-! the reference's steps -/
def wF (a2 a3 : Int32) : (Int32 × Int32 × Int32 × am_IT) → Option ((Int32 × Int32 × Int32 × am_IT) ⊕ am_IT) := am_u4 (fun (l4_7 : Int32) (l5_8 : Int32) (l6_9 : Int32) (I_10 : am_IT) => if l5_8 ≤ 0 then (some (.inr (I_10))) else (am_b1 (am_it am_fu (fun (l7_18 : Int32) => if (9 : Int32) ≤ l7_18 then (some (.inr (l7_18))) else (if ((l4_7 >>> (l7_18 &&& 31)) &&& (1 : Int32)) = (1 : Int32) then (am_let (l7_18 + (1 : Int32)) (fun (l7_27 : Int32) => some (.inl (l7_27)))) else (if am_ix (l5_8 - (1 : Int32)) 9 = true then (if am_ix (I_10 91 (l5_8 - (1 : Int32)).toNatClampNeg) 9 = true then (if (((I_10 71 (I_10 91 (l5_8 - (1 : Int32)).toNatClampNeg).toNatClampNeg) >>> (l7_18 &&& 31)) &&& (1 : Int32)) = 0 then (am_let (l7_18 + (1 : Int32)) (fun (l7_31 : Int32) => some (.inl (l7_31)))) else (some (.inr (l7_18)))) else none) else none))) l6_9) (fun (l7_19 : Int32) => if l7_19 = (9 : Int32) then (am_let (l5_8 - (1 : Int32)) (fun (l5_33 : Int32) => if am_ix l5_33 9 = true then (am_let ((I_10 91 l5_33.toNatClampNeg) + (1 : Int32)) (fun (l6_35 : Int32) => if am_ix l5_33 9 = true then (am_let (l4_7 &&& (((1 : Int32) <<< ((I_10 91 l5_33.toNatClampNeg) &&& 31)) ^^^ (-1 : Int32))) (fun (l4_37 : Int32) => some (.inl (l4_37, l5_33, l6_35, I_10)))) else none)) else none)) else (if l5_8 = a3 then (am_let (l5_8 - (1 : Int32)) (fun (l5_47 : Int32) => if am_ix l5_47 9 = true then (am_let ((I_10 91 l5_47.toNatClampNeg) + (1 : Int32)) (fun (l6_49 : Int32) => if am_ix l5_47 9 = true then (am_let (l4_7 &&& (((1 : Int32) <<< ((I_10 91 l5_47.toNatClampNeg) &&& 31)) ^^^ (-1 : Int32))) (fun (l4_51 : Int32) => some (.inl (l4_51, l5_47, l6_49, I_10)))) else none)) else none)) else (if am_ix l5_8 9 = true then (am_let (up2 I_10 91 l5_8.toNatClampNeg l7_19) (fun (I_40 : am_IT) => if l7_19 = a2 then (am_b1 (F_X12_notesWay_55 I_40 (l5_8 + (1 : Int32))) (fun (I_45 : am_IT) => am_let (a2 + (1 : Int32)) (fun (l6_46 : Int32) => some (.inl (l4_7, l5_8, l6_46, I_45))))) else (am_let (l4_7 ||| ((1 : Int32) <<< (l7_19 &&& 31))) (fun (l4_42 : Int32) => am_let (l5_8 + (1 : Int32)) (fun (l5_43 : Int32) => some (.inl (l4_42, l5_43, (0 : Int32), I_40))))))) else none)))))
theorem it_w9 {Z : Type} {F : Int32 → Option (Int32 ⊕ Int32)} {k : Int32 → Option Z} {A : Nat → Nat → Bool} {v u : Nat} (hs : ∀ i, i < 9 → F (nI i) = if vld A v u i = true then some (.inr (nI i)) else some (.inl (nI (i + 1)))) (he : F (nI 9) = some (.inr (nI 9))) {f : Nat} (hf : f ≤ 9) : am_b1 (am_it am_fu F (nI f)) k = k (nI (nx9 A v u f)) := by
  have go : ∀ (m j i : Nat), i + j = 9 → j < m → am_it m F (nI i) = some (nI (nx9 A v u i)) := by
    intro m
    induction m with
    | zero => intro j i _ h; omega
    | succ m ih =>
      intro j i hj hm
      cases j with
      | zero =>
        have hi : i = 9 := by omega
        subst hi
        rw [am_it_e he]; rfl
      | succ j =>
        have h1 := hs i (by omega)
        by_cases z : vld A v u i = true
        · rw [if_pos z] at h1
          rw [am_it_e h1, nx9_y (by omega) z]
        · rw [if_neg z] at h1
          rw [am_it_l h1, nx9_n (by omega) z]
          exact ih j (i + 1) (by omega) (by omega)
  rw [go am_fu (9 - f) f (by omega) (by show 9 - f < 1000000; omega)]
  rfl
theorem nx9_le {A : Nat → Nat → Bool} {v u f : Nat} : nx9 A v u f ≤ 9 := by
  unfold nx9
  cases h : fs (fun x => if vld A v u x = true then some x else none) f (9 - f) with
  | none => exact Nat.le_refl 9
  | some z =>
    obtain ⟨i, h1, h2, h3⟩ := fs_in h
    have h3 : (if vld A v u i = true then some i else none) = some z := h3
    by_cases q : vld A v u i = true
    · rw [if_pos q] at h3
      have e := Option.some.inj h3
      show z ≤ 9
      omega
    · rw [if_neg q] at h3; cases h3
theorem wF_s {J : am_IT} {A : Nat → Nat → Bool} {g L d v f u mu : Nat} (hd : d < 9) (hL : L ≤ 9) (hg : g < 9) (hv : v < 512) (hu : u < 9) (hf : f ≤ 9) (h91 : J 91 d = nI u) (h71 : J 71 u = nI mu) (hmu : mu < 512) (hA : ∀ x, x < 9 → A u x = mu.testBit x) :
    wF (nI g) (nI L) (nI v, nI (d + 1), nI f, J) = if nx9 A v u f = 9 ∨ d + 1 = L then some (.inl (nI (v &&& (511 ^^^ 2 ^ u)), nI d, nI (u + 1), J)) else if am_ix (nI (d + 1)) 9 = true then (if nx9 A v u f = g then am_b1 (F_X12_notesWay_55 (up2 J 91 (d + 1) (nI (nx9 A v u f))) (nI (d + 2))) (fun K => some (.inl (nI v, nI (d + 1), nI (g + 1), K))) else some (.inl (nI (v ||| 2 ^ nx9 A v u f), nI (d + 2), nI 0, up2 J 91 (d + 1) (nI (nx9 A v u f))))) else none := by
  have x9 : am_ix (nI d) 9 = true := am_ix_nI hd (by decide)
  have hn := nx9_le (A := A) (v := v) (u := u) (f := f)
  unfold wF
  rw [am_u4_s, if_neg (nI_nle (show 0 < d + 1 by omega) (by omega))]
  refine (it_w9 (A := A) (v := v) (u := u) (fun i hi => ?_) ?_ hf).trans ?_
  rotate_left 2
  · rw [nI_dec]
    by_cases z : nx9 A v u f = 9
    · rw [if_pos (show nI (nx9 A v u f) = 9 by rw [z]; rfl), if_pos (Or.inl z), am_let_s, if_pos x9, nI_clamp (show d < 2 ^ 31 by omega), h91, am_let_s, if_pos x9, am_let_s, lk_clr u hu v hv, nI_1]
    · rw [if_neg (show ¬ nI (nx9 A v u f) = 9 from fun e => z ((nI_eq (b := 9) (by omega) (by decide)).mp e))]
      by_cases z2 : d + 1 = L
      · rw [if_pos (congrArg nI z2), if_pos (Or.inr z2), am_let_s, if_pos x9, nI_clamp (show d < 2 ^ 31 by omega), h91, am_let_s, if_pos x9, am_let_s, lk_clr u hu v hv, nI_1]
      · rw [if_neg (fun e => z2 ((nI_eq (by omega) (by omega)).mp e)), if_neg (show ¬ (nx9 A v u f = 9 ∨ d + 1 = L) from fun e => e.elim z z2)]
        by_cases hx : am_ix (nI (d + 1)) 9 = true
        · rw [if_pos hx, if_pos hx, am_let_s, nI_clamp (show d + 1 < 2 ^ 31 by omega), nI_1, nI_1]
          by_cases z3 : nx9 A v u f = g
          · rw [if_pos (congrArg nI z3), if_pos z3] <;> rfl
          · rw [if_neg (fun e => z3 ((nI_eq (by omega) (by omega)).mp e)), if_neg z3, am_let_s, am_let_s, lk_set _ (by omega) v hv] <;> rfl
        · rw [if_neg hx, if_neg hx]
  · rw [if_neg (show ¬ (9 : Int32) ≤ nI i from nI_ge (a := i) (b := 9) hi (by decide)), nI_dec, nI_clamp (show d < 2 ^ 31 by omega), h91, if_pos x9, if_pos (am_ix_nI hu (by decide)), nI_clamp (show u < 2 ^ 31 by omega), h71, v9_m i hi v hv, v9_m i hi mu hmu, nI_1]
    unfold vld
    rw [hA i hi]
    cases h1 : v.testBit i <;> cases h2 : mu.testBit i <;> rfl
  · rw [if_pos (show (9 : Int32) ≤ nI 9 by decide)]
theorem scn_i {h : Nat → wB → wB} (hh : ∀ x β, h x β = β) : ∀ j f β, scn h j f β = β
  | 0, _, _ => rfl
  | j + 1, f, β => by
    unfold scn
    rw [hh, scn_i hh j]
theorem e_nd {B : am_IT} {A : Nat → Nat → Bool} {lo : Nat → Int32} {g L : Nat} (hL : L ≤ 9) (hg : g < 9) (hlo : ∀ x, x < 9 → B 70 x = lo x) (hB : ∀ u, u < 9 → ∃ mu, mu < 512 ∧ B 71 u = nI mu ∧ ∀ x, x < 9 → A u x = mu.testBit x) :
    ∀ (k d : Nat) (r : Nat → Nat) (w : Nat) (β : wB) (J : am_IT) (m : Nat), d + 1 + k = L → w < 512 → (∀ i, i ≤ d → r i < 9) → w.testBit (r d) = false → r d ≠ g → (∀ i, i ≤ d → J 91 i = nI (r i)) → rMw B J β → cnn g (w ||| 2 ^ r d) 9 0 = m →
      ∃ s K, s ≤ tcs m ∧ rch (wF (nI g) (nI L)) s (nI (w ||| 2 ^ r d), nI (d + 1), nI 0, J) (nI w, nI d, nI (r d + 1), K) ∧ rMw B K (wk A lo g (k + 1) d r w β) ∧ ∀ i, i ≤ d → K 91 i = J 91 i := by
  intro k
  induction k with
  | zero =>
    intro d r w β J m hd hw hr hwr hrg h91 hJ hm
    have hu := hr d (Nat.le_refl d)
    obtain ⟨mu, hmu, h71, hA⟩ := hB _ hu
    have hs := wF_s (J := J) (A := A) (g := g) (L := L) (d := d) (v := w ||| 2 ^ r d) (f := 0) (by omega) hL hg (v9_l _ hu _ hw) hu (by omega) (h91 d (Nat.le_refl d)) (by rw [hJ.2.2.2.2 71 (by decide) (by decide) (by decide)]; exact h71) hmu hA
    rw [if_pos (Or.inr (by omega)), v9_c _ hu _ hw hwr] at hs
    refine ⟨1, J, ?_, rch_1 hs, ?_, fun _ _ => rfl⟩
    · cases m with
      | zero => decide
      | succ m => unfold tcs; omega
    · unfold wk
      rw [if_neg hrg, scn_i (fun x β => by split <;> rfl)]
      exact hJ
  | succ k ih =>
    intro d r w β J m hd hw hr hwr hrg h91 hJ hm
    have hu := hr d (Nat.le_refl d)
    obtain ⟨mu, hmu, h71, hA⟩ := hB _ hu
    have hv := v9_l _ hu _ hw
    have step : ∀ (C : am_IT) (γ : wB) (f : Nat), rMw B C γ → C 91 d = nI (r d) → f ≤ 9 → wF (nI g) (nI L) (nI (w ||| 2 ^ r d), nI (d + 1), nI f, C) = if nx9 A (w ||| 2 ^ r d) (r d) f = 9 ∨ d + 1 = L then some (.inl (nI w, nI d, nI (r d + 1), C)) else if am_ix (nI (d + 1)) 9 = true then (if nx9 A (w ||| 2 ^ r d) (r d) f = g then am_b1 (F_X12_notesWay_55 (up2 C 91 (d + 1) (nI (nx9 A (w ||| 2 ^ r d) (r d) f))) (nI (d + 2))) (fun K => some (.inl (nI (w ||| 2 ^ r d), nI (d + 1), nI (g + 1), K))) else some (.inl (nI ((w ||| 2 ^ r d) ||| 2 ^ nx9 A (w ||| 2 ^ r d) (r d) f), nI (d + 2), nI 0, up2 C 91 (d + 1) (nI (nx9 A (w ||| 2 ^ r d) (r d) f))))) else none := by
      intro C γ f h1 h2 hf
      rw [wF_s (J := C) (A := A) (g := g) (L := L) (d := d) (v := w ||| 2 ^ r d) (f := f) (by omega) hL hg hv hu hf h2 (by rw [h1.2.2.2.2 71 (by decide) (by decide) (by decide)]; exact h71) hmu hA, v9_c _ hu _ hw hwr]
    unfold wk
    rw [if_neg hrg]
    generalize hh : (fun x β => if vld A (w ||| 2 ^ r d) (r d) x = true then wk A lo g (k + 1) (d + 1) (pu r (d + 1) x) (w ||| 2 ^ r d) β else β) = h
    have eh : ∀ x γ, h x γ = if vld A (w ||| 2 ^ r d) (r d) x = true then wk A lo g (k + 1) (d + 1) (pu r (d + 1) x) (w ||| 2 ^ r d) γ else γ := fun x γ => by rw [← hh]
    have inner : ∀ (j f : Nat) (γ : wB) (C : am_IT), f + j = 9 → rMw B C γ → (∀ i, i ≤ d → C 91 i = nI (r i)) → ∃ s K, 0 < s ∧ s ≤ 1 + (if f ≤ g ∧ g < f + j then 1 else 0) + cnn g (w ||| 2 ^ r d) j f * (1 + tcs (m - 1)) ∧ rch (wF (nI g) (nI L)) s (nI (w ||| 2 ^ r d), nI (d + 1), nI f, C) (nI w, nI d, nI (r d + 1), K) ∧ rMw B K (scn h j f γ) ∧ ∀ i, i ≤ d → K 91 i = nI (r i) := by
      intro j
      induction j with
      | zero =>
        intro f γ C hf hC c91
        have h9 : f = 9 := by omega
        subst h9
        have hs := step C γ 9 hC (c91 d (Nat.le_refl d)) (by omega)
        rw [if_pos (Or.inl nx9_9)] at hs
        exact ⟨1, C, by omega, by omega, rch_1 hs, hC, c91⟩
      | succ j ihj =>
        intro f γ C hf hC c91
        have es : scn h (j + 1) f γ = scn h j (f + 1) (h f γ) := rfl
        rw [es]
        by_cases hvl : vld A (w ||| 2 ^ r d) (r d) f = true
        · have hnx := nx9_y (show f < 9 by omega) hvl
          have hs := step C γ f hC (c91 d (Nat.le_refl d)) (by omega)
          rw [hnx, if_neg (by omega), if_pos (am_ix_nI (by omega) (by decide))] at hs
          have ep : pu r (d + 1) f (d + 1) = f := if_pos rfl
          have eq : ∀ i, i ≤ d → pu r (d + 1) f i = r i := fun i hi => if_neg (by omega)
          have r9 : ∀ i, i < d + 2 → pu r (d + 1) f i < 9 := fun i hi => by
            by_cases zz : i = d + 1
            · rw [zz, ep]; omega
            · rw [eq i (by omega)]; exact hr i (by omega)
          have c91' : ∀ i, i < d + 2 → (up2 C 91 (d + 1) (nI f)) 91 i = nI (pu r (d + 1) f i) := fun i hi => by
            rw [up2_r]
            by_cases zz : i = d + 1
            · rw [if_pos zz, zz, ep]
            · rw [if_neg zz, eq i (by omega)]; exact c91 i (by omega)
          have hC' : rMw B (up2 C 91 (d + 1) (nI f)) γ := by
            obtain ⟨q1, q2, q3, q4, q5⟩ := hC
            exact ⟨q1, q2, q3, q4, fun a a1 a2 a3 => by rw [up2_k _ _ a2]; exact q5 a a1 a2 a3⟩
          have ehf : h f γ = wk A lo g (k + 1) (d + 1) (pu r (d + 1) f) (w ||| 2 ^ r d) γ := by rw [eh, if_pos hvl]
          by_cases z : f = g
          · obtain ⟨K1, eK1, m1, m2⟩ := e_nw (n := d + 2) (β := γ) (r := pu r (d + 1) f) (by omega) hlo r9 hC' c91'
            rw [if_pos z, eK1, am_b1_s, show g + 1 = f + 1 from by omega] at hs
            have e2 : h f γ = uB γ (d + 2) (sl lo (pu r (d + 1) f) (d + 2)) (pu r (d + 1) f) := by
              rw [ehf]
              unfold wk
              rw [if_pos (ep.trans z)]
            obtain ⟨s, K, s0, s1, s2, s3, s4⟩ := ihj (f + 1) (h f γ) K1 (by omega) (by rw [e2]; exact m1) (fun i hi => by rw [m2 i, up2_j _ _ (by omega)]; exact c91 i hi)
            refine ⟨1 + s, K, by omega, ?_, rch_t (rch_1 hs) s2, s3, s4⟩
            rw [if_neg (by omega)] at s1
            rw [if_pos (by omega)]
            have : cnn g (w ||| 2 ^ r d) (j + 1) f = cnn g (w ||| 2 ^ r d) j (f + 1) := by
              show (if f ≠ g ∧ _ then 1 else 0) + _ = _
              rw [if_neg (fun e => e.1 z), Nat.zero_add]
            rw [this]
            omega
          · rw [if_neg z] at hs
            have hbt : (w ||| 2 ^ r d).testBit f = false := by
              unfold vld at hvl
              cases hb : (w ||| 2 ^ r d).testBit f with
              | false => rfl
              | true => rw [hb, Bool.not_true, Bool.and_false] at hvl; cases hvl
            have hcn := cnn_or z hbt 9 0
            rw [if_pos (by omega), hm] at hcn
            obtain ⟨s1, K1, t1, t2, t3, t4⟩ := ih (d + 1) (pu r (d + 1) f) (w ||| 2 ^ r d) γ (up2 C 91 (d + 1) (nI f)) (m - 1) (by omega) hv (fun i hi => r9 i (by omega)) (by rw [ep]; exact hbt) (by rw [ep]; exact z) (fun i hi => c91' i (by omega)) hC' (by rw [ep]; omega)
            rw [ep] at t2
            obtain ⟨s2, K, u0, u1, u2, u3, u4⟩ := ihj (f + 1) (h f γ) K1 (by omega) (by rw [ehf]; exact t3) (fun i hi => by rw [t4 i (by omega), c91' i (by omega)]; exact congrArg nI (eq i hi))
            refine ⟨1 + (s1 + s2), K, by omega, ?_, rch_t (rch_1 hs) (rch_t t2 u2), u3, u4⟩
            have e3 : cnn g (w ||| 2 ^ r d) (j + 1) f = 1 + cnn g (w ||| 2 ^ r d) j (f + 1) := by
              show (if f ≠ g ∧ _ then 1 else 0) + _ = _
              rw [if_pos ⟨z, hbt⟩]
            rw [e3, Nat.add_mul, Nat.one_mul]
            by_cases zz : f + 1 ≤ g ∧ g < f + 1 + j
            · rw [if_pos zz] at u1
              rw [if_pos (show f ≤ g ∧ g < f + (j + 1) by omega)]
              omega
            · rw [if_neg zz] at u1
              rw [if_neg (show ¬ (f ≤ g ∧ g < f + (j + 1)) by omega)]
              omega
        · have hnx := nx9_n (show f < 9 by omega) hvl
          obtain ⟨s, K, s0, s1, s2, s3, s4⟩ := ihj (f + 1) γ C (by omega) hC c91
          have e2 : h f γ = γ := by rw [eh, if_neg hvl]
          refine ⟨s, K, s0, ?_, rch_e ?_ s0 s2, by rw [e2]; exact s3, s4⟩
          · have e3 : cnn g (w ||| 2 ^ r d) j (f + 1) * (1 + tcs (m - 1)) ≤ cnn g (w ||| 2 ^ r d) (j + 1) f * (1 + tcs (m - 1)) := Nat.mul_le_mul_right _ (Nat.le_add_left _ _)
            by_cases zz : f + 1 ≤ g ∧ g < f + 1 + j
            · rw [if_pos zz] at s1
              rw [if_pos (show f ≤ g ∧ g < f + (j + 1) by omega)]
              omega
            · rw [if_neg zz] at s1
              by_cases z3 : f ≤ g ∧ g < f + (j + 1)
              · rw [if_pos z3]; omega
              · rw [if_neg z3]; omega
          · rw [step C γ f hC (c91 d (Nat.le_refl d)) (by omega), step C γ (f + 1) hC (c91 d (Nat.le_refl d)) (by omega), hnx]
    obtain ⟨s, K, s0, s1, s2, s3, s4⟩ := inner 9 0 β J (by omega) hJ h91
    refine ⟨s, K, ?_, s2, s3, fun i hi => by rw [s4 i hi, h91 i hi]⟩
    rw [hm, if_pos (by omega)] at s1
    cases m with
    | zero => unfold tcs; omega
    | succ m =>
      unfold tcs
      rw [show m + 1 - 1 = m by omega] at s1
      omega
