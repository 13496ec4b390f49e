/-! pots, dues, lack of the class -/
theorem e_pc {J : am_IT} {pot : Nat → Int32} {w : Nat} {P : Nat → Nat} (hw : w ≤ 7) (w1 : J 1 3 = nI w) (hP : ∀ u, u < w → J 31 u = nI (P u) ∧ P u < 4) (hp : ∀ k, k < 4 → J 2 k = pot k) : F_X0_potsOfChosen_30 J = some (ps pot P w) := by
  unfold F_X0_potsOfChosen_30
  refine it_u3b1 (fun u => ps pot P u) (fun u => nI (um P u)) (fun u => nI u) (n := w) (e := ps pot P w) rfl (by omega) (fun u hu => ?_) ?_ rfl
  · obtain ⟨h1, h2⟩ := hP u hu
    have h16 : um P u < 16 := um_16 u (fun v hv => (hP v (by omega)).2)
    have e1 : ps pot P (u + 1) = ps pot P u + (if (um P u).testBit (P u) = true then 0 else pot (P u)) := rfl
    have e2 : um P (u + 1) = um P u ||| 2 ^ P u := rfl
    rw [w1, if_neg (nI_ge hu (by omega)), if_pos (am_ix_nI (by omega) (by decide)), am_let_s, nI_clamp (show u < 2 ^ 31 by omega), h1, bt_m _ h2 _ h16, if_pos (am_ix_nI h2 (by decide)), nI_clamp (show P u < 2 ^ 31 by omega), hp _ h2, bt_o _ h2 _ h16, nI_1, e1, e2]
    by_cases z : (um P u).testBit (P u) = true
    · rw [if_pos z, if_neg (by decide), am_b1_s, if_pos z] <;> rfl
    · rw [if_neg z, if_pos rfl, am_b1_s, if_neg z] <;> rfl
  · rw [w1, if_pos (nI_le (Nat.le_refl w) (by omega))]
theorem e_wc {I J : am_IT} {c w p t y d ln lf : Nat} {a1 : Int32} {P : Nat → Nat} (X : cx I c w p t y d ln) (S : sq I J) (hy : ∀ h u, h < 8 → u < 7 → J 24 (7 * h + u) = cl0 (tS I h u t)) (hP : ∀ u, u < w → J 31 u = nI (P u) ∧ P u < 4) (hl : ∀ q, q < p → (nI q = a1 ↔ q = lf)) : F_X0_worthsOfChosenWithout_30 J a1 = some (SV I t w lf p P) := by
  have b4 : p ≤ 7 := X.1.2.2.2.1
  have p1 : J 1 4 = nI p := by rw [sq_c S (k := 1) rfl]; exact X.2.1.2.2.2.2.1.1
  unfold F_X0_worthsOfChosenWithout_30
  refine it_u2 (fun q => SV I t w lf q P) (fun q => nI q) (n := p) (e := SV I t w lf p P) rfl (by omega) (fun q hq => ?_) ?_ rfl
  · have e1 : SV I t w lf (q + 1) P = if q = lf then SV I t w lf q P else SV I t w lf q P + VV I t w q P := rfl
    rw [p1, if_neg (nI_ge hq (by omega)), e1]
    by_cases z : q = lf
    · rw [if_pos ((hl q hq).mpr z), if_pos z, Int32.add_zero, am_let_s, am_let_s, nI_1]
    · rw [if_neg (fun e => z ((hl q hq).mp e)), if_neg z, cT_31 X S hy hP hq, am_b1_s, am_let_s, am_let_s, nI_1]
      rfl
  · rw [p1, if_pos (nI_le (Nat.le_refl p) (by omega))]
def DU (I : am_IT) (t w c p q : Nat) : Int32 := mxv (fB I t w c p q) (c ^ w) - (SV I t w q p (bP I t w c p 100) - ps (I 2) (bP I t w c p 100) w)
theorem bP_lt {I : am_IT} {c w p t y d ln lf : Nat} (X : cx I c w p t y d ln) (u : Nat) : bP I t w c p lf u < c := dg_lt (by have : 2 ≤ c := X.1.1; omega)
theorem e_du {I J : am_IT} {c w p t y d ln q : Nat} (X : cx I c w p t y d ln) (S : sq I J) (hy : ∀ h u, h < 8 → u < 7 → J 24 (7 * h + u) = cl0 (tS I h u t)) (h31 : ∀ u, u < w → J 31 u = nI (bP I t w c p 100 u)) (hq : q < p) :
    ∃ K, F_X0_dueOf_30 J (nI q) = some (DU I t w c p q, K) ∧ ∀ a, a ≠ 30 → a ≠ 32 → a ≠ 33 → a ≠ 34 → a ≠ 35 → K a = J a := by
  have b2 : c ≤ 4 := X.1.2.1
  have b3 : w ≤ 7 := X.1.2.2.1
  have b4 : p ≤ 7 := X.1.2.2.2.1
  have hl : ∀ r, r < p → (nI r = nI q ↔ r = q) := fun r hr => nI_eq (by omega) (by omega)
  obtain ⟨K, eK, -, kk⟩ := e_gw X S hy hl
  have SK : sq I K := fun a i ma => by rw [kk a (st_ne (fun _ => rfl) ma) (st_ne (fun _ => rfl) ma) (st_ne (fun _ => rfl) ma) (st_ne (fun _ => rfl) ma) (st_ne (fun _ => rfl) ma)]; exact S a i ma
  have k31 : ∀ u, u < w → K 31 u = nI (bP I t w c p 100 u) ∧ bP I t w c p 100 u < 4 := fun u hu => by
    rw [kk 31 (by decide) (by decide) (by decide) (by decide) (by decide)]
    have := bP_lt (lf := 100) X u
    exact ⟨h31 u hu, by omega⟩
  refine ⟨K, ?_, kk⟩
  unfold F_X0_dueOf_30
  rw [eK, am_b2_s, e_wc X SK (fun h u hh hu => by rw [kk 24 (by decide) (by decide) (by decide) (by decide) (by decide)]; exact hy h u hh hu) k31 hl, am_b1_s, e_pc (pot := I 2) b3 (by rw [sq_c SK (k := 1) rfl]; exact X.2.1.2.2.2.1.1) k31 (fun k _ => by rw [sq_c SK (k := 2) rfl]), am_b1_s]
  rfl
def LK (I : am_IT) (t w c p : Nat) : Nat → Int32
  | 0 => ps (I 2) (bP I t w c p 100) w
  | q + 1 => LK I t w c p q - DU I t w c p q
theorem e_lc {I J : am_IT} {c w p t y d ln : Nat} (X : cx I c w p t y d ln) (S : sq I J) (hy : ∀ h u, h < 8 → u < 7 → J 24 (7 * h + u) = cl0 (tS I h u t)) (h31 : ∀ u, u < w → J 31 u = nI (bP I t w c p 100 u)) :
    ∃ K, F_X0_lackOfChosen_30 J = some (LK I t w c p p, K) ∧ ∀ a, a ≠ 30 → a ≠ 32 → a ≠ 33 → a ≠ 34 → a ≠ 35 → K a = J a := by
  have b2 : c ≤ 4 := X.1.2.1
  have b3 : w ≤ 7 := X.1.2.2.1
  have b4 : p ≤ 7 := X.1.2.2.2.1
  unfold F_X0_lackOfChosen_30
  rw [e_pc (pot := I 2) (P := bP I t w c p 100) b3 (by rw [sq_c S (k := 1) rfl]; exact X.2.1.2.2.2.1.1) (fun u hu => ⟨h31 u hu, by have := bP_lt (lf := 100) X u; omega⟩) (fun k _ => by rw [sq_c S (k := 2) rfl]), am_b1_s]
  refine it_b2_inv (R := fun z => ∃ K : am_IT, z = some (LK I t w c p p, K) ∧ ∀ a, a ≠ 30 → a ≠ 32 → a ≠ 33 → a ≠ 34 → a ≠ 35 → K a = J a)
    (fun q x => ∃ K : am_IT, x = (LK I t w c p q, nI q, K) ∧ ∀ a, a ≠ 30 → a ≠ 32 → a ≠ 33 → a ≠ 34 → a ≠ 35 → K a = J a)
    (fun x => ∃ K : am_IT, x = (LK I t w c p p, K) ∧ ∀ a, a ≠ 30 → a ≠ 32 → a ≠ 33 → a ≠ 34 → a ≠ 35 → K a = J a) (n := p) (by omega) ?_ ?_ ⟨J, rfl, fun _ _ _ _ _ _ => rfl⟩ ?_
  · rintro q x hq ⟨K, rfl, kk⟩
    have SK : sq I K := fun a i ma => by rw [kk a (st_ne (fun _ => rfl) ma) (st_ne (fun _ => rfl) ma) (st_ne (fun _ => rfl) ma) (st_ne (fun _ => rfl) ma) (st_ne (fun _ => rfl) ma)]; exact S a i ma
    obtain ⟨L, eL, lk⟩ := e_du X SK (fun h u hh hu => by rw [kk 24 (by decide) (by decide) (by decide) (by decide) (by decide)]; exact hy h u hh hu) (fun u hu => by rw [kk 31 (by decide) (by decide) (by decide) (by decide) (by decide)]; exact h31 u hu) hq
    exact ⟨(LK I t w c p (q + 1), nI (q + 1), L), by rw [am_u3_s, show K 1 4 = nI p by rw [sq_c SK (k := 1) rfl]; exact X.2.1.2.2.2.2.1.1, if_neg (nI_ge hq (by omega)), eL, am_b2_s, am_let_s, am_let_s, nI_1] <;> rfl, L, rfl, fun a h1 h2 h3 h4 h5 => by rw [lk a h1 h2 h3 h4 h5]; exact kk a h1 h2 h3 h4 h5⟩
  · rintro x ⟨K, rfl, kk⟩
    have SK : sq I K := fun a i ma => by rw [kk a (st_ne (fun _ => rfl) ma) (st_ne (fun _ => rfl) ma) (st_ne (fun _ => rfl) ma) (st_ne (fun _ => rfl) ma) (st_ne (fun _ => rfl) ma)]; exact S a i ma
    exact ⟨_, by rw [am_u3_s, show K 1 4 = nI p by rw [sq_c SK (k := 1) rfl]; exact X.2.1.2.2.2.2.1.1, if_pos (nI_le (Nat.le_refl p) (by omega))], K, rfl, kk⟩
  · rintro e1 e2 ⟨K, hx, kk⟩
    have h1 : e1 = LK I t w c p p := congrArg (fun z => z.1) hx
    have h2 : e2 = K := congrArg (fun z => z.2) hx
    rw [h1, h2]
    exact ⟨K, rfl, kk⟩
/-! the reference's pots -/
theorem e_po {J : am_IT} {pot : Nat → Int32} {w c off : Nat} {P : Nat → Nat} (hw : w ≤ 7) (hc : c ≤ 4) (ho : off ≤ 28) (w2 : J 55 4 = nI w) (c2 : J 55 2 = nI c) (hP : ∀ u, u < w → J 72 (off + u) = nI (P u) ∧ P u < c) (hp : ∀ k, k < 4 → J 56 k = pot k) : F_X12_potsOf_55 J (nI off) = some (ps pot P w) := by
  have h16 : ∀ u, u ≤ w → um P u < 16 := fun u hu => um_16 u (fun v hv => by have := (hP v (by omega)).2; omega)
  unfold F_X12_potsOf_55
  refine it_u2 (fun u => nI (um P u)) (fun u => nI u) (n := w) (e := nI (um P w)) rfl (by omega) (fun u hu => ?_) ?_ ?_
  · obtain ⟨h1, h2⟩ := hP u hu
    have e2 : um P (u + 1) = um P u ||| 2 ^ P u := rfl
    rw [w2, if_neg (nI_ge hu (by omega)), nI_add, if_pos (am_ix_nI (by omega) (by decide)), nI_clamp (by omega), h1, bt_o _ (by omega) _ (h16 u (by omega)), am_let_s, am_let_s, nI_1, e2]
  · rw [w2, if_pos (nI_le (Nat.le_refl w) (by omega))]
  · refine it_u2 (fun k => rp pot (um P w) k) (fun k => nI k) (n := c) (e := ps pot P w) rfl (by omega) (fun k hk => ?_) ?_ rfl
    · have e1 : rp pot (um P w) (k + 1) = if (um P w).testBit k = true then rp pot (um P w) k + pot k else rp pot (um P w) k := rfl
      rw [c2, if_neg (nI_ge hk (by omega)), bt_m k (by omega) _ (h16 w (Nat.le_refl w)), if_pos (am_ix_nI (show k < 4 by omega) (by decide)), nI_clamp (by omega), hp k (by omega), nI_1, e1]
      by_cases z : (um P w).testBit k = true
      · rw [if_pos z, if_pos rfl, if_pos z] <;> rfl
      · rw [if_neg z, if_neg (by decide), if_neg z] <;> rfl
    · rw [c2, if_pos (nI_le (Nat.le_refl c) (by omega)), rp_ps w (fun u hu => (hP u hu).2)]
