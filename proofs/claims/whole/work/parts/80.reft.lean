/-! trades, the reference's side -/
theorem it_fsS {X E Z0 Z : Type} {f : X → Option (X ⊕ (E ⊕ Z))} {k : E → Option Z} {x0 : X} {R : Option Z} {n : Nat} {e0 : E} (S : Nat → X) (h0 : x0 = S 0) (g : Nat → Option Z0) (φ : Z0 → Z) (hn : n < 1000000) (hs : ∀ i, i < n → f (S i) = fx (g i) φ (S (i + 1))) (he : f (S n) = some (.inr (.inl e0))) (hR : fe (fs g 0 n) φ (k e0) = R) : am_lr (am_it am_fu f x0) k = R := by
  subst h0
  rw [← hR]
  have go : ∀ (m j i : Nat), i + j = n → j < m → am_lr (am_it m f (S i)) k = fe (fs g i j) φ (k e0) := by
    intro m
    induction m with
    | zero => intro j i _ h; omega
    | succ m ih =>
      intro j i hj hm
      cases j with
      | zero =>
        have hin : i = n := by omega
        subst hin
        rw [am_it_e he]; rfl
      | succ j =>
        have h1 := hs i (by omega)
        cases hg : g i with
        | none =>
          rw [hg] at h1
          rw [am_it_l (show f (S i) = some (.inl (S (i + 1))) from h1), fs_n hg]
          exact ih j (i + 1) (by omega) (by omega)
        | some z =>
          rw [hg] at h1
          rw [am_it_e (show f (S i) = some (.inr (.inr (φ z))) from h1), fs_y hg]; rfl
  exact go am_fu n 0 (by omega) (by show n < 1000000; omega)
theorem fs_ap {Z : Type} {g : Nat → Option Z} : ∀ (m a n : Nat), fs g a (m + n) = (match fs g a m with | some z => some z | none => fs g (a + m) n)
  | 0, a, n => by rw [Nat.zero_add]; rfl
  | m + 1, a, n => by
    rw [show m + 1 + n = (m + n) + 1 by omega]
    cases hg : g a with
    | none => rw [fs_n hg, fs_n hg, fs_ap m (a + 1) n, show a + 1 + m = a + (m + 1) by omega]
    | some z => rw [fs_y hg, fs_y hg]
theorem fs_sh {Z : Type} {g h : Nat → Option Z} {d : Nat} : ∀ (m a : Nat), (∀ i, a ≤ i → i < a + m → g (d + i) = h i) → fs g (d + a) m = fs h a m
  | 0, _, _ => rfl
  | m + 1, a, e => by
    have e0 := e a (Nat.le_refl a) (by omega)
    cases hg : h a with
    | none => rw [fs_n hg, fs_n (e0.trans hg)]; exact fs_sh m (a + 1) (fun i h1 h2 => e i (by omega) (by omega))
    | some z => rw [fs_y hg, fs_y (e0.trans hg)]
theorem fs_pr {Z : Type} {g : Nat → Nat → Option Z} {c : Nat} (hc : 0 < c) : ∀ (m a : Nat), fs (fun k => g (k / c) (k % c)) (c * a) (c * m) = fs (fun i => fs (fun j => g i j) 0 c) a m
  | 0, a => rfl
  | m + 1, a => by
    have e1 : fs (fun k => g (k / c) (k % c)) (c * a) c = fs (fun j => g a j) 0 c := fs_sh (h := fun j => g a j) (d := c * a) c 0 (fun i _ hi => by
      have hic : i < c := by omega
      show g ((c * a + i) / c) ((c * a + i) % c) = g a i
      rw [Nat.mul_add_div hc, Nat.div_eq_of_lt hic, Nat.mul_add_mod, Nat.mod_eq_of_lt hic, Nat.add_zero])
    rw [show c * (m + 1) = c + c * m by rw [Nat.mul_add, Nat.mul_one, Nat.add_comm], fs_ap c (c * a) (c * m), e1]
    cases hz : fs (fun j => g a j) 0 c with
    | none =>
      rw [fs_n (g := fun i => fs (fun j => g i j) 0 c) (a := a) hz]
      show fs (fun k => g (k / c) (k % c)) (c * a + c) (c * m) = _
      rw [show c * a + c = c * (a + 1) by rw [Nat.mul_add, Nat.mul_one]]
      exact fs_pr hc m (a + 1)
    | some z => rw [fs_y (g := fun i => fs (fun j => g i j) 0 c) (a := a) hz]
def pt72 (K : am_IT) (r : Nat × Nat × Nat × Nat) : am_IT := up2 (up2 K 72 r.1 (nI r.2.2.1)) 72 r.2.1 (nI r.2.2.2)
/-- the reference's state at its k-th trial -/
def jk (J : am_IT) (c u v : Nat) : Nat → am_IT
  | 0 => J
  | k + 1 => up2 (up2 J 72 u (nI (k / c))) 72 v (nI (k % c))
theorem up2_4 (J : am_IT) {u v : Nat} (a b a' b' : Int32) : up2 (up2 (up2 (up2 J 72 u a) 72 v b) 72 u a') 72 v b' = up2 (up2 J 72 u a') 72 v b' := by
  funext x i
  unfold up2
  by_cases h1 : x = 72 ∧ i = v
  · simp only [if_pos h1]
  · simp only [if_neg h1]
    by_cases h2 : x = 72 ∧ i = u
    · simp only [if_pos h2]
    · simp only [if_neg h2]
theorem jk_4 (J : am_IT) (c u v k : Nat) (a b : Int32) : up2 (up2 (jk J c u v k) 72 u a) 72 v b = up2 (up2 J 72 u a) 72 v b := by
  cases k with
  | zero => rfl
  | succ k => exact up2_4 J _ _ a b
theorem jk_55 (J : am_IT) (c u v k : Nat) : (jk J c u v k) 55 = J 55 := by
  cases k with
  | zero => rfl
  | succ k => rfl
theorem e_to {I J : am_IT} {c w p t y d ln q r : Nat} {P : Nat → Nat} (X : cx I c w p t y d ln) (S : sq I J) (hy : ∀ h u, h < 8 → u < w → J 83 (7 * h + u) = cl0 (tS I h u t)) (hP : ∀ u, u < w → J 72 u = nI (P u) ∧ P u < c) (hq : q < p) (hr : r < p) :
    F_X12_tradesOf_55 J (nI q) (nI r) = fe (trS I t w c q r P) (fun z => ((1 : Int32), pt72 J z)) (some (0, J)) := by
  have b1 : 2 ≤ c := X.1.1
  have b2 : c ≤ 4 := X.1.2.1
  have b3 : w ≤ 7 := X.1.2.2.1
  have hcc : c * c ≤ 16 := Nat.mul_le_mul b2 b2
  have hc2 : J 55 2 = nI c := by rw [S 55 2 rfl]; exact X.2.1.1.2
  have hw2 : J 55 4 = nI w := by rw [S 55 4 rfl]; exact X.2.1.2.2.2.1.2
  have hV : ∀ {L : am_IT} {Q : Nat → Nat} {s : Nat}, (∀ k, k ≠ 72 → L k = J k) → (∀ u, u < w → L 72 u = nI (Q u) ∧ Q u < 4) → s < p → F_X12_worthOf_55 L (nI s) (0 : Int32) = some (VV I t w s Q) := by
    intro L Q s h1 h2 h3
    exact mT X (sq_x S (fun j => by unfold stc; simp) h1) (fun h u hh hu => by rw [h1 83 (by decide)]; exact hy h u hh hu) (off := 0) (by omega) (fun u hu => by rw [Nat.zero_add]; exact h2 u hu) h3
  have hz : ∀ u, (0 : Int32) + nI u = nI u := fun u => Int32.zero_add _
  unfold F_X12_tradesOf_55
  rw [hV (fun _ _ => rfl) (fun u hu => ⟨(hP u hu).1, by have := (hP u hu).2; omega⟩) hq, am_b1_s, hV (fun _ _ => rfl) (fun u hu => ⟨(hP u hu).1, by have := (hP u hu).2; omega⟩) hr, am_b1_s]
  refine it_fs2 (n := w) (e0 := J) nI_0.symm (fun u => fs (fun v => trW I t w c q r P u v) (u + 1) (w - (u + 1))) (fun z => ((1 : Int32), pt72 J z)) (Nat.zero_le _) (by omega) (fun u _ hu => ?_) ?_ ?_
  · rw [hw2, if_neg (nI_ge hu (by omega)), am_let_s]
    refine it_fs2 (a := u + 1) (n := w) (e0 := J) (nI_1 u) (fun v => trW I t w c q r P u v) (fun z => .inr (.inr ((1 : Int32), pt72 J z))) (by omega) (by omega) (fun v hv hvw => ?_) ?_ ?_
    · have xu : am_ix (nI u) 35 = true := am_ix_nI (by omega) (by decide)
      have xv : am_ix (nI v) 35 = true := am_ix_nI (by omega) (by decide)
      rw [hw2, if_neg (nI_ge hvw (by omega)), hz, hz, if_pos xu, am_let_s, if_pos xv, am_let_s, nI_clamp (show u < 2 ^ 31 by omega), nI_clamp (show v < 2 ^ 31 by omega)]
      refine it_fsS (fun k => (nI k, jk J c u v k)) (n := c * c) (e0 := jk J c u v (c * c)) rfl (fun k => cnd I t w q r P u v (k / c) (k % c)) (fun z => .inr (.inr (.inr (.inr ((1 : Int32), pt72 J z))))) (by omega) (fun k hk => ?_) ?_ ?_
      · have d1 : k / c < c := Nat.div_lt_of_lt_mul hk
        have d2 : k % c < c := Nat.mod_lt _ (by omega)
        have e2 : ∀ {A B : Int32}, (up2 (jk J c u v k) 72 u A) 55 2 = nI c := fun {A B} => by rw [up2_k _ _ (show 55 ≠ 72 by decide), jk_55]; exact hc2
        show am_u2 _ (nI k, jk J c u v k) = _
        rw [am_u2_s, show (jk J c u v k) 55 2 = nI c by rw [jk_55]; exact hc2, pk_mul, if_neg (nI_ge hk (by omega)), if_pos (nI_ne0 (by omega) (by omega)), if_pos xu, am_let_s, e2 (B := 0), if_pos (nI_ne0 (by omega) (by omega)), if_pos xv, am_let_s, tn (by omega) (by omega) (by omega), pk_div (by omega) (by omega) (by omega), jk_4, nI_1]
        have hL : ∀ x, x ≠ 72 → (up2 (up2 J 72 u (nI (k / c))) 72 v (nI (k % c))) x = J x := fun x hx => by rw [up2_k _ _ hx, up2_k _ _ hx]
        have hQ : ∀ x, x < w → (up2 (up2 J 72 u (nI (k / c))) 72 v (nI (k % c))) 72 x = nI (pu (pu P u (k / c)) v (k % c) x) ∧ pu (pu P u (k / c)) v (k % c) x < 4 := by
          intro x hx
          obtain ⟨h1, h2⟩ := hP x hx
          rw [up2_r, up2_r, h1]
          unfold pu
          by_cases z1 : x = v
          · rw [if_pos z1, if_pos z1]; exact ⟨rfl, by omega⟩
          · rw [if_neg z1, if_neg z1]
            by_cases z2 : x = u
            · rw [if_pos z2, if_pos z2]; exact ⟨rfl, by omega⟩
            · rw [if_neg z2, if_neg z2]; exact ⟨rfl, by omega⟩
        rw [hV hL hQ hq, am_b1_s, hV hL hQ hr, am_b1_s]
        unfold cnd
        by_cases z1 : VV I t w q (pu (pu P u (k / c)) v (k % c)) ≤ VV I t w q P
        · rw [if_pos z1, if_pos z1, am_let_s] <;> rfl
        · rw [if_neg z1, if_neg z1]
          by_cases z2 : VV I t w r (pu (pu P u (k / c)) v (k % c)) ≤ VV I t w r P
          · rw [if_pos z2, if_pos z2, am_let_s] <;> rfl
          · rw [if_neg z2, if_neg z2] <;> rfl
      · show am_u2 _ (nI (c * c), jk J c u v (c * c)) = _
        rw [am_u2_s, show (jk J c u v (c * c)) 55 2 = nI c by rw [jk_55]; exact hc2, pk_mul, if_pos (nI_le (Nat.le_refl _) (by omega))]
      · have hpr : fs (fun k => cnd I t w q r P u v (k / c) (k % c)) 0 (c * c) = trW I t w c q r P u v := fs_pr (g := fun a b => cnd I t w q r P u v a b) (show 0 < c by omega) c 0
        rw [hpr]
        cases trW I t w c q r P u v with
        | none => rw [fe_n, if_pos xu, am_let_s, if_pos xv, am_let_s, am_let_s, jk_4, up2_id (I := J) (v := J 72 u) rfl, up2_id (I := J) (v := J 72 v) rfl, nI_1, fx_n]
        | some z => rfl
    · rw [hw2, if_pos (nI_le (Nat.le_refl w) (by omega))]
    · cases fs (fun v => trW I t w c q r P u v) (u + 1) (w - (u + 1)) with
      | none => rw [fe_n, am_let_s, nI_1, fx_n]
      | some z => rfl
  · rw [hw2, if_pos (nI_le (Nat.le_refl w) (by omega))]
  · rw [Nat.sub_zero]; rfl
