/-! a stranger's way: the search -/
abbrev wB : Type := Int32 × Nat × (Nat → Nat)
def sl (lo : Nat → Int32) (r : Nat → Nat) : Nat → Int32
  | 0 => 0
  | n + 1 => sl lo r n + lo (r n)
def uB (β : wB) (n : Nat) (x : Int32) (r : Nat → Nat) : wB := if x ≤ β.1 then β else (x, n, r)
def scn (h : Nat → wB → wB) : Nat → Nat → wB → wB
  | 0, _, β => β
  | j + 1, f, β => scn h j (f + 1) (h f β)
def vld (A : Nat → Nat → Bool) (v : Nat) (u x : Nat) : Bool := A u x && !v.testBit x
def wk (A : Nat → Nat → Bool) (lo : Nat → Int32) (g : Nat) : Nat → Nat → (Nat → Nat) → Nat → wB → wB
  | 0, _, _, _, β => β
  | k + 1, d, r, v, β => if r d = g then uB β (d + 1) (sl lo r (d + 1)) r else scn (fun x β => if vld A (v ||| 2 ^ r d) (r d) x = true then wk A lo g k (d + 1) (pu r (d + 1) x) (v ||| 2 ^ r d) β else β) 9 0 β
theorem v9_m : ∀ h, h < 9 → ∀ s, s < 512 → ((nI s >>> (nI h &&& 31)) &&& (1 : Int32)) = if s.testBit h = true then 1 else 0 := by decide +kernel
theorem v9_l : ∀ h, h < 9 → ∀ s, s < 512 → (s ||| 2 ^ h) < 512 := by decide +kernel
theorem v9_c : ∀ h, h < 9 → ∀ s, s < 512 → s.testBit h = false → (s ||| 2 ^ h) &&& (511 ^^^ 2 ^ h) = s := by decide +kernel
theorem sl_c {lo : Nat → Int32} {r r' : Nat → Nat} : ∀ n, (∀ i, i < n → r i = r' i) → sl lo r n = sl lo r' n
  | 0, _ => rfl
  | n + 1, h => by
    unfold sl
    rw [sl_c n (fun i hi => h i (by omega)), h n (by omega)]
/-- the class's cells -/
def rC (B J : am_IT) (g L : Nat) (β : wB) : Prop := J 18 4 = nI g ∧ J 18 5 = nI L ∧ J 18 6 = β.1 ∧ J 18 7 = nI β.2.1 ∧ (∀ i, i < β.2.1 → J 22 i = nI (β.2.2 i)) ∧ ∀ a, a ≠ 18 → a ≠ 21 → a ≠ 22 → J a = B a
theorem m9 (a b : Nat) : nI a * 9 + nI b = nI (9 * a + b) := by rw [show (9 : Int32) = nI 9 from rfl, pk_mul, nI_add, Nat.mul_comm]
theorem e_kr {B J : am_IT} {g L n : Nat} {β : wB} {r : Nat → Nat} {x : Int32} (hn : n ≤ 9) (h : rC B J g L β) (hr : ∀ i, i < n → J 21 i = nI (r i)) : ∃ K, F_X5_keepRoute_18 J (nI n) x = some K ∧ rC B K g L (uB β n x r) ∧ ∀ i, K 21 i = J 21 i := by
  obtain ⟨h1, h2, h3, h4, h5, h6⟩ := h
  unfold F_X5_keepRoute_18 uB
  rw [h3]
  by_cases z : x ≤ β.1
  · rw [if_pos z, if_pos z]
    exact ⟨J, rfl, ⟨h1, h2, h3, h4, h5, h6⟩, fun _ => rfl⟩
  · rw [if_neg z, if_neg z, am_let_s, am_let_s, if_pos ((by decide : ∀ n, n < 10 → am_cpok (0 : Int32) (0 : Int32) (nI n) 9 9 = true) n (by omega)), am_let_s, nI_clamp (by omega)]
    refine ⟨_, rfl, ⟨?_, ?_, ?_, ?_, ?_, ?_⟩, ?_⟩
    · show cpy2 (up2 (up2 J 18 6 x) 18 7 (nI n)) 21 22 0 0 n 18 4 = _
      unfold cpy2
      rw [if_neg (fun e => absurd e.1 (by decide)), up2_j _ _ (by decide), up2_j _ _ (by decide)]; exact h1
    · show cpy2 (up2 (up2 J 18 6 x) 18 7 (nI n)) 21 22 0 0 n 18 5 = _
      unfold cpy2
      rw [if_neg (fun e => absurd e.1 (by decide)), up2_j _ _ (by decide), up2_j _ _ (by decide)]; exact h2
    · show cpy2 (up2 (up2 J 18 6 x) 18 7 (nI n)) 21 22 0 0 n 18 6 = _
      unfold cpy2
      rw [if_neg (fun e => absurd e.1 (by decide)), up2_j _ _ (by decide), up2_s]
    · show cpy2 (up2 (up2 J 18 6 x) 18 7 (nI n)) 21 22 0 0 n 18 7 = _
      unfold cpy2
      rw [if_neg (fun e => absurd e.1 (by decide)), up2_s]
    · intro i hi
      show cpy2 (up2 (up2 J 18 6 x) 18 7 (nI n)) 21 22 0 0 n 22 i = _
      unfold cpy2
      have hi' : i < n := hi
      rw [if_pos ⟨rfl, Nat.zero_le _, by omega⟩, up2_k _ _ (by decide), up2_k _ _ (by decide), show 0 + (i - 0) = i by omega]
      exact hr i hi'
    · intro a h18 h21 h22
      rw [← h6 a h18 h21 h22]
      funext j
      show cpy2 (up2 (up2 J 18 6 x) 18 7 (nI n)) 21 22 0 0 n a j = _
      unfold cpy2
      rw [if_neg (fun e => h22 e.1), up2_k _ _ h18, up2_k _ _ h18]
    · intro i
      show cpy2 (up2 (up2 J 18 6 x) 18 7 (nI n)) 21 22 0 0 n 21 i = _
      unfold cpy2
      rw [if_neg (fun e => absurd e.1 (by decide)), up2_k _ _ (by decide), up2_k _ _ (by decide)]
theorem e_wk {B : am_IT} {A : Nat → Nat → Bool} {lo : Nat → Int32} {g L : Nat} (hL : L ≤ 9) (hg : g < 9) (hlo : ∀ x, x < 9 → B 19 x = lo x) (hA : ∀ x y, x < 9 → y < 9 → B 20 (9 * x + y) = if A x y = true then 1 else 0) :
    ∀ (k d fu : Nat) (r : Nat → Nat) (v : Nat) (β : wB) (J : am_IT), d + k = L → k < fu → v < 512 → (∀ i, i ≤ d → r i < 9) → rC B J g L β → (∀ i, i < d → J 21 i = nI (r i)) →
      ∃ K, G_X5_walk_18 fu J (nI (r d)) (nI d) (sl lo r d) (nI v) = some K ∧ rC B K g L (wk A lo g k d r v β) ∧ ∀ i, i < d → K 21 i = J 21 i := by
  intro k
  induction k with
  | zero =>
    intro d fu r v β J hd hf hv hr hJ h21
    cases fu with
    | zero => omega
    | succ fu =>
      refine ⟨J, ?_, hJ, fun _ _ => rfl⟩
      show B_X5_walk_18 (G_X5_walk_18 fu) J _ _ _ _ = _
      unfold B_X5_walk_18
      rw [hJ.2.1, if_pos (nI_le (show L ≤ d by omega) (by omega))]
  | succ k ih =>
    intro d fu r v β J hd hf hv hr hJ h21
    cases fu with
    | zero => omega
    | succ fu =>
      have hrd : r d < 9 := hr d (Nat.le_refl d)
      have hJ' : rC B (up2 J 21 d (nI (r d))) g L β := by
        obtain ⟨h1, h2, h3, h4, h5, h6⟩ := hJ
        exact ⟨h1, h2, h3, h4, h5, fun a h18 h21 h22 => by rw [up2_k _ _ h21]; exact h6 a h18 h21 h22⟩
      have h21' : ∀ i, i < d + 1 → (up2 J 21 d (nI (r d))) 21 i = nI (r i) := by
        intro i hi
        by_cases z : i = d
        · subst z; exact up2_s _ _ _ _
        · rw [up2_j _ _ z]; exact h21 i (by omega)
      have esl : sl lo r (d + 1) = sl lo r d + lo (r d) := rfl
      show ∃ K, B_X5_walk_18 (G_X5_walk_18 fu) J (nI (r d)) (nI d) (sl lo r d) (nI v) = some K ∧ _
      unfold B_X5_walk_18 wk
      rw [hJ.2.1, if_neg (nI_ge (show d < L by omega) (by omega)), if_pos (show nI d < 9 from nI_lt (a := d) (b := 9) (by omega) (by decide)), if_pos (am_ix_nI (by omega) (by decide)), am_let_s, if_pos (am_ix_nI hrd (by decide)), nI_clamp (show d < 2 ^ 31 by omega), nI_clamp (show r d < 2 ^ 31 by omega), hJ'.2.2.2.2.2 19 (by decide) (by decide) (by decide), hlo _ hrd, am_let_s, hJ'.1, ← esl]
      by_cases z : r d = g
      · rw [if_pos (congrArg nI z), if_pos z, nI_1]
        obtain ⟨K, eK, k1, k2⟩ := e_kr (x := sl lo r (d + 1)) (by omega) hJ' h21'
        rw [eK, am_b1_s]
        exact ⟨K, rfl, k1, fun i hi => by rw [k2 i, up2_j _ _ (by omega)]⟩
      · rw [if_neg (fun e => z ((nI_eq (by omega) (by omega)).mp e)), if_neg z, lk_set _ hrd _ hv, am_let_s]
        have hv' := v9_l _ hrd _ hv
        have goal9 : scn (fun x β => if vld A (v ||| 2 ^ r d) (r d) x = true then wk A lo g k (d + 1) (pu r (d + 1) x) (v ||| 2 ^ r d) β else β) (9 - 0) 0 β = scn (fun x β => if vld A (v ||| 2 ^ r d) (r d) x = true then wk A lo g k (d + 1) (pu r (d + 1) x) (v ||| 2 ^ r d) β else β) 9 0 β := rfl
        generalize hh : (fun x β => if vld A (v ||| 2 ^ r d) (r d) x = true then wk A lo g k (d + 1) (pu r (d + 1) x) (v ||| 2 ^ r d) β else β) = h at goal9 ⊢
        refine it_b1_inv (R := fun zz => ∃ K : am_IT, zz = some K ∧ rC B K g L (scn h 9 0 β) ∧ ∀ i, i < d → K 21 i = J 21 i)
          (fun f x => ∃ (C : am_IT) (γ : wB), x = (nI f, C) ∧ rC B C g L γ ∧ (∀ i, i < d + 1 → C 21 i = nI (r i)) ∧ scn h (9 - f) f γ = scn h 9 0 β)
          (fun (C : am_IT) => ∃ γ : wB, rC B C g L γ ∧ (∀ i, i < d + 1 → C 21 i = nI (r i)) ∧ γ = scn h 9 0 β) (n := 9) (by omega) ?_ ?_ ⟨_, β, by rw [nI_0], hJ', h21', goal9⟩ ?_
        · rintro f x hf9 ⟨C, γ, rfl, c1, c2, c3⟩
          have es : scn h (9 - f) f γ = scn h (9 - (f + 1)) (f + 1) (h f γ) := by rw [show 9 - f = (9 - (f + 1)) + 1 by omega]; rfl
          have eh : h f γ = if vld A (v ||| 2 ^ r d) (r d) f = true then wk A lo g k (d + 1) (pu r (d + 1) f) (v ||| 2 ^ r d) γ else γ := by rw [← hh]
          rw [es, eh] at c3
          rw [am_u2_s, if_neg (show ¬ (9 : Int32) ≤ nI f from nI_ge (a := f) (b := 9) hf9 (by decide)), m9, if_pos (am_ix_nI (by omega) (by decide)), nI_clamp (by omega), c1.2.2.2.2.2 20 (by decide) (by decide) (by decide), hA _ _ hrd hf9, v9_m f hf9 _ hv', nI_1, nI_1]
          unfold vld at c3
          cases ha : A (r d) f with
          | false =>
            rw [ha, Bool.false_and, if_neg (by decide)] at c3
            rw [if_neg (by decide), am_let_s]
            exact ⟨_, rfl, C, γ, rfl, c1, c2, c3⟩
          | true =>
            rw [ha, Bool.true_and] at c3
            rw [if_pos rfl, if_pos rfl]
            cases hb : (v ||| 2 ^ r d).testBit f with
            | true =>
              rw [hb, if_neg (by decide)] at c3
              rw [if_pos rfl, if_neg (by decide), am_let_s]
              exact ⟨_, rfl, C, γ, rfl, c1, c2, c3⟩
            | false =>
              rw [hb, if_pos (by decide)] at c3
              have ep : pu r (d + 1) f (d + 1) = f := if_pos rfl
              have eq : ∀ i, i ≤ d → pu r (d + 1) f i = r i := fun i hi => if_neg (by omega)
              obtain ⟨K, eK, k1, k2⟩ := ih (d + 1) fu (pu r (d + 1) f) (v ||| 2 ^ r d) γ C (by omega) (by omega) hv' (fun i hi => by
                by_cases zz : i = d + 1
                · rw [zz, ep]; exact hf9
                · rw [eq i (by omega)]; exact hr i (by omega)) c1 (fun i hi => by rw [eq i (by omega)]; exact c2 i hi)
              rw [ep, sl_c (r' := r) (d + 1) (fun i hi => eq i (by omega))] at eK
              rw [if_pos (by decide), eK, am_b1_s, am_let_s]
              exact ⟨_, rfl, K, _, rfl, k1, fun i hi => by rw [k2 i hi]; exact c2 i hi, c3⟩
        · rintro x ⟨C, γ, rfl, c1, c2, c3⟩
          exact ⟨C, by rw [am_u2_s, if_pos (show (9 : Int32) ≤ nI 9 by decide)], γ, c1, c2, c3⟩
        · rintro C ⟨γ, c1, c2, c3⟩
          exact ⟨C, rfl, by rw [← c3]; exact c1, fun i hi => by rw [c2 i (by omega), h21 i hi]⟩
