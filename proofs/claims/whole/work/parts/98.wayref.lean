/-! a stranger's way: the reference walks without calling itself -/
def rMw (B J : am_IT) (β : wB) : Prop := J 55 63 = β.1 ∧ J 55 62 = nI β.2.1 ∧ (∀ i, i < β.2.1 → J 92 i = nI (β.2.2 i)) ∧ (∀ j, j ≠ 62 → j ≠ 63 → J 55 j = B 55 j) ∧ ∀ a, a ≠ 55 → a ≠ 91 → a ≠ 92 → J a = B a
theorem e_nw {B J : am_IT} {lo : Nat → Int32} {n : Nat} {β : wB} {r : Nat → Nat} (hn : n ≤ 9) (hlo : ∀ x, x < 9 → B 70 x = lo x) (hr9 : ∀ i, i < n → r i < 9) (h : rMw B J β) (hr : ∀ i, i < n → J 91 i = nI (r i)) : ∃ K, F_X12_notesWay_55 J (nI n) = some K ∧ rMw B K (uB β n (sl lo r n) r) ∧ ∀ i, K 91 i = J 91 i := by
  obtain ⟨h1, h2, h3, h4, h5⟩ := h
  have h70 : J 70 = B 70 := h5 70 (by decide) (by decide) (by decide)
  unfold F_X12_notesWay_55
  refine it_b1_inv (R := fun z => ∃ K : am_IT, z = some K ∧ rMw B K (uB β n (sl lo r n) r) ∧ ∀ i, K 91 i = J 91 i)
    (fun i x => x = (sl lo r i, nI i)) (fun (e : Int32) => e = sl lo r n) (n := n) (by omega) ?_ ?_ (by rw [nI_0]; rfl) ?_
  · rintro i x hi rfl
    refine ⟨_, ?_, rfl⟩
    rw [am_u2_s, if_neg (nI_ge hi (by omega)), if_pos (am_ix_nI (by omega) (by decide)), nI_clamp (by omega), hr i hi, if_pos (am_ix_nI (hr9 i hi) (by decide)), nI_clamp (by have := hr9 i hi; omega), h70, hlo _ (hr9 i hi), am_let_s, am_let_s, nI_1]
    rfl
  · rintro x rfl
    exact ⟨_, by rw [am_u2_s, if_pos (nI_le (Nat.le_refl n) (by omega))], rfl⟩
  rintro e rfl
  unfold uB
  rw [h1]
  by_cases z : sl lo r n ≤ β.1
  · rw [if_pos z, if_neg (Int32.not_lt.mpr z)]
    exact ⟨J, rfl, ⟨h1, h2, h3, h4, h5⟩, fun _ => rfl⟩
  · rw [if_neg z, if_pos (Int32.not_le.mp z), am_let_s, am_let_s]
    refine it_b1_inv (R := fun zz => ∃ K : am_IT, zz = some K ∧ rMw B K (sl lo r n, n, r) ∧ ∀ i, K 91 i = J 91 i)
      (fun i x => ∃ C : am_IT, x = (nI i, C) ∧ (∀ q, q < i → C 92 q = nI (r q)) ∧ ∀ a, a ≠ 92 → C a = (up2 (up2 J 55 63 (sl lo r n)) 55 62 (nI n)) a)
      (fun (C : am_IT) => (∀ q, q < n → C 92 q = nI (r q)) ∧ ∀ a, a ≠ 92 → C a = (up2 (up2 J 55 63 (sl lo r n)) 55 62 (nI n)) a) (n := n) (by omega) ?_ ?_ ⟨_, by rw [nI_0], fun q hq => absurd hq (Nat.not_lt_zero q), fun _ _ => rfl⟩ ?_
    · rintro i x hi ⟨C, rfl, c1, c2⟩
      refine ⟨(nI (i + 1), up2 C 92 i (nI (r i))), ?_, _, rfl, fun q hq => ?_, fun a ha => by rw [up2_k _ _ ha]; exact c2 a ha⟩
      · rw [am_u2_s, if_neg (nI_ge hi (by omega)), if_pos (am_ix_nI (by omega) (by decide)), nI_clamp (by omega), c2 91 (by decide), up2_k _ _ (by decide), up2_k _ _ (by decide), hr i hi, am_let_s, am_let_s, nI_1]
        try rw [if_pos (am_ix_nI (by omega) (by decide))]
      · by_cases zz : q = i
        · subst zz; exact up2_s _ _ _ _
        · rw [up2_j _ _ zz]; exact c1 q (by omega)
    · rintro x ⟨C, rfl, c1, c2⟩
      exact ⟨C, by rw [am_u2_s, if_pos (nI_le (Nat.le_refl n) (by omega))], c1, c2⟩
    rintro C ⟨c1, c2⟩
    refine ⟨C, rfl, ⟨?_, ?_, c1, ?_, ?_⟩, fun i => ?_⟩
    · rw [c2 55 (by decide), up2_j _ _ (by decide), up2_s]
    · rw [c2 55 (by decide), up2_s]
    · intro j j62 j63
      rw [c2 55 (by decide), up2_j _ _ j62, up2_j _ _ j63]; exact h4 j j62 j63
    · intro a a55 a91 a92
      rw [c2 a a92, up2_k _ _ a55, up2_k _ _ a55]; exact h5 a a55 a91 a92
    · rw [c2 91 (by decide), up2_k _ _ (by decide), up2_k _ _ (by decide)]
/-- the first that can be gone to, from f on, or 9 -/
def nx9 (A : Nat → Nat → Bool) (v u f : Nat) : Nat := (fs (fun x => if vld A v u x = true then some x else none) f (9 - f)).getD 9
theorem nx9_y {A : Nat → Nat → Bool} {v u f : Nat} (hf : f < 9) (h : vld A v u f = true) : nx9 A v u f = f := by
  unfold nx9
  rw [show 9 - f = (9 - (f + 1)) + 1 by omega, fs_y (show (if vld A v u f = true then some f else none) = some f from if_pos h)]
  rfl
theorem nx9_n {A : Nat → Nat → Bool} {v u f : Nat} (hf : f < 9) (h : ¬ vld A v u f = true) : nx9 A v u f = nx9 A v u (f + 1) := by
  unfold nx9
  rw [show 9 - f = (9 - (f + 1)) + 1 by omega, fs_n (show (if vld A v u f = true then some f else none) = none from if_neg h)]
theorem nx9_9 {A : Nat → Nat → Bool} {v u : Nat} : nx9 A v u 9 = 9 := rfl
/-- how many steps take it from a state to another one -/
def rch {X E : Type} (F : X → Option (X ⊕ E)) (s : Nat) (x y : X) : Prop := ∀ m, am_it (s + m) F x = am_it m F y
theorem rch_1 {X E : Type} {F : X → Option (X ⊕ E)} {x y : X} (h : F x = some (.inl y)) : rch F 1 x y := fun m => by rw [show 1 + m = m + 1 by omega]; exact am_it_l h
theorem rch_t {X E : Type} {F : X → Option (X ⊕ E)} {s1 s2 : Nat} {x y z : X} (h1 : rch F s1 x y) (h2 : rch F s2 y z) : rch F (s1 + s2) x z := fun m => by rw [Nat.add_assoc, h1, h2]
theorem rch_e {X E : Type} {F : X → Option (X ⊕ E)} {s : Nat} {x y z : X} (he : F x = F y) (hs : 0 < s) (h : rch F s y z) : rch F s x z := fun m => by
  rw [← h m]
  obtain ⟨k, hk⟩ : ∃ k, s + m = k + 1 := ⟨s + m - 1, by omega⟩
  rw [hk]
  unfold am_it
  rw [he]
/-- how many are left to go to but the goal; what a node costs at most -/
def cnn (g v : Nat) : Nat → Nat → Nat
  | 0, _ => 0
  | j + 1, f => (if f ≠ g ∧ v.testBit f = false then 1 else 0) + cnn g v j (f + 1)
def tcs : Nat → Nat
  | 0 => 2
  | m + 1 => 2 + (m + 1) * (1 + tcs m)
theorem cnn_or {g v x : Nat} (hx : x ≠ g) (hv : v.testBit x = false) : ∀ j f, cnn g (v ||| 2 ^ x) j f + (if f ≤ x ∧ x < f + j then 1 else 0) = cnn g v j f
  | 0, f => by
    rw [if_neg (by omega)]; rfl
  | j + 1, f => by
    have ih := cnn_or hx hv j (f + 1)
    unfold cnn
    rw [tb_or]
    by_cases z : f = x
    · subst z
      rw [if_pos rfl, if_neg (show ¬ (f ≠ g ∧ true = false) from fun e => absurd e.2 (by decide)), if_pos (show f ≠ g ∧ v.testBit f = false from ⟨hx, hv⟩), if_pos (by omega)]
      rw [if_neg (by omega)] at ih
      omega
    · rw [if_neg z]
      by_cases z2 : f + 1 ≤ x ∧ x < f + 1 + j
      · rw [if_pos z2] at ih
        rw [if_pos (show f ≤ x ∧ x < f + (j + 1) by omega)]
        omega
      · rw [if_neg z2] at ih
        rw [if_neg (show ¬ (f ≤ x ∧ x < f + (j + 1)) by omega)]
        omega
theorem tcs_le : ∀ m, m ≤ 7 → tcs m ≤ 41099 := by decide
