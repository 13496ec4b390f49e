/-! PURE PART: numbers, reads and writes -/
theorem am_b1_s {A1 Z : Type} (a : A1) (f : A1 → Option Z) : am_b1 (some a) f = f a := rfl
theorem am_b2_s {A1 A2 Z : Type} (a : A1) (b : A2) (f : A1 → A2 → Option Z) : am_b2 (some (a, b)) f = f a b := rfl
theorem am_b3_s {A1 A2 A3 Z : Type} (a : A1) (b : A2) (c : A3) (f : A1 → A2 → A3 → Option Z) : am_b3 (some (a, b, c)) f = f a b c := rfl
theorem am_let_s {A Z : Type} (a : A) (f : A → Z) : am_let a f = f a := rfl
theorem am_lr_l {A Z : Type} (a : A) (f : A → Option Z) : am_lr (some (.inl a)) f = f a := rfl
theorem am_lr_r {A Z : Type} (z : Z) (f : A → Option Z) : am_lr (some (.inr z)) f = some z := rfl
theorem am_ix_nI {j n : Nat} (h : j < n) (hn : n < 2 ^ 31) : am_ix (nI j) n = true := decide_eq_true (by rw [nI_toInt (by omega)]; omega)
theorem tri (x : Int32) {n : Nat} (hn : n < 2 ^ 31) : x < 0 ∨ (¬ x < 0 ∧ nI n ≤ x) ∨ (∃ j, j < n ∧ x = nI j ∧ ¬ x < 0 ∧ ¬ nI n ≤ x ∧ x.toNatClampNeg = j) := by
  by_cases h0 : x < 0
  · exact Or.inl h0
  · by_cases h1 : nI n ≤ x
    · exact Or.inr (Or.inl ⟨h0, h1⟩)
    · rcases pk_ix x hn with h | h | ⟨j, hj, rfl⟩
      · exact absurd h h0
      · exact absurd h h1
      · exact Or.inr (Or.inr ⟨j, hj, rfl, h0, h1, nI_clamp (by omega)⟩)
/-- within 0 .. m -/
theorem tri0 (x : Int32) {m : Int32} {n : Nat} (hm : m = nI n) (hn : n < 2 ^ 31) : x < 0 ∨ (¬ x < 0 ∧ m < x) ∨ (∃ j, j ≤ n ∧ x = nI j ∧ ¬ x < 0 ∧ ¬ m < x ∧ x.toNatClampNeg = j) := by
  by_cases h0 : x < 0
  · exact Or.inl h0
  · by_cases h1 : m < x
    · exact Or.inr (Or.inl ⟨h0, h1⟩)
    · obtain ⟨j, hj, rfl⟩ := nI_of2 (x := x) (M := m) (n := n) (by rw [hm]; exact nI_toInt hn) h0 (Int32.not_lt.mp h1)
      exact Or.inr (Or.inr ⟨j, hj, rfl, h0, h1, nI_clamp (by omega)⟩)
theorem up2_s {α : Type} (f : Nat → Nat → α) (k j : Nat) (v : α) : up2 f k j v k j = v := by simp [up2]
theorem up2_j {α : Type} (f : Nat → Nat → α) {k j j2 : Nat} (v : α) (h : j2 ≠ j) : up2 f k j v k j2 = f k j2 := by simp [up2, h]
theorem up2_k {α : Type} (f : Nat → Nat → α) {k k2 j : Nat} (v : α) (h : k2 ≠ k) : up2 f k j v k2 = f k2 := up2_ne h
/-! the relation of the class's town T (cells 1 ..) and the reference's M (cells 55 ..) -/
def vb (n : Nat) (x : Int32) : Prop := ∃ k, k < n ∧ x = nI k
def v9 (x : Int32) : Prop := -9 ≤ x.toInt ∧ x.toInt ≤ 9
def rPot (f g : Nat → Int32) : Prop := ∀ j, j < 4 → f j = g j ∧ vb 1000 (f j)
def rPaint (c w : Nat) (f g : Nat → Int32) : Prop := ∀ j, j < w → f j = g j ∧ vb c (f j)
def rHouse (p : Nat) (f g : Nat → Int32) : Prop := (∀ j, j < p → f j = g j ∧ vb 8 (f j)) ∧ ∀ i j, i < p → j < p → f i = f j → i = j
def rView (f g : Nat → Int32) : Prop := ∀ j, j < 56 → f j = g j ∧ vb 100 (f j)
def rTree (w y t : Nat) (f g1 g2 g3 g4 : Nat → Int32) : Prop := ∀ j, j < t → ∃ h u g s : Nat, h < 8 ∧ u < w ∧ g < 100 ∧ s ≤ y ∧ f (3 * j) = nI (7 * h + u) ∧ f (3 * j + 1) = nI g ∧ f (3 * j + 2) = nI s ∧ g1 j = nI h ∧ g2 j = nI u ∧ g3 j = nI g ∧ g4 j = nI s
def rTaste (n : Nat) (f g : Nat → Int32) : Prop := (∀ j, j < n → f j = g j ∧ v9 (f j)) ∧ ∀ j, n ≤ j → j < 28 → f j = 0
def rNei (f g : Nat → Int32) : Prop := (∀ j, j < 49 → f j = g j ∧ vb 2 (f j)) ∧ ∀ u v, u < 7 → v < 7 → f (7 * u + v) = f (7 * v + u)
def rDeed (c p d : Nat) (f g1 g2 g3 : Nat → Int32) : Prop := (∀ k, k < d → ∃ q a b : Nat, q < p ∧ a < c ∧ b < c ∧ a ≠ b ∧ g1 k = nI q ∧ g2 k = nI a ∧ g3 k = nI b) ∧
  ∀ q a b, q < 7 → a < 4 → b < 4 → ((∃ k, k < d ∧ g1 k = nI q ∧ g2 k = nI a ∧ g3 k = nI b) → f (16 * q + 4 * a + b) = 1) ∧ ((¬ ∃ k, k < d ∧ g1 k = nI q ∧ g2 k = nI a ∧ g3 k = nI b) → f (16 * q + 4 * a + b) = 0)
def rLook (f g : Nat → Int32) : Prop := ∀ j, j < 9 → f j = g j ∧ vb 100 (f j)
def rLink (f g : Nat → Int32) : Prop := ∀ a, a < 9 → ∃ m : Nat, m < 512 ∧ g a = nI m ∧ ∀ b, b < 9 → f (9 * a + b) = if m.testBit b = true then 1 else 0
/-- an operation of a rule: kind 0 number, 1 fact, 2 part, 3 not, 4 .. 11 as the class's steps -/
abbrev rOp : Type := Nat × Nat
def rOpOk (o : rOp) : Prop := (o.1 = 0 ∧ o.2 < 10000) ∨ (o.1 = 1 ∧ o.2 < 6) ∨ (o.1 = 2 ∧ 0 < o.2 ∧ o.2 < 10000) ∨ (3 ≤ o.1 ∧ o.1 ≤ 11 ∧ o.2 = 0)
/-- what stands on the stack behind it, true for a truth and false for a number (none: it can't be) -/
def rDep (o : rOp) (s : List Bool) : Option (List Bool) :=
  if o.1 ≤ 1 then (if s.length < 32 then some (false :: s) else none)
  else if o.1 = 2 then (match s with
    | false :: r => some (false :: r)
    | _ => none)
  else if o.1 = 3 then (match s with
    | true :: r => some (true :: r)
    | _ => none)
  else if o.1 ≤ 6 then (match s with
    | false :: false :: r => some (false :: r)
    | _ => none)
  else if o.1 ≤ 9 then (match s with
    | false :: false :: r => some (true :: r)
    | _ => none)
  else (match s with
    | true :: true :: r => some (true :: r)
    | _ => none)
def rRun : List rOp → List Bool → Option (List Bool)
  | [], s => some s
  | o :: l, s => (rDep o s).bind (rRun l)
/-- what the reference makes of an operation -/
def rRef (o : rOp) : List (Nat × Nat) := if o.1 = 2 then [(0, o.2), (5, 0)] else if o.1 = 0 then [(0, o.2)] else if o.1 = 1 then [(1, o.2)] else if o.1 = 3 then [(9, 0)] else if o.1 = 4 then [(2, 0)] else if o.1 = 5 then [(3, 0)] else if o.1 = 6 then [(4, 0)] else if o.1 = 7 then [(6, 0)] else if o.1 = 8 then [(7, 0)] else if o.1 = 9 then [(8, 0)] else if o.1 = 10 then [(10, 0)] else [(11, 0)]
def rRefs (l : List rOp) : List (Nat × Nat) := l.flatMap rRef
def rRule (ln : Nat) (sc : Int32) (me se st lw lf lt op ar : Nat → Int32) : Prop := ∃ (ls : List (Nat × List rOp)), ls.length = ln ∧
  (∀ l m code, ls[l]? = some (m, code) → m < 6 ∧ me l = nI (261 + m) ∧ lw l = nI (1 + m) ∧ (∀ o ∈ code, rOpOk o) ∧ (code = [] ∨ rRun code [] = some [true]) ∧
    se l = nI ((ls.take (l + 1)).map (fun q => q.2.length)).sum ∧ lf l = nI ((ls.take l).map (fun q => (rRefs q.2).length)).sum ∧ lt l = nI ((ls.take (l + 1)).map (fun q => (rRefs q.2).length)).sum) ∧
  (ls.flatMap (fun q => q.2)).length ≤ 400 ∧ (rRefs (ls.flatMap (fun q => q.2))).length ≤ 400 ∧ sc = nI (ls.flatMap (fun q => q.2)).length ∧
  (∀ k o, (ls.flatMap (fun q => q.2))[k]? = some o → st k = nI (16 * o.2 + o.1)) ∧
  (∀ k a b, (rRefs (ls.flatMap (fun q => q.2)))[k]? = some (a, b) → op k = nI a ∧ (a ≤ 1 → ar k = nI b))
def rBnd (c w p t y d ln : Nat) : Prop := 2 ≤ c ∧ c ≤ 4 ∧ w ≤ 7 ∧ p ≤ 7 ∧ t ≤ 20 ∧ y ≤ 999 ∧ d ≤ 40 ∧ ln ≤ 16
def rSc (c w p t y d ln : Nat) (T M : am_IT) : Prop := (T 1 0 = nI c ∧ M 55 2 = nI c) ∧ (T 1 1 = M 55 1) ∧ (T 1 2 = nI y ∧ M 55 13 = nI y) ∧ (T 1 3 = nI w ∧ M 55 4 = nI w) ∧ (T 1 4 = nI p ∧ M 55 5 = nI p) ∧ (T 1 5 = nI t ∧ M 55 8 = nI t) ∧ (T 11 0 = nI ln ∧ M 55 32 = nI ln) ∧ (T 15 0 = nI d ∧ M 55 18 = nI d)
def rRest (c w p t y d ln : Nat) (T M : am_IT) : Prop := rPot (T 2) (M 56) ∧ rPaint c w (T 3) (M 72) ∧ rHouse p (T 4) (M 57) ∧ rView (T 5) (M 58) ∧ rTree w y t (T 6) (M 59) (M 60) (M 61) (M 62) ∧ rTaste (4 * p) (T 7) (M 63) ∧ rTaste (4 * p) (T 8) (M 64) ∧
  ((∀ j, j < p → T 9 j = M 65 j ∧ v9 (T 9 j)) ∧ ∀ j, p ≤ j → j < 7 → T 9 j = 0) ∧ rNei (T 10) (M 66) ∧ rDeed c p d (T 16) (M 67) (M 68) (M 69) ∧ rLook (T 19) (M 70) ∧ rLink (T 20) (M 71) ∧ rRule ln (T 11 1) (T 12) (T 13) (T 14) (M 75) (M 76) (M 77) (M 78) (M 79)
def rt (c w p t y d ln : Nat) (T M : am_IT) : Prop := rBnd c w p t y d ln ∧ rSc c w p t y d ln T M ∧ rRest c w p t y d ln T M
/-- the kept town, and the reference's image, as towns -/
def kT (I : am_IT) : am_IT := fun k j => I (93 + k) j
def kM (I : am_IT) : am_IT := fun k j => match k with
  | 55 => (match j with
    | 1 => I 93 0
    | 2 => I 93 1
    | 13 => I 93 2
    | 4 => I 93 3
    | 8 => I 93 120
    | 5 => I 93 219
    | 18 => I 93 290
    | 32 => I 93 411
    | _ => 0)
  | 72 => I 93 (4 + j)
  | 56 => I 93 (11 + j)
  | 58 => I 93 (15 + j)
  | 66 => I 93 (71 + j)
  | 59 => I 93 (121 + 4 * j)
  | 60 => I 93 (122 + 4 * j)
  | 61 => I 93 (123 + 4 * j)
  | 62 => I 93 (124 + 4 * j)
  | 70 => I 93 (201 + 2 * j)
  | 71 => I 93 (202 + 2 * j)
  | 57 => I 93 (220 + 2 * j)
  | 65 => I 93 (221 + 2 * j)
  | 63 => I 93 (234 + 2 * j)
  | 64 => I 93 (235 + 2 * j)
  | 67 => I 93 (291 + 3 * j)
  | 68 => I 93 (292 + 3 * j)
  | 69 => I 93 (293 + 3 * j)
  | 75 => I 93 (412 + 3 * j)
  | 76 => I 93 (413 + 3 * j)
  | 77 => I 93 (414 + 3 * j)
  | 78 => I 93 (460 + 2 * j)
  | 79 => I 93 (461 + 2 * j)
  | _ => 0
def rWords : List Int32 := [32, 98, 121, 32, 109, 111, 115, 116, 32, 119, 105, 110, 100, 111, 119, 32, 121, 97, 114, 100, 115, 32, 115, 117, 109, 32, 116, 117, 114, 110, 32, 107, 101, 101, 112, 32, 119, 104, 101, 110, 32, 111, 114, 32, 97, 110, 100, 32, 110, 111, 116, 32, 119, 97, 108, 108, 32, 115, 101, 101, 114, 115, 32, 97, 108, 108, 32, 103, 114, 101, 97, 116, 32, 99, 111, 108, 111, 117, 114, 32, 121, 101, 97, 114, 32]
/-- the tape, the latest fault, the reference's own constants -/
def rTape (n : Nat) (I : am_IT) : Prop := n ≤ 400 ∧ I 0 9 = nI n ∧ I 55 26 = nI n ∧ ∀ j, j < n → I 54 j = I 73 j ∧ vb 256 (I 54 j)
def rMisc (b : Bool) (I : am_IT) : Prop := (I 0 10 = I 55 44 ∧ I 0 11 = I 55 45) ∧ I 55 49 = -1 ∧ I 55 65 = (if b = true then 1 else 0) ∧ (∀ j, j < 85 → I 74 j = rWords.getD j 0)
def rKept (b : Bool) (I : am_IT) : Prop := b = true → ∃ c w p t y d ln : Nat, rt c w p t y d ln (kT I) (kM I)
def RI (b : Bool) (I : am_IT) : Prop := ∃ c w p t y d ln n : Nat, (rBnd c w p t y d ln ∧ rSc c w p t y d ln I I ∧ rRest c w p t y d ln I I) ∧ rTape n I ∧ rMisc b I ∧ rKept b I
/-! loops that count up -/
theorem am_it_run {X E : Type} {f : X → Option (X ⊕ E)} (S : Nat → X) {n : Nat} {e : E} (hs : ∀ i, i < n → f (S i) = some (.inl (S (i + 1)))) (he : f (S n) = some (.inr e)) : ∀ (m i : Nat), i ≤ n → n < i + m → am_it m f (S i) = some e
  | 0, i, h1, h2 => by omega
  | m + 1, i, h1, h2 => by
    unfold am_it
    by_cases h : i = n
    · subst h; rw [he]
    · rw [hs i (by omega)]
      exact am_it_run S hs he m (i + 1) (by omega) (by omega)
theorem am_it_up {X E : Type} {f : X → Option (X ⊕ E)} (S : Nat → X) {n : Nat} {e : E} (hn : n < 1000000) (hs : ∀ i, i < n → f (S i) = some (.inl (S (i + 1)))) (he : f (S n) = some (.inr e)) : am_it am_fu f (S 0) = some e := am_it_run S hs he am_fu 0 (Nat.zero_le _) (by show n < 0 + 1000000; omega)
/-- a search that ends early -/
theorem am_it_find {X E : Type} {f : X → Option (X ⊕ E)} (S : Nat → X) {n : Nat} {e : E} (hn : n < 1000000) (hs : ∀ i, i < n → f (S i) = some (.inl (S (i + 1)))) (he : f (S n) = some (.inr e)) : am_it am_fu f (S 0) = some e := am_it_up S hn hs he
def fl2 (I : am_IT) (k n : Nat) (v : Int32) : am_IT := fun k' j => if k' = k ∧ j < n then v else I k' j
theorem fl2_0 (I : am_IT) (k : Nat) (v : Int32) : fl2 I k 0 v = I := by funext a b; simp [fl2]
theorem fl2_s (I : am_IT) (k n : Nat) (v : Int32) : up2 (fl2 I k n v) k n v = fl2 I k (n + 1) v := by
  funext a b
  unfold up2 fl2
  by_cases h : a = k
  · subst h
    by_cases hb : b = n
    · subst hb; simp
    · by_cases hl : b < n
      · have : b < n + 1 := by omega
        simp [hb, hl, this]
      · have : ¬ b < n + 1 := by omega
        simp [hb, hl, this]
  · simp [h]
theorem it_fill {m : Int32} (k n : Nat) (v : Int32) (I : am_IT) (hm : m = nI n) (hn : n < 100000) : am_it am_fu (am_u2 (fun (l : Int32) (J : am_IT) => if m ≤ l then (some (.inr J) : Option ((Int32 × am_IT) ⊕ am_IT)) else (if am_ix l n = true then (am_let (up2 J k l.toNatClampNeg v) (fun (I1 : am_IT) => am_let (l + 1) (fun (l1 : Int32) => some (.inl (l1, I1))))) else none))) (0, I) = some (fl2 I k n v) := by
  subst hm
  have h := am_it_up (f := am_u2 (fun (l : Int32) (J : am_IT) => if nI n ≤ l then (some (.inr J) : Option ((Int32 × am_IT) ⊕ am_IT)) else (if am_ix l n = true then (am_let (up2 J k l.toNatClampNeg v) (fun (I1 : am_IT) => am_let (l + 1) (fun (l1 : Int32) => some (.inl (l1, I1))))) else none))) (fun i => (nI i, fl2 I k i v)) (n := n) (e := fl2 I k n v) (by omega) (fun i hi => ?_) ?_
  · rw [← h]
    simp only [nI_0, fl2_0]
  · simp only [am_u2, am_let_s]
    rw [if_neg (nI_ge hi (by omega)), if_pos (am_ix_nI hi (by omega)), nI_clamp (by omega), fl2_s, nI_succ]
  · simp only [am_u2]
    rw [if_pos (nI_le (Nat.le_refl n) (by omega))]
theorem am_it_l {X E : Type} {f : X → Option (X ⊕ E)} {n : Nat} {x y : X} (h : f x = some (.inl y)) : am_it (n + 1) f x = am_it n f y := by
  rw [am_it, h]
theorem am_it_e {X E : Type} {f : X → Option (X ⊕ E)} {n : Nat} {x : X} {e : E} (h : f x = some (.inr e)) : am_it (n + 1) f x = some e := by
  rw [am_it, h]
theorem v9_0 : v9 0 := ⟨by decide, by decide⟩
