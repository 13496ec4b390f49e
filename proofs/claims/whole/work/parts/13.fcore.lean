def am_pt : List (List (Option Nat)) := [[some 1, some 23, some 25, some 30, some 36, some 40, some 43, some 47, some 54, none, none, none, none], [none, none, none, none, none, none, some 2, some 3, some 4, some 5, some 6, some 7, some 8, some 9, some 10, some 11, some 15, some 18], [], [], [], [], [], [], [], [], [], [none, none, some 12, some 13, some 14], [], [], [], [none, some 16, some 17], [], [], [some 19, some 20, some 21, some 22, none, none, none, none], [], [], [], [], [some 1, some 24], [], [some 26, none, none, some 1, some 23, some 27, some 28, some 29], [], [], [], [], [some 31, some 1, some 23, some 32, some 33, some 34, some 35, none], [], [], [], [], [], [some 1, some 23, some 37, some 38, some 39], [], [], [], [none, none, some 1, some 23, some 41, some 42], [], [], [some 44, some 1, some 23, some 45, some 46], [], [], [], [some 48, none, none, some 52, some 53, none, none, none], [none, none, some 49, some 50, some 51], [], [], [], [], [], [], [none, none, none, some 56, none, none, some 57, some 58, none, some 59, some 60, some 61, some 62, none, some 63, some 64, some 65, some 66, none, some 67, some 68, some 69, some 70, some 71, some 72, some 73, none, none, none, none, none, some 74, none, some 75, some 76, some 77, some 78, some 79, none, none, some 80, none, none, none, none, none, some 81, some 82, some 83, none, none, some 84, none, none, some 85, some 86, some 87, some 88, some 89, some 90, some 91, some 92, none, none, none, none, none, some 93], [], [], [], [], [], [], [], [], [], [], [], [], [], [], [], [], [], [], [], [], [], [], [], [], [], [], [], [], [], [], [], [], [], [], [], [], [], [], [none, none, none, none, none, none, some 95, some 96, some 97, some 98, some 99, some 100, some 101, some 102, some 103, some 104, some 108, some 111], [], [], [], [], [], [], [], [], [], [none, none, some 105, some 106, some 107], [], [], [], [none, some 109, some 110], [], [], [some 112, some 113, some 114, some 115, none, none, none, none], [], [], [], []]
def am_P1 (k j : Nat) : Option Nat := (am_pt.getD k []).getD j none
/-- b cells stand, and refer to one another as they should -/
def am_Pl (b N : Nat) (P : am_PT) : Prop := b ≤ N ∧ ∀ k j r : Nat, k < b → am_P1 k j = some r → P k j = some r
theorem am_Pl.lt {b N : Nat} {P : am_PT} (h : am_Pl b N P) {k : Nat} (hk : k < b) : k < N := Nat.lt_of_lt_of_le hk h.1
theorem am_Pl.get {b N : Nat} {P : am_PT} (h : am_Pl b N P) {k j r : Nat} (hk : k < b) (hr : am_P1 k j = some r) : P k j = some r := h.2 k j r hk hr
theorem am_Pl.down {b b' N : Nat} {P : am_PT} (h : am_Pl b N P) (hb : b' ≤ b) : am_Pl b' N P := ⟨Nat.le_trans hb h.1, fun k j r hk hr => h.2 k j r (Nat.lt_of_lt_of_le hk hb) hr⟩
/-- an index within a row -/
def am_ix (i : Int32) (n : Nat) : Bool := decide (0 ≤ i.toInt ∧ i.toInt < n)
theorem am_ix_use {i : Int32} {n : Nat} (h : am_ix i n = true) : vp_in i n := vp_in_iff.mpr (of_decide_eq_true h)
def am_let {A Z : Type} (a : A) (f : A → Z) : Z := f a
theorem am_let_el {A Z : Type} {a : A} {f : A → Option Z} {z : Z} (h : am_let a f = some z) : ∃ x, a = x ∧ f x = some z := ⟨a, rfl, h⟩
theorem am_gd {Z : Type} {c : Prop} {hc : Decidable c} {a : Option Z} {z : Z} (h : (@ite _ c hc a none) = some z) : c ∧ a = some z := by
  by_cases q : c
  · rw [if_pos q] at h; exact ⟨q, h⟩
  · rw [if_neg q] at h; cases h
theorem am_yes {Z : Type} {c : Prop} {hc : Decidable c} {a b z : Option Z} (q : c) (h : (@ite _ c hc a b) = z) : a = z := by rw [if_pos q] at h; exact h
theorem am_no {Z : Type} {c : Prop} {hc : Decidable c} {a b z : Option Z} (q : ¬ c) (h : (@ite _ c hc a b) = z) : b = z := by rw [if_neg q] at h; exact h
def am_fu : Nat := 1000000
def am_it {X E : Type} : Nat → (X → Option (X ⊕ E)) → X → Option E
  | 0, _, _ => none
  | n + 1, f, x => match f x with
    | none => none
    | some (.inl y) => am_it n f y
    | some (.inr e) => some e
theorem am_loop {X E : Type} {f : X → Option (X ⊕ E)} {C : X → Prop} {e : E} (step : ∀ x r, f x = some r → (∀ x', r = .inl x' → C x') → (∀ e', r = .inr e' → e' = e) → C x) : ∀ (n : Nat) (x : X), am_it n f x = some e → C x
  | 0, _, h => by cases h
  | n + 1, x, h => by
    unfold am_it at h
    cases hf : f x with
    | none => rw [hf] at h; cases h
    | some r =>
      rw [hf] at h
      refine step x r hf (fun x' hx => ?_) (fun e' he => ?_)
      · subst hx; exact am_loop step n x' h
      · subst he; exact Option.some.inj h
/-- behind a loop: its end, or the answer of what stands around it -/
def am_lr {A Z : Type} (o : Option (A ⊕ Z)) (f : A → Option Z) : Option Z := match o with
  | none => none
  | some (.inl a) => f a
  | some (.inr z) => some z
theorem am_lr_el {A Z : Type} {o : Option (A ⊕ Z)} {f : A → Option Z} {z : Z} (h : am_lr o f = some z) : ∃ e, o = some e ∧ (match e with | .inl a => f a = some z | .inr y => y = z) := by
  cases o with
  | none => cases h
  | some e =>
    refine ⟨e, rfl, ?_⟩
    cases e with
    | inl a => exact h
    | inr y => exact Option.some.inj h
def am_b1 {A1 Z : Type} (o : Option A1) (f : A1 → Option Z) : Option Z := match o with
  | none => none
  | some a1 => f a1
theorem am_b1_el {A1 Z : Type} {o : Option A1} {f : A1 → Option Z} {z : Z} (h : am_b1 o f = some z) : ∃ a1, o = some a1 ∧ f a1 = some z := by
  cases o with
  | none => cases h
  | some x => exact ⟨x, rfl, h⟩
def am_b2 {A1 A2 Z : Type} (o : Option (A1 × A2)) (f : A1 → A2 → Option Z) : Option Z := match o with
  | none => none
  | some (a1, a2) => f a1 a2
theorem am_b2_el {A1 A2 Z : Type} {o : Option (A1 × A2)} {f : A1 → A2 → Option Z} {z : Z} (h : am_b2 o f = some z) : ∃ a1 a2, o = some (a1, a2) ∧ f a1 a2 = some z := by
  cases o with
  | none => cases h
  | some x => exact ⟨x.1, x.2, rfl, h⟩
def am_u2 {A1 A2 Z : Type} (f : A1 → A2 → Z) : (A1 × A2) → Z := fun x => f x.1 x.2
def am_b3 {A1 A2 A3 Z : Type} (o : Option (A1 × A2 × A3)) (f : A1 → A2 → A3 → Option Z) : Option Z := match o with
  | none => none
  | some (a1, a2, a3) => f a1 a2 a3
theorem am_b3_el {A1 A2 A3 Z : Type} {o : Option (A1 × A2 × A3)} {f : A1 → A2 → A3 → Option Z} {z : Z} (h : am_b3 o f = some z) : ∃ a1 a2 a3, o = some (a1, a2, a3) ∧ f a1 a2 a3 = some z := by
  cases o with
  | none => cases h
  | some x => exact ⟨x.1, x.2.1, x.2.2, rfl, h⟩
def am_u3 {A1 A2 A3 Z : Type} (f : A1 → A2 → A3 → Z) : (A1 × A2 × A3) → Z := fun x => f x.1 x.2.1 x.2.2
def am_b4 {A1 A2 A3 A4 Z : Type} (o : Option (A1 × A2 × A3 × A4)) (f : A1 → A2 → A3 → A4 → Option Z) : Option Z := match o with
  | none => none
  | some (a1, a2, a3, a4) => f a1 a2 a3 a4
theorem am_b4_el {A1 A2 A3 A4 Z : Type} {o : Option (A1 × A2 × A3 × A4)} {f : A1 → A2 → A3 → A4 → Option Z} {z : Z} (h : am_b4 o f = some z) : ∃ a1 a2 a3 a4, o = some (a1, a2, a3, a4) ∧ f a1 a2 a3 a4 = some z := by
  cases o with
  | none => cases h
  | some x => exact ⟨x.1, x.2.1, x.2.2.1, x.2.2.2, rfl, h⟩
def am_u4 {A1 A2 A3 A4 Z : Type} (f : A1 → A2 → A3 → A4 → Z) : (A1 × A2 × A3 × A4) → Z := fun x => f x.1 x.2.1 x.2.2.1 x.2.2.2
def am_b5 {A1 A2 A3 A4 A5 Z : Type} (o : Option (A1 × A2 × A3 × A4 × A5)) (f : A1 → A2 → A3 → A4 → A5 → Option Z) : Option Z := match o with
  | none => none
  | some (a1, a2, a3, a4, a5) => f a1 a2 a3 a4 a5
theorem am_b5_el {A1 A2 A3 A4 A5 Z : Type} {o : Option (A1 × A2 × A3 × A4 × A5)} {f : A1 → A2 → A3 → A4 → A5 → Option Z} {z : Z} (h : am_b5 o f = some z) : ∃ a1 a2 a3 a4 a5, o = some (a1, a2, a3, a4, a5) ∧ f a1 a2 a3 a4 a5 = some z := by
  cases o with
  | none => cases h
  | some x => exact ⟨x.1, x.2.1, x.2.2.1, x.2.2.2.1, x.2.2.2.2, rfl, h⟩
def am_u5 {A1 A2 A3 A4 A5 Z : Type} (f : A1 → A2 → A3 → A4 → A5 → Z) : (A1 × A2 × A3 × A4 × A5) → Z := fun x => f x.1 x.2.1 x.2.2.1 x.2.2.2.1 x.2.2.2.2
def am_b6 {A1 A2 A3 A4 A5 A6 Z : Type} (o : Option (A1 × A2 × A3 × A4 × A5 × A6)) (f : A1 → A2 → A3 → A4 → A5 → A6 → Option Z) : Option Z := match o with
  | none => none
  | some (a1, a2, a3, a4, a5, a6) => f a1 a2 a3 a4 a5 a6
theorem am_b6_el {A1 A2 A3 A4 A5 A6 Z : Type} {o : Option (A1 × A2 × A3 × A4 × A5 × A6)} {f : A1 → A2 → A3 → A4 → A5 → A6 → Option Z} {z : Z} (h : am_b6 o f = some z) : ∃ a1 a2 a3 a4 a5 a6, o = some (a1, a2, a3, a4, a5, a6) ∧ f a1 a2 a3 a4 a5 a6 = some z := by
  cases o with
  | none => cases h
  | some x => exact ⟨x.1, x.2.1, x.2.2.1, x.2.2.2.1, x.2.2.2.2.1, x.2.2.2.2.2, rfl, h⟩
def am_u6 {A1 A2 A3 A4 A5 A6 Z : Type} (f : A1 → A2 → A3 → A4 → A5 → A6 → Z) : (A1 × A2 × A3 × A4 × A5 × A6) → Z := fun x => f x.1 x.2.1 x.2.2.1 x.2.2.2.1 x.2.2.2.2.1 x.2.2.2.2.2
def am_b7 {A1 A2 A3 A4 A5 A6 A7 Z : Type} (o : Option (A1 × A2 × A3 × A4 × A5 × A6 × A7)) (f : A1 → A2 → A3 → A4 → A5 → A6 → A7 → Option Z) : Option Z := match o with
  | none => none
  | some (a1, a2, a3, a4, a5, a6, a7) => f a1 a2 a3 a4 a5 a6 a7
theorem am_b7_el {A1 A2 A3 A4 A5 A6 A7 Z : Type} {o : Option (A1 × A2 × A3 × A4 × A5 × A6 × A7)} {f : A1 → A2 → A3 → A4 → A5 → A6 → A7 → Option Z} {z : Z} (h : am_b7 o f = some z) : ∃ a1 a2 a3 a4 a5 a6 a7, o = some (a1, a2, a3, a4, a5, a6, a7) ∧ f a1 a2 a3 a4 a5 a6 a7 = some z := by
  cases o with
  | none => cases h
  | some x => exact ⟨x.1, x.2.1, x.2.2.1, x.2.2.2.1, x.2.2.2.2.1, x.2.2.2.2.2.1, x.2.2.2.2.2.2, rfl, h⟩
def am_u7 {A1 A2 A3 A4 A5 A6 A7 Z : Type} (f : A1 → A2 → A3 → A4 → A5 → A6 → A7 → Z) : (A1 × A2 × A3 × A4 × A5 × A6 × A7) → Z := fun x => f x.1 x.2.1 x.2.2.1 x.2.2.2.1 x.2.2.2.2.1 x.2.2.2.2.2.1 x.2.2.2.2.2.2
def am_b8 {A1 A2 A3 A4 A5 A6 A7 A8 Z : Type} (o : Option (A1 × A2 × A3 × A4 × A5 × A6 × A7 × A8)) (f : A1 → A2 → A3 → A4 → A5 → A6 → A7 → A8 → Option Z) : Option Z := match o with
  | none => none
  | some (a1, a2, a3, a4, a5, a6, a7, a8) => f a1 a2 a3 a4 a5 a6 a7 a8
theorem am_b8_el {A1 A2 A3 A4 A5 A6 A7 A8 Z : Type} {o : Option (A1 × A2 × A3 × A4 × A5 × A6 × A7 × A8)} {f : A1 → A2 → A3 → A4 → A5 → A6 → A7 → A8 → Option Z} {z : Z} (h : am_b8 o f = some z) : ∃ a1 a2 a3 a4 a5 a6 a7 a8, o = some (a1, a2, a3, a4, a5, a6, a7, a8) ∧ f a1 a2 a3 a4 a5 a6 a7 a8 = some z := by
  cases o with
  | none => cases h
  | some x => exact ⟨x.1, x.2.1, x.2.2.1, x.2.2.2.1, x.2.2.2.2.1, x.2.2.2.2.2.1, x.2.2.2.2.2.2.1, x.2.2.2.2.2.2.2, rfl, h⟩
def am_u8 {A1 A2 A3 A4 A5 A6 A7 A8 Z : Type} (f : A1 → A2 → A3 → A4 → A5 → A6 → A7 → A8 → Z) : (A1 × A2 × A3 × A4 × A5 × A6 × A7 × A8) → Z := fun x => f x.1 x.2.1 x.2.2.1 x.2.2.2.1 x.2.2.2.2.1 x.2.2.2.2.2.1 x.2.2.2.2.2.2.1 x.2.2.2.2.2.2.2
def am_b9 {A1 A2 A3 A4 A5 A6 A7 A8 A9 Z : Type} (o : Option (A1 × A2 × A3 × A4 × A5 × A6 × A7 × A8 × A9)) (f : A1 → A2 → A3 → A4 → A5 → A6 → A7 → A8 → A9 → Option Z) : Option Z := match o with
  | none => none
  | some (a1, a2, a3, a4, a5, a6, a7, a8, a9) => f a1 a2 a3 a4 a5 a6 a7 a8 a9
theorem am_b9_el {A1 A2 A3 A4 A5 A6 A7 A8 A9 Z : Type} {o : Option (A1 × A2 × A3 × A4 × A5 × A6 × A7 × A8 × A9)} {f : A1 → A2 → A3 → A4 → A5 → A6 → A7 → A8 → A9 → Option Z} {z : Z} (h : am_b9 o f = some z) : ∃ a1 a2 a3 a4 a5 a6 a7 a8 a9, o = some (a1, a2, a3, a4, a5, a6, a7, a8, a9) ∧ f a1 a2 a3 a4 a5 a6 a7 a8 a9 = some z := by
  cases o with
  | none => cases h
  | some x => exact ⟨x.1, x.2.1, x.2.2.1, x.2.2.2.1, x.2.2.2.2.1, x.2.2.2.2.2.1, x.2.2.2.2.2.2.1, x.2.2.2.2.2.2.2.1, x.2.2.2.2.2.2.2.2, rfl, h⟩
def am_u9 {A1 A2 A3 A4 A5 A6 A7 A8 A9 Z : Type} (f : A1 → A2 → A3 → A4 → A5 → A6 → A7 → A8 → A9 → Z) : (A1 × A2 × A3 × A4 × A5 × A6 × A7 × A8 × A9) → Z := fun x => f x.1 x.2.1 x.2.2.1 x.2.2.2.1 x.2.2.2.2.1 x.2.2.2.2.2.1 x.2.2.2.2.2.2.1 x.2.2.2.2.2.2.2.1 x.2.2.2.2.2.2.2.2
theorem am_u2_ap {A1 A2 Z : Type} {f : A1 → A2 → Z} {a1 : A1} {a2 : A2} {z : Z} (h : am_u2 f (a1, a2) = z) : f a1 a2 = z := h
theorem am_u3_ap {A1 A2 A3 Z : Type} {f : A1 → A2 → A3 → Z} {a1 : A1} {a2 : A2} {a3 : A3} {z : Z} (h : am_u3 f (a1, a2, a3) = z) : f a1 a2 a3 = z := h
theorem am_u4_ap {A1 A2 A3 A4 Z : Type} {f : A1 → A2 → A3 → A4 → Z} {a1 : A1} {a2 : A2} {a3 : A3} {a4 : A4} {z : Z} (h : am_u4 f (a1, a2, a3, a4) = z) : f a1 a2 a3 a4 = z := h
theorem am_u5_ap {A1 A2 A3 A4 A5 Z : Type} {f : A1 → A2 → A3 → A4 → A5 → Z} {a1 : A1} {a2 : A2} {a3 : A3} {a4 : A4} {a5 : A5} {z : Z} (h : am_u5 f (a1, a2, a3, a4, a5) = z) : f a1 a2 a3 a4 a5 = z := h
theorem am_u6_ap {A1 A2 A3 A4 A5 A6 Z : Type} {f : A1 → A2 → A3 → A4 → A5 → A6 → Z} {a1 : A1} {a2 : A2} {a3 : A3} {a4 : A4} {a5 : A5} {a6 : A6} {z : Z} (h : am_u6 f (a1, a2, a3, a4, a5, a6) = z) : f a1 a2 a3 a4 a5 a6 = z := h
theorem am_u7_ap {A1 A2 A3 A4 A5 A6 A7 Z : Type} {f : A1 → A2 → A3 → A4 → A5 → A6 → A7 → Z} {a1 : A1} {a2 : A2} {a3 : A3} {a4 : A4} {a5 : A5} {a6 : A6} {a7 : A7} {z : Z} (h : am_u7 f (a1, a2, a3, a4, a5, a6, a7) = z) : f a1 a2 a3 a4 a5 a6 a7 = z := h
theorem am_u8_ap {A1 A2 A3 A4 A5 A6 A7 A8 Z : Type} {f : A1 → A2 → A3 → A4 → A5 → A6 → A7 → A8 → Z} {a1 : A1} {a2 : A2} {a3 : A3} {a4 : A4} {a5 : A5} {a6 : A6} {a7 : A7} {a8 : A8} {z : Z} (h : am_u8 f (a1, a2, a3, a4, a5, a6, a7, a8) = z) : f a1 a2 a3 a4 a5 a6 a7 a8 = z := h
theorem am_u9_ap {A1 A2 A3 A4 A5 A6 A7 A8 A9 Z : Type} {f : A1 → A2 → A3 → A4 → A5 → A6 → A7 → A8 → A9 → Z} {a1 : A1} {a2 : A2} {a3 : A3} {a4 : A4} {a5 : A5} {a6 : A6} {a7 : A7} {a8 : A8} {a9 : A9} {z : Z} (h : am_u9 f (a1, a2, a3, a4, a5, a6, a7, a8, a9) = z) : f a1 a2 a3 a4 a5 a6 a7 a8 a9 = z := h
def am_out (x : Int32) (lo hi : Int) : Bool := decide (x.toInt < lo ∨ hi < x.toInt)
theorem am_out_use {x : Int32} {lo hi : Int} (h : am_out x lo hi = true) : x.toInt < lo ∨ hi < x.toInt := of_decide_eq_true h
def am_sc0 : am_ST := (0, fun _ => 0)
/-! answers of a contract -/
def am_qi (r : Int32) (N : Nat) (P : am_PT) (I : am_IT) : Option Value → Nat → am_PT → am_IT → Prop := fun v N' P' I' => v = some (.int r) ∧ N' = N ∧ P' = P ∧ I' = I
def am_qz (r : Int32) (N : Nat) (P : am_PT) (I : am_IT) : Option Value → Nat → am_PT → am_IT → Prop := fun v N' P' I' => (r = 0 ∨ r = 1) ∧ v = some (.int r) ∧ N' = N ∧ P' = P ∧ I' = I
def am_qr (r : Nat) (N : Nat) (P : am_PT) (I : am_IT) : Option Value → Nat → am_PT → am_IT → Prop := fun v N' P' I' => v = some (.ref r) ∧ N' = N ∧ P' = P ∧ I' = I
def am_qv (N : Nat) (P : am_PT) (I : am_IT) : Option Value → Nat → am_PT → am_IT → Prop := fun v N' P' I' => v = none ∧ N' = N ∧ P' = P ∧ I' = I
def am_le : List Value → List Value → Prop
  | [], [] => True
  | a :: l, b :: l' => (a = .null ∨ a = b) ∧ am_le l l'
  | _, _ => False
theorem am_le_len : ∀ {l l' : List Value}, am_le l l' → l.length = l'.length
  | [], [], _ => rfl
  | _ :: _, _ :: _, h => by rw [List.length_cons, List.length_cons, am_le_len h.2]
  | [], _ :: _, h => h.elim
  | _ :: _, [], h => h.elim
theorem am_le_get : ∀ {l l' : List Value}, am_le l l' → ∀ {i : Nat} {v : Value}, l[i]? = some v → v ≠ .null → l'[i]? = some v
  | [], [], _, i, v, hv, _ => by simp at hv
  | a :: l, b :: l', h, 0, v, hv, hn => by
    rw [List.getElem?_cons_zero] at hv ⊢
    cases hv
    rcases h.1 with h1 | h1
    · exact absurd h1 hn
    · rw [h1]
  | a :: l, b :: l', h, i + 1, v, hv, hn => by
    rw [List.getElem?_cons_succ] at hv ⊢
    exact am_le_get h.2 hv hn
  | [], _ :: _, h, _, _, _, _ => h.elim
  | _ :: _, [], h, _, _, _, _ => h.elim
theorem am_le_bd {N : Nat} : ∀ {l l' : List Value}, am_le l l' → (∀ v ∈ l', am_bv N v) → ∀ v ∈ l, am_bv N v
  | [], [], _, _ => fun v hv => absurd hv List.not_mem_nil
  | a :: l, b :: l', h, hb => bdd_cons (by rcases h.1 with h1 | h1 <;> rw [h1] <;> first | exact trivial | exact bdd_hd hb) (am_le_bd h.2 (bdd_tl hb))
  | [], _ :: _, h, _ => h.elim
  | _ :: _, [], h, _ => h.elim
section GW
variable {sc : am_ST} {l : Launch} {d mc ms : Nat} {mi : am_M} {Q : Option Value → Nat → am_PT → am_IT → Prop} {pc : Nat} {ls st : List Value} {N : Nat} {P : am_PT} {I : am_IT} {nc ns : Nat}
theorem g_weak {ls' : List Value} (kk : G sc l d mc ms mi Q pc ls' st N P I nc ns) (h : am_le ls' ls) : G sc l d mc ms mi Q pc ls st N P I nc ns := by
  intro p e s m args below meth c dC dI ca ad A H locs lsA ad0 N0 X hN h0
  obtain ⟨X1, X2, hbl, hbs, hL⟩ := X
  refine kk p e s m args below meth c dC dI ca ad A H locs lsA ad0 N0 ⟨X1, X2, am_le_bd h hbl, hbs, ⟨⟨hL.1.1, hL.1.2.1, fun q hq => ?_⟩, (am_le_len h).trans hL.2⟩⟩ hN h0
  obtain ⟨v, h1, h2, h3⟩ := am_ll_mem.mp hq
  exact hL.1.2.2 q (am_ll_mem.mpr ⟨v, am_le_get h h1 h2, h2, h3⟩)
theorem g_cVi {idx k n ci d1 : Nat} {m1 : am_M} {As As2 : List Value} {I2 : am_IT} {r : Int32} (hy : am_yV m1 n ci) (hl : Cond.methodLink mi.1.cls idx m1.1 ∈ lwg) (hC : am_C l d1 0 0 m1 (.ref k :: As) N P I (am_qi r N P I2)) (hAs : As2 = As.reverse ++ .ref k :: st) (hn : As.length = n) (hT : am_T k = .inr ci) (hkN : k < N) (hd : d1 + 1 ≤ d) (hst : st.length ≤ 8) (hc : nc ≤ mc) (hs : ns ≤ ms) (hdg : decode mi.2.1 pc = .ok (.invokevirtual idx, 3))
    (kk : G sc l d mc ms mi Q (pc + 3) ls (.int r :: st) N P I2 nc ns) : G sc l d mc ms mi Q pc ls As2 N P I nc ns := by
  refine g_callV hy hl hC hAs hn hT hkN hd hst hc hs hdg ?_
  rintro _ _ _ _ ⟨rfl, rfl, rfl, rfl⟩
  exact kk
theorem g_cSi {idx n d1 : Nat} {m1 : am_M} {As As2 : List Value} {I2 : am_IT} {r : Int32} (hy : am_yS m1 n) (hl : Cond.methodLink mi.1.cls idx m1.1 ∈ lwg) (hC : am_C l d1 0 0 m1 As N P I (am_qi r N P I2)) (hAs : As2 = As.reverse ++ st) (hn : As.length = n) (hd : d1 + 1 ≤ d) (hst : st.length ≤ 8) (hc : nc ≤ mc) (hs : ns ≤ ms) (hdg : decode mi.2.1 pc = .ok (.invokestatic idx, 3))
    (kk : G sc l d mc ms mi Q (pc + 3) ls (.int r :: st) N P I2 nc ns) : G sc l d mc ms mi Q pc ls As2 N P I nc ns := by
  refine g_callS hy hl hC hAs hn hd hst hc hs hdg ?_
  rintro _ _ _ _ ⟨rfl, rfl, rfl, rfl⟩
  exact kk
theorem g_cVz {idx k n ci d1 : Nat} {m1 : am_M} {As As2 : List Value} {I2 : am_IT} {r : Int32} (hy : am_yV m1 n ci) (hl : Cond.methodLink mi.1.cls idx m1.1 ∈ lwg) (hC : am_C l d1 0 0 m1 (.ref k :: As) N P I (am_qz r N P I2)) (hAs : As2 = As.reverse ++ .ref k :: st) (hn : As.length = n) (hT : am_T k = .inr ci) (hkN : k < N) (hd : d1 + 1 ≤ d) (hst : st.length ≤ 8) (hc : nc ≤ mc) (hs : ns ≤ ms) (hdg : decode mi.2.1 pc = .ok (.invokevirtual idx, 3))
    (kk : (r = 0 ∨ r = 1) → G sc l d mc ms mi Q (pc + 3) ls (.int r :: st) N P I2 nc ns) : G sc l d mc ms mi Q pc ls As2 N P I nc ns := by
  refine g_callV hy hl hC hAs hn hT hkN hd hst hc hs hdg ?_
  rintro _ _ _ _ ⟨h01, rfl, rfl, rfl, rfl⟩
  exact (kk h01)
theorem g_cSz {idx n d1 : Nat} {m1 : am_M} {As As2 : List Value} {I2 : am_IT} {r : Int32} (hy : am_yS m1 n) (hl : Cond.methodLink mi.1.cls idx m1.1 ∈ lwg) (hC : am_C l d1 0 0 m1 As N P I (am_qz r N P I2)) (hAs : As2 = As.reverse ++ st) (hn : As.length = n) (hd : d1 + 1 ≤ d) (hst : st.length ≤ 8) (hc : nc ≤ mc) (hs : ns ≤ ms) (hdg : decode mi.2.1 pc = .ok (.invokestatic idx, 3))
    (kk : (r = 0 ∨ r = 1) → G sc l d mc ms mi Q (pc + 3) ls (.int r :: st) N P I2 nc ns) : G sc l d mc ms mi Q pc ls As2 N P I nc ns := by
  refine g_callS hy hl hC hAs hn hd hst hc hs hdg ?_
  rintro _ _ _ _ ⟨h01, rfl, rfl, rfl, rfl⟩
  exact (kk h01)
theorem g_cVr {idx k n ci d1 : Nat} {m1 : am_M} {As As2 : List Value} {I2 : am_IT} {r : Nat} (hy : am_yV m1 n ci) (hl : Cond.methodLink mi.1.cls idx m1.1 ∈ lwg) (hC : am_C l d1 0 0 m1 (.ref k :: As) N P I (am_qr r N P I2)) (hAs : As2 = As.reverse ++ .ref k :: st) (hn : As.length = n) (hT : am_T k = .inr ci) (hkN : k < N) (hd : d1 + 1 ≤ d) (hst : st.length ≤ 8) (hc : nc ≤ mc) (hs : ns ≤ ms) (hdg : decode mi.2.1 pc = .ok (.invokevirtual idx, 3))
    (kk : G sc l d mc ms mi Q (pc + 3) ls (.ref r :: st) N P I2 nc ns) : G sc l d mc ms mi Q pc ls As2 N P I nc ns := by
  refine g_callV hy hl hC hAs hn hT hkN hd hst hc hs hdg ?_
  rintro _ _ _ _ ⟨rfl, rfl, rfl, rfl⟩
  exact kk
theorem g_cSr {idx n d1 : Nat} {m1 : am_M} {As As2 : List Value} {I2 : am_IT} {r : Nat} (hy : am_yS m1 n) (hl : Cond.methodLink mi.1.cls idx m1.1 ∈ lwg) (hC : am_C l d1 0 0 m1 As N P I (am_qr r N P I2)) (hAs : As2 = As.reverse ++ st) (hn : As.length = n) (hd : d1 + 1 ≤ d) (hst : st.length ≤ 8) (hc : nc ≤ mc) (hs : ns ≤ ms) (hdg : decode mi.2.1 pc = .ok (.invokestatic idx, 3))
    (kk : G sc l d mc ms mi Q (pc + 3) ls (.ref r :: st) N P I2 nc ns) : G sc l d mc ms mi Q pc ls As2 N P I nc ns := by
  refine g_callS hy hl hC hAs hn hd hst hc hs hdg ?_
  rintro _ _ _ _ ⟨rfl, rfl, rfl, rfl⟩
  exact kk
theorem g_cVv {idx k n ci d1 : Nat} {m1 : am_M} {As As2 : List Value} {I2 : am_IT}  (hy : am_yV m1 n ci) (hl : Cond.methodLink mi.1.cls idx m1.1 ∈ lwg) (hC : am_C l d1 0 0 m1 (.ref k :: As) N P I (am_qv N P I2)) (hAs : As2 = As.reverse ++ .ref k :: st) (hn : As.length = n) (hT : am_T k = .inr ci) (hkN : k < N) (hd : d1 + 1 ≤ d) (hst : st.length ≤ 8) (hc : nc ≤ mc) (hs : ns ≤ ms) (hdg : decode mi.2.1 pc = .ok (.invokevirtual idx, 3))
    (kk : G sc l d mc ms mi Q (pc + 3) ls (st) N P I2 nc ns) : G sc l d mc ms mi Q pc ls As2 N P I nc ns := by
  refine g_callV hy hl hC hAs hn hT hkN hd hst hc hs hdg ?_
  rintro _ _ _ _ ⟨rfl, rfl, rfl, rfl⟩
  exact kk
theorem g_cSv {idx n d1 : Nat} {m1 : am_M} {As As2 : List Value} {I2 : am_IT}  (hy : am_yS m1 n) (hl : Cond.methodLink mi.1.cls idx m1.1 ∈ lwg) (hC : am_C l d1 0 0 m1 As N P I (am_qv N P I2)) (hAs : As2 = As.reverse ++ st) (hn : As.length = n) (hd : d1 + 1 ≤ d) (hst : st.length ≤ 8) (hc : nc ≤ mc) (hs : ns ≤ ms) (hdg : decode mi.2.1 pc = .ok (.invokestatic idx, 3))
    (kk : G sc l d mc ms mi Q (pc + 3) ls (st) N P I2 nc ns) : G sc l d mc ms mi Q pc ls As2 N P I nc ns := by
  refine g_callS hy hl hC hAs hn hd hst hc hs hdg ?_
  rintro _ _ _ _ ⟨rfl, rfl, rfl, rfl⟩
  exact kk
theorem n_istore_n {ls2 : List Value} {k : Fin 4} {i : Nat} {x x2 : Int32} (hx : x = x2) (hl : ls.set i (.int x2) = ls2) (hdg : decode mi.2.1 pc = .ok (.istore_n k, 1)) (hi : (k : Nat) = i) (hn : i < mi.2.2.1)
    (kk : G sc l d mc ms mi Q (pc + 1) ls2 st N P I nc ns) : G sc l d mc ms mi Q pc ls (.int x :: st) N P I nc ns := by
  subst hx; subst hl
  exact g_istore_n hdg hi hn kk
theorem n_istore {ls2 : List Value} {i : Nat} {x x2 : Int32} (hx : x = x2) (hl : ls.set i (.int x2) = ls2) (hdg : decode mi.2.1 pc = .ok (.istore i, 2)) (hn : i < mi.2.2.1)
    (kk : G sc l d mc ms mi Q (pc + 2) ls2 st N P I nc ns) : G sc l d mc ms mi Q pc ls (.int x :: st) N P I nc ns := by
  subst hx; subst hl
  exact g_istore hdg hn kk
theorem n_astore_n {ls2 : List Value} {k : Fin 4} {i : Nat} {x x2 : Nat} (hx : x = x2) (hl : ls.set i (.ref x2) = ls2) (hdg : decode mi.2.1 pc = .ok (.astore_n k, 1)) (hi : (k : Nat) = i) (hn : i < mi.2.2.1)
    (kk : G sc l d mc ms mi Q (pc + 1) ls2 st N P I nc ns) : G sc l d mc ms mi Q pc ls (.ref x :: st) N P I nc ns := by
  subst hx; subst hl
  exact g_astore_n hdg hi hn kk
theorem n_astore {ls2 : List Value} {i : Nat} {x x2 : Nat} (hx : x = x2) (hl : ls.set i (.ref x2) = ls2) (hdg : decode mi.2.1 pc = .ok (.astore i, 2)) (hn : i < mi.2.2.1)
    (kk : G sc l d mc ms mi Q (pc + 2) ls2 st N P I nc ns) : G sc l d mc ms mi Q pc ls (.ref x :: st) N P I nc ns := by
  subst hx; subst hl
  exact g_astore hdg hn kk
theorem n_iinc {ls2 : List Value} {i : Nat} {n : Int} {x v v2 : Int32} (hx : v = v2) (hv : x + Int32.ofInt n = v) (hl0 : ls[i]? = some (.int x)) (hl : ls.set i (.int v2) = ls2) (hdg : decode mi.2.1 pc = .ok (.iinc i n, 3)) (hn : i < mi.2.2.1)
    (kk : G sc l d mc ms mi Q (pc + 3) ls2 st N P I nc ns) : G sc l d mc ms mi Q pc ls st N P I nc ns := by
  subst hx; subst hl
  exact g_iinc hdg hl0 hv hn kk
theorem n_putI {idx ci j k : Nat} {x : Int32} {I2 : am_IT} (hI : up2 I k j x = I2) (hf : am_fl mi.1.cls idx ci j .int false) (hT : am_T k = .inr ci) (hR : am_R ci j = false) (hkN : k < N) (hdg : decode mi.2.1 pc = .ok (.putfield idx, 3))
    (kk : G sc l d mc ms mi Q (pc + 3) ls st N P I2 nc ns) : G sc l d mc ms mi Q pc ls (.int x :: .ref k :: st) N P I nc ns := by
  subst hI; exact g_putI hf hT hR hkN hdg kk
theorem n_putZ {idx ci j k : Nat} {x : Int32} {I2 : am_IT} (hI : up2 I k j x = I2) (hf : am_fl mi.1.cls idx ci j .boolean false) (hT : am_T k = .inr ci) (hR : am_R ci j = false) (hkN : k < N) (h01 : x = 0 ∨ x = 1) (hdg : decode mi.2.1 pc = .ok (.putfield idx, 3))
    (kk : G sc l d mc ms mi Q (pc + 3) ls st N P I2 nc ns) : G sc l d mc ms mi Q pc ls (.int x :: .ref k :: st) N P I nc ns := by
  subst hI; exact g_putZ hf hT hR hkN h01 hdg kk
theorem n_putR {idx ci j k r : Nat} {tj : FieldType} {fin : Bool} {P2 : am_PT} (hP : up2 P k j (some r) = P2) (hf : am_fl mi.1.cls idx ci j tj fin) (hT : am_T k = .inr ci) (hR : am_R ci j = true) (hkN : k < N) (hin2 : fin = true → mi.1.name = "<init>") (hdg : decode mi.2.1 pc = .ok (.putfield idx, 3))
    (kk : G sc l d mc ms mi Q (pc + 3) ls st N P2 I nc ns) : G sc l d mc ms mi Q pc ls (.ref r :: .ref k :: st) N P I nc ns := by
  subst hP; exact g_putR hf hT hR hkN hin2 hdg kk
theorem n_iast {k n : Nat} {i x : Int32} {I2 : am_IT} (hI : up2 I k i.toNatClampNeg x = I2) (hT : am_T k = .inl n) (hkN : k < N) (hin : vp_in i n) (hdg : decode mi.2.1 pc = .ok (.iastore, 1))
    (kk : G sc l d mc ms mi Q (pc + 1) ls st N P I2 nc ns) : G sc l d mc ms mi Q pc ls (.int x :: .int i :: .ref k :: st) N P I nc ns := by
  subst hI; exact g_iast hT hkN hin hdg kk
/-- a copy's places are there -/
def am_cpok (sp dp n : Int32) (na nb : Nat) : Bool := decide (0 ≤ sp.toInt ∧ 0 ≤ dp.toInt ∧ 0 ≤ n.toInt ∧ sp.toInt + n.toInt ≤ na ∧ dp.toInt + n.toInt ≤ nb)
theorem am_cpok_use {sp dp n : Int32} {na nb : Nat} (h : am_cpok sp dp n na nb = true) : (¬ sp < 0 ∧ ¬ dp < 0 ∧ ¬ n < 0) ∧ sp.toNatClampNeg + n.toNatClampNeg ≤ na ∧ dp.toNatClampNeg + n.toNatClampNeg ≤ nb := by
  obtain ⟨h1, h2, h3, h4, h5⟩ := of_decide_eq_true h
  have nn : ∀ z : Int32, 0 ≤ z.toInt → ¬ z < 0 := fun z hz q => by
    have := Int32.lt_iff_toInt_lt.mp q
    have e0 : (0 : Int32).toInt = 0 := rfl
    omega
  have nt : ∀ z : Int32, z.toNatClampNeg = z.toInt.toNat := fun z => rfl
  rw [nt, nt, nt]
  exact ⟨⟨nn _ h1, nn _ h2, nn _ h3⟩, by omega, by omega⟩
theorem n_acopy {idx a b na nb : Nat} {sp dp n : Int32} {I2 : am_IT} (hI : cpy2 I a b sp.toNatClampNeg dp.toNatClampNeg n.toNatClampNeg = I2) (hok : am_cpok sp dp n na nb = true) (hlink : Cond.methodLink mi.1.cls idx arraycopyName ∈ lwg) (hTa : am_T a = .inl na) (hTb : am_T b = .inl nb) (haN : a < N) (hbN : b < N) (hd : 2 ≤ d) (hst : st.length ≤ 8) (hdg : decode mi.2.1 pc = .ok (.invokestatic idx, 3))
    (kk : G sc l d mc ms mi Q (pc + 3) ls st N P I2 nc ns) : G sc l d mc ms mi Q pc ls (.int n :: .int dp :: .ref b :: .int sp :: .ref a :: st) N P I nc ns := by
  subst hI
  obtain ⟨⟨h1, h2, h3⟩, h4, h5⟩ := am_cpok_use hok
  exact g_acopy hlink hTa hTb haN hbN h1 h2 h3 h4 h5 kz_cn kz_cs kz_ci hd hst hdg kk
end GW
