/-! houses given for the view -/
theorem b8_m : ∀ h, h < 8 → ∀ s, s < 256 → ((nI s >>> (nI h &&& 31)) &&& (1 : Int32)) = if s.testBit h = true then 1 else 0 := by decide +kernel
theorem b8_o : ∀ h, h < 8 → ∀ s, s < 256 → (nI s ||| ((1 : Int32) <<< (nI h &&& 31))) = nI (s ||| 2 ^ h) := by decide +kernel
theorem b8_n : ∀ h, h < 8 → ∀ s, s < 256 → s.testBit h = false → bcn (s ||| 2 ^ h) = bcn s + 1 ∧ (s ||| 2 ^ h) < 256 ∧ s < (s ||| 2 ^ h) := by decide +kernel
theorem b8_e : ∀ s, s < 256 → bcn s < 8 → (List.range 8).any (fun h => !s.testBit h) = true := by decide +kernel
theorem b8_x {s : Nat} (hs : s < 256) (h : bcn s < 8) : ∃ h, h < 8 ∧ s.testBit h = false := by
  obtain ⟨h, h1, h2⟩ := List.any_eq_true.mp (b8_e s hs h)
  exact ⟨h, List.mem_range.mp h1, by simpa using h2⟩
/-- the greatest of those that there are -/
def mxh (st : Int32) (v : Nat → Option Int32) : Nat → Int32
  | 0 => st
  | h + 1 => match v h with
    | none => mxh st v h
    | some x => if x ≤ mxh st v h then mxh st v h else x
theorem mxh_n {st : Int32} {v : Nat → Option Int32} {h : Nat} (e : v h = none) : mxh st v (h + 1) = mxh st v h := by
  show (match v h with | none => mxh st v h | some x => if x ≤ mxh st v h then mxh st v h else x) = _
  rw [e]
theorem mxh_y {st : Int32} {v : Nat → Option Int32} {h : Nat} {x : Int32} (e : v h = some x) : mxh st v (h + 1) = if x ≤ mxh st v h then mxh st v h else x := by
  show (match v h with | none => mxh st v h | some x => if x ≤ mxh st v h then mxh st v h else x) = _
  rw [e]
theorem mxh_c {a b : Int32} {v : Nat → Option Int32} : ∀ n, (∀ h x, h < n → v h = some x → ¬ x ≤ a ∧ ¬ x ≤ b) → ((∀ h, h < n → v h = none) ∧ mxh a v n = a ∧ mxh b v n = b) ∨ (mxh a v n = mxh b v n ∧ ∃ h, h < n ∧ v h = some (mxh a v n))
  | 0, _ => Or.inl ⟨fun h hh => absurd hh (Nat.not_lt_zero h), rfl, rfl⟩
  | n + 1, e => by
    have ih := mxh_c n (fun h x hh => e h x (by omega))
    cases hv : v n with
    | none =>
      rw [mxh_n hv, mxh_n hv]
      rcases ih with ⟨h1, h2, h3⟩ | ⟨h1, h, h2, h3⟩
      · refine Or.inl ⟨fun h hh => ?_, h2, h3⟩
        by_cases z : h = n
        · subst z; exact hv
        · exact h1 h (by omega)
      · exact Or.inr ⟨h1, h, by omega, h3⟩
    | some x =>
      obtain ⟨x1, x2⟩ := e n x (by omega) hv
      rw [mxh_y hv, mxh_y hv]
      rcases ih with ⟨h1, h2, h3⟩ | ⟨h1, h, h2, h3⟩
      · rw [h2, h3, if_neg x1, if_neg x2]
        exact Or.inr ⟨rfl, n, by omega, hv⟩
      · rw [← h1]
        refine Or.inr ⟨rfl, ?_⟩
        by_cases z : x ≤ mxh a v n
        · rw [if_pos z]; exact ⟨h, by omega, h3⟩
        · rw [if_neg z]; exact ⟨n, by omega, hv⟩
/-- the greatest sum for those who have no house yet -/
def hV (W : Nat → Nat → Int32) (P : Nat) (k s : Nat) (r : Nat → Int32) (h : Nat) : Option Int32 := if s.testBit h = true then none else some (W (P - (k + 1)) h + r (s ||| 2 ^ h))
def HS (W : Nat → Nat → Int32) (P : Nat) : Nat → Nat → Int32
  | 0, _ => 0
  | k + 1, s => mxh (-2147483648) (hV W P k s (HS W P k)) 8
theorem HS_at {W : Nat → Nat → Int32} {P : Nat} (hP : P ≤ 7) (hW : ∀ q h, q < P → h < 8 → ab 43659 (W q h)) : ∀ k s, s < 256 → bcn s + k = P → ab (43659 * k) (HS W P k s) ∧ (0 < k → (∀ h x, h < 8 → hV W P (k - 1) s (HS W P (k - 1)) h = some x → ab (43659 * k) x) ∧ ∃ h, h < 8 ∧ hV W P (k - 1) s (HS W P (k - 1)) h = some (HS W P k s))
  | 0, _, _, _ => ⟨ab_0, fun h => absurd h (Nat.lt_irrefl 0)⟩
  | k + 1, s, hs, hk => by
    have hx : ∀ h x, h < 8 → hV W P k s (HS W P k) h = some x → ab (43659 * (k + 1)) x := by
      intro h x hh e
      unfold hV at e
      by_cases z : s.testBit h = true
      · rw [if_pos z] at e; cases e
      · rw [if_neg z] at e
        have e' := Option.some.inj e
        obtain ⟨n1, n2, n3⟩ := b8_n h hh s hs (by simpa using z)
        have ih := (HS_at hP hW k (s ||| 2 ^ h) n2 (by omega)).1
        rw [← e']
        exact ab_le (ab_add (hW (P - (k + 1)) h (by omega) hh) ih (by omega)) (by omega)
    have lo : ∀ h x, h < 8 → hV W P k s (HS W P k) h = some x → ¬ x ≤ -2147483648 ∧ ¬ x ≤ -2147483648 := fun h x hh e => ⟨ab_low (hx h x hh e) (by omega), ab_low (hx h x hh e) (by omega)⟩
    have hex : ∃ h, h < 8 ∧ hV W P k s (HS W P k) h = some (HS W P (k + 1) s) := by
      rcases mxh_c 8 lo with ⟨h1, -⟩ | ⟨-, h2⟩
      · exfalso
        obtain ⟨h, hh, ht⟩ := b8_x hs (by omega)
        have := h1 h hh
        unfold hV at this
        rw [ht, if_neg (by decide)] at this
        cases this
      · exact h2
    obtain ⟨h, hh, e⟩ := hex
    exact ⟨hx h _ hh e, fun _ => ⟨hx, h, hh, e⟩⟩
/-- the first house that gives it -/
def fhs (W : Nat → Nat → Int32) (P q s h : Nat) : Option Nat := if s.testBit h = true then none else if W q h + HS W P (P - (q + 1)) (s ||| 2 ^ h) = HS W P (P - q) s then some h else none
def fh (W : Nat → Nat → Int32) (P q s : Nat) : Nat := (fs (fhs W P q s) 0 8).getD 0
def TK (W : Nat → Nat → Int32) (P : Nat) : Nat → Nat
  | 0 => 0
  | q + 1 => TK W P q ||| 2 ^ fh W P q (TK W P q)
theorem fs_ex {Z : Type} {g : Nat → Option Z} : ∀ (m a i : Nat) (z : Z), a ≤ i → i < a + m → g i = some z → ∃ y, fs g a m = some y
  | 0, _, _, _, _, _, _ => by omega
  | m + 1, a, i, z, h1, h2, h3 => by
    cases hg : g a with
    | some y => exact ⟨y, fs_y hg⟩
    | none =>
      rw [fs_n hg]
      have : i ≠ a := by rintro rfl; rw [h3] at hg; cases hg
      exact fs_ex m (a + 1) i z (by omega) (by omega) h3
theorem fh_ok {W : Nat → Nat → Int32} {P q s : Nat} (hP : P ≤ 7) (hW : ∀ q h, q < P → h < 8 → ab 43659 (W q h)) (hq : q < P) (hs : s < 256) (hb : bcn s = q) : fs (fhs W P q s) 0 8 = some (fh W P q s) ∧ fh W P q s < 8 ∧ s.testBit (fh W P q s) = false := by
  obtain ⟨-, h2⟩ := HS_at hP hW (P - q) s hs (by omega)
  obtain ⟨-, h, hh, e⟩ := h2 (by omega)
  have e0 : fhs W P q s h = some h := by
    unfold hV at e
    unfold fhs
    by_cases z : s.testBit h = true
    · rw [if_pos z] at e; cases e
    · rw [if_neg z] at e
      rw [if_neg z]
      have e' := Option.some.inj e
      rw [show P - (P - q - 1 + 1) = q by omega, show P - q - 1 = P - (q + 1) by omega] at e'
      rw [if_pos e']
  obtain ⟨z, hz⟩ := fs_ex 8 0 h h (Nat.zero_le _) (by omega) e0
  have hf : fh W P q s = z := by unfold fh; rw [hz]; rfl
  rw [hf]
  refine ⟨hz, ?_⟩
  obtain ⟨i, h1, h2, h3⟩ := fs_in hz
  unfold fhs at h3
  by_cases y : s.testBit i = true
  · rw [if_pos y] at h3; cases h3
  · rw [if_neg y] at h3
    by_cases x : W q i + HS W P (P - (q + 1)) (s ||| 2 ^ i) = HS W P (P - q) s
    · rw [if_pos x] at h3
      cases h3
      exact ⟨by omega, by simpa using y⟩
    · rw [if_neg x] at h3; cases h3
theorem TK_ok {W : Nat → Nat → Int32} {P : Nat} (hP : P ≤ 7) (hW : ∀ q h, q < P → h < 8 → ab 43659 (W q h)) : ∀ q, q ≤ P → TK W P q < 256 ∧ bcn (TK W P q) = q
  | 0, _ => ⟨(by decide : 0 < 256), (by decide : bcn 0 = 0)⟩
  | q + 1, hq => by
    obtain ⟨h1, h2⟩ := TK_ok hP hW q (by omega)
    obtain ⟨-, h3, h4⟩ := fh_ok hP hW (show q < P by omega) h1 h2
    obtain ⟨n1, n2, -⟩ := b8_n _ h3 _ h1 h4
    exact ⟨n2, by show bcn (TK W P q ||| 2 ^ fh W P q (TK W P q)) = _; omega⟩
