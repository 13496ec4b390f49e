/-! how great worths can be; differences -/
theorem ti_add {a b : Int32} {A B : Int} (ha : a.toInt = A) (hb : b.toInt = B) (h1 : -2147483648 ≤ A + B) (h2 : A + B ≤ 2147483647) : (a + b).toInt = A + B := by
  have e : (a + b).toInt = (a.toInt + b.toInt).bmod (2 ^ 32) := Int32.toInt_add a b
  rw [e, ha, hb]
  exact Int.bmod_eq_of_le (by omega) (by omega)
theorem ti_sub {a b : Int32} {A B : Int} (ha : a.toInt = A) (hb : b.toInt = B) (h1 : -2147483648 ≤ A - B) (h2 : A - B ≤ 2147483647) : (a - b).toInt = A - B := by
  have e : (a - b).toInt = (a.toInt - b.toInt).bmod (2 ^ 32) := Int32.toInt_sub a b
  rw [e, ha, hb]
  exact Int.bmod_eq_of_le (by omega) (by omega)
theorem ti_mul {a b : Int32} {A B : Int} (ha : a.toInt = A) (hb : b.toInt = B) (h1 : -2147483648 ≤ A * B) (h2 : A * B ≤ 2147483647) : (a * b).toInt = A * B := by
  have e : (a * b).toInt = (a.toInt * b.toInt).bmod (2 ^ 32) := Int32.toInt_mul a b
  rw [e, ha, hb]
  exact Int.bmod_eq_of_le (by omega) (by omega)
theorem mul_b {A B : Int} {m n : Nat} (ha : A.natAbs ≤ m) (hb : B.natAbs ≤ n) : (A * B).natAbs ≤ m * n := by
  rw [Int.natAbs_mul]
  exact Nat.mul_le_mul ha hb
/-- at most n, by its amount -/
def ab (n : Nat) (x : Int32) : Prop := x.toInt.natAbs ≤ n
theorem ab_mul {a b : Int32} {m n : Nat} (ha : ab m a) (hb : ab n b) (h : m * n < 2147483648) : ab (m * n) (a * b) := by
  have h1 := mul_b ha hb
  unfold ab
  rw [ti_mul rfl rfl (by omega) (by omega)]
  exact h1
theorem ab_add {a b : Int32} {m n : Nat} (ha : ab m a) (hb : ab n b) (h : m + n < 2147483648) : ab (m + n) (a + b) := by
  unfold ab at *
  rw [ti_add rfl rfl (by omega) (by omega)]
  omega
theorem ab_sub {a b : Int32} {m n : Nat} (ha : ab m a) (hb : ab n b) (h : m + n < 2147483648) : ab (m + n) (a - b) := by
  unfold ab at *
  rw [ti_sub rfl rfl (by omega) (by omega)]
  omega
theorem ab_le {a : Int32} {m n : Nat} (ha : ab m a) (h : m ≤ n) : ab n a := Nat.le_trans ha h
theorem ab_0 : ab 0 0 := by unfold ab; decide
theorem ab_nI {k n : Nat} (h : k ≤ n) (hk : k < 2 ^ 31) : ab n (nI k) := by
  unfold ab
  rw [nI_toInt hk]
  omega
theorem ab_v9 {x : Int32} (h : v9 x) : ab 9 x := by
  unfold ab
  obtain ⟨h1, h2⟩ := h
  omega
/-- greater is a difference above nothing -/
theorem sub_le0 {a b : Int32} {m n : Nat} (ha : ab m a) (hb : ab n b) (h : m + n < 2147483648) : (a - b ≤ 0) ↔ a ≤ b := by
  unfold ab at ha hb
  rw [Int32.le_iff_toInt_le, Int32.le_iff_toInt_le, ti_sub (A := a.toInt) (B := b.toInt) rfl rfl (by omega) (by omega), show (0 : Int32).toInt = 0 from rfl]
  omega
theorem tS_b {I : am_IT} {c w p t y d ln h u : Nat} (X : cx I c w p t y d ln) (hh : h < 8) (hu : u < 7) : ∀ i, i ≤ t → (tS I h u i).toInt ≤ 99 ∧ -(98901 * (i : Int)) ≤ (tS I h u i).toInt
  | 0, _ => by
    obtain ⟨-, -, rpo, rpa, rho, rvi, -⟩ := X
    obtain ⟨e, k, hk, ek⟩ := rvi (7 * h + u) (by omega)
    unfold tS
    rw [← e, ek, nI_toInt (by omega)]
    omega
  | i + 1, hi => by
    obtain ⟨ih1, ih2⟩ := tS_b X hh hu i (by omega)
    have b5 : t ≤ 20 := X.1.2.2.2.2.1
    have b6 : y ≤ 999 := X.1.2.2.2.2.2.1
    have hy2 : I 55 13 = nI y := X.2.1.2.2.1.2
    obtain ⟨-, -, rpo, rpa, rho, rvi, rtr, -⟩ := X
    obtain ⟨h', u', g, s, h1, h2, h3, h4, e1, e2, e3, e4, e5, e6, e7⟩ := rtr i (by omega)
    unfold tS
    by_cases z : I 59 i = nI h ∧ I 60 i = nI u
    · rw [if_pos z, e6, e7, hy2, pk_sub h4, pk_mul]
      have hm : (y - s) * g ≤ 999 * 99 := Nat.mul_le_mul (by omega) (by omega)
      have e : (tS I h u i - nI ((y - s) * g)).toInt = (tS I h u i).toInt - (((y - s) * g : Nat) : Int) := ti_sub rfl (nI_toInt (by omega)) (by omega) (by omega)
      rw [e]
      omega
    · rw [if_neg z]; omega
theorem cl_b {x : Int32} (h : x.toInt ≤ 99) : 0 ≤ (cl0 x).toInt ∧ (cl0 x).toInt ≤ 99 := by
  unfold cl0
  by_cases z : x < 0
  · rw [if_pos z]; decide
  · rw [if_neg z]
    have := Int32.not_lt.mp z
    rw [Int32.le_iff_toInt_le] at this
    exact ⟨this, h⟩
theorem yd_b {I : am_IT} {c w p t y d ln h u : Nat} (X : cx I c w p t y d ln) (hh : h < 8) (hu : u < 7) : ab 99 (cl0 (tS I h u t)) := by
  obtain ⟨h1, h2⟩ := cl_b (tS_b X hh hu t (Nat.le_refl t)).1
  unfold ab
  omega
/-- what it is worth that two are of one colour -/
def tw2 (Y N : Nat → Int32) (B : Int32) (u v : Nat) : Int32 := if N (7 * u + v) = 0 then 0 else B * (if Y v < Y u then Y v else Y u)
theorem tw2_b {Y N : Nat → Int32} {B : Int32} {u v : Nat} (hB : ab 9 B) (hu : ab 99 (Y u)) (hv : ab 99 (Y v)) : ab 891 (tw2 Y N B u v) := by
  unfold tw2
  split
  · exact ab_le ab_0 (by omega)
  · split
    · exact ab_mul hB hv (by omega)
    · exact ab_mul hB hu (by omega)
theorem tw2_s {Y N : Nat → Int32} {B : Int32} {u v : Nat} (hN : N (7 * u + v) = N (7 * v + u)) : tw2 Y N B u v = tw2 Y N B v u := by
  unfold tw2
  rw [hN]
  by_cases z : Y v < Y u
  · rw [if_pos z, if_neg (fun h => Int32.lt_irrefl (Int32.lt_trans h z))]
  · rw [if_neg z]
    by_cases z2 : Y u < Y v
    · rw [if_pos z2]
    · rw [if_neg z2, show Y u = Y v from Int32.le_antisymm (Int32.not_lt.mp z) (Int32.not_lt.mp z2)]
theorem wI_b {Y N T : Nat → Int32} {B : Int32} {P : Nat → Nat} {u m : Nat} {z : Int32} (hB : ab 9 B) (hY : ∀ v, v < 7 → ab 99 (Y v)) (hu : u < 7) (hz : ab m z) (hm : m < 1000000) : ∀ v, v ≤ u → ab (m + 891 * v) (wI Y P N B u z v)
  | 0, _ => hz
  | v + 1, hv => by
    have ih := wI_b (P := P) (N := N) (T := T) hB hY hu hz hm v (by omega)
    show ab _ (if P u = P v then wI Y P N B u z v + tw2 Y N B u v else wI Y P N B u z v)
    split
    · exact ab_le (ab_add ih (tw2_b hB (hY u hu) (hY v (by omega))) (by omega)) (by omega)
    · exact ab_le ih (by omega)
theorem wS_b {Y N T : Nat → Int32} {B : Int32} {P : Nat → Nat} (hB : ab 9 B) (hY : ∀ v, v < 7 → ab 99 (Y v)) (hT : ∀ k, k < 4 → ab 9 (T k)) : ∀ u, u ≤ 7 → (∀ v, v < u → P v < 4) → ab (6237 * u) (wS Y P T N B u)
  | 0, _, _ => ab_0
  | u + 1, hu, hP => by
    have ih := wS_b (N := N) hB hY hT u (by omega) (fun v hv => hP v (by omega))
    have h1 : ab (6237 * u + 99 * 9) (wS Y P T N B u + Y u * T (P u)) := ab_add ih (ab_mul (hY u (by omega)) (hT _ (hP u (by omega))) (by omega)) (by omega)
    exact ab_le (wI_b (T := T) hB hY (by omega) h1 (by omega) u (Nat.le_refl u)) (by omega)
theorem wV_b {I : am_IT} {c w p t y d ln q h : Nat} {P : Nat → Nat} (X : cx I c w p t y d ln) (hq : q < p) (hh : h < 8) (hP : ∀ v, v < w → P v < 4) : ab 43659 (wV I t w q h P) := by
  have b3 : w ≤ 7 := X.1.2.2.1
  have b4 : p ≤ 7 := X.1.2.2.2.1
  have X0 := X
  obtain ⟨-, -, rpo, rpa, rho, rvi, rtr, rta, rsa, rbe, -⟩ := X
  unfold wV
  exact ab_le (wS_b (ab_v9 (rbe.1 q hq).2) (fun v hv => yd_b X0 hh hv) (fun k hk => ab_v9 (rta.1 (4 * q + k) (by omega)).2) w b3 hP) (by omega)
/-! a wall's part of a worth -/
def pz (Y N T : Nat → Int32) (B : Int32) (P : Nat → Nat) (u k : Nat) : Nat → Int32
  | 0 => Y u * T k
  | v + 1 => if v = u then pz Y N T B P u k v else if P v = k then pz Y N T B P u k v + tw2 Y N B u v else pz Y N T B P u k v
def pu (P : Nat → Nat) (u k : Nat) : Nat → Nat := fun x => if x = u then k else P x
theorem wI_sp {Y N : Nat → Int32} {B : Int32} {P : Nat → Nat} {u : Nat} {z : Int32} : ∀ v, wI Y P N B u z v = z + wI Y P N B u 0 v
  | 0 => (Int32.add_zero z).symm
  | v + 1 => by
    show (if P u = P v then wI Y P N B u z v + tw2 Y N B u v else wI Y P N B u z v) = z + (if P u = P v then wI Y P N B u 0 v + tw2 Y N B u v else wI Y P N B u 0 v)
    rw [wI_sp v]
    split
    · rw [Int32.add_assoc]
    · rfl
theorem wI_pz {Y N T : Nat → Int32} {B : Int32} {P : Nat → Nat} {u k : Nat} : ∀ v, v ≤ u → wI Y (pu P u k) N B u (Y u * T k) v = pz Y N T B P u k v
  | 0, _ => rfl
  | v + 1, h => by
    show (if pu P u k u = pu P u k v then _ + tw2 Y N B u v else _) = (if v = u then pz Y N T B P u k v else if P v = k then pz Y N T B P u k v + tw2 Y N B u v else pz Y N T B P u k v)
    rw [wI_pz v (by omega), if_neg (show ¬ v = u by omega)]
    have e1 : pu P u k u = k := if_pos rfl
    have e2 : pu P u k v = P v := if_neg (by omega)
    rw [e1, e2]
    by_cases z : P v = k
    · rw [if_pos z, if_pos z.symm]
    · rw [if_neg z, if_neg (fun e => z e.symm)]
theorem wI_c {Y N : Nat → Int32} {B : Int32} {P Q : Nat → Nat} {u : Nat} {z : Int32} (hu : P u = Q u) : ∀ v, (∀ x, x < v → P x = Q x) → wI Y P N B u z v = wI Y Q N B u z v
  | 0, _ => rfl
  | v + 1, h => by
    show (if P u = P v then wI Y P N B u z v + tw2 Y N B u v else wI Y P N B u z v) = (if Q u = Q v then wI Y Q N B u z v + tw2 Y N B u v else wI Y Q N B u z v)
    rw [wI_c hu v (fun x hx => h x (by omega)), hu, h v (by omega)]
theorem wS_c {Y N T : Nat → Int32} {B : Int32} {P Q : Nat → Nat} : ∀ w, (∀ x, x < w → P x = Q x) → wS Y P T N B w = wS Y Q T N B w
  | 0, _ => rfl
  | w + 1, h => by
    show wI Y P N B w (wS Y P T N B w + Y w * T (P w)) w = wI Y Q N B w (wS Y Q T N B w + Y w * T (Q w)) w
    rw [wS_c w (fun x hx => h x (by omega)), h w (by omega), wI_c (h w (by omega)) w (fun x hx => h x (by omega))]
/-- a wall above u sees u's colour change -/
theorem wI_ch {Y N : Nat → Int32} {B : Int32} {P : Nat → Nat} {x u k : Nat} (hx : u < x) {z : Int32} : ∀ v, wI Y (pu P u k) N B x z v = wI Y P N B x z v + (if u < v then (if P x = k then tw2 Y N B x u else 0) - (if P x = P u then tw2 Y N B x u else 0) else 0)
  | 0 => by
    rw [if_neg (Nat.not_lt_zero u), Int32.add_zero]; rfl
  | v + 1 => by
    have ih := wI_ch (Y := Y) (N := N) (B := B) (P := P) (k := k) hx (z := z) v
    show (if pu P u k x = pu P u k v then wI Y (pu P u k) N B x z v + tw2 Y N B x v else wI Y (pu P u k) N B x z v) = (if P x = P v then wI Y P N B x z v + tw2 Y N B x v else wI Y P N B x z v) + _
    have e1 : pu P u k x = P x := if_neg (by omega)
    rw [e1, ih]
    by_cases h1 : v = u
    · subst h1
      have e2 : pu P v k v = k := if_pos rfl
      rw [e2, if_neg (Nat.lt_irrefl v), if_pos (Nat.lt_succ_self v), Int32.add_zero]
      by_cases z1 : P x = k
      · rw [if_pos z1, if_pos z1]
        by_cases z2 : P x = P v
        · rw [if_pos z2, if_pos z2]; grind
        · rw [if_neg z2, if_neg z2]; grind
      · rw [if_neg z1, if_neg z1]
        by_cases z2 : P x = P v
        · rw [if_pos z2, if_pos z2]; grind
        · rw [if_neg z2, if_neg z2]; grind
    · have e2 : pu P u k v = P v := if_neg h1
      rw [e2]
      by_cases h2 : u < v
      · rw [if_pos h2, if_pos (show u < v + 1 by omega)]
        by_cases z2 : P x = P v
        · rw [if_pos z2, if_pos z2]; grind
        · rw [if_neg z2, if_neg z2]
      · rw [if_neg h2, if_neg (show ¬ u < v + 1 by omega), Int32.add_zero, Int32.add_zero]
/-- one wall changed -/
theorem wS_ch {Y N T : Nat → Int32} {B : Int32} {P : Nat → Nat} {u k : Nat} (hs : ∀ x, x < 7 → u < 7 → tw2 Y N B x u = tw2 Y N B u x) : ∀ w, w ≤ 7 → wS Y (pu P u k) T N B w = wS Y P T N B w + (if u < w then pz Y N T B P u k w - pz Y N T B P u (P u) w else 0)
  | 0, _ => by
    rw [if_neg (Nat.not_lt_zero u), Int32.add_zero]; rfl
  | w + 1, hw => by
    have ih := wS_ch (Y := Y) (N := N) (T := T) (B := B) (P := P) (u := u) (k := k) hs w (by omega)
    show wI Y (pu P u k) N B w (wS Y (pu P u k) T N B w + Y w * T (pu P u k w)) w = wI Y P N B w (wS Y P T N B w + Y w * T (P w)) w + _
    by_cases h1 : w = u
    · subst h1
      have e2 : pu P w k w = k := if_pos rfl
      rw [if_neg (Nat.lt_irrefl w), Int32.add_zero] at ih
      rw [ih, e2, if_pos (Nat.lt_succ_self w)]
      have a1 : pz Y N T B P w k (w + 1) = pz Y N T B P w k w := if_pos rfl
      have a2 : pz Y N T B P w (P w) (w + 1) = pz Y N T B P w (P w) w := if_pos rfl
      rw [a1, a2, ← wI_pz w (Nat.le_refl w), ← wI_pz w (Nat.le_refl w), wI_sp (z := wS Y P T N B w + Y w * T k), wI_sp (z := wS Y P T N B w + Y w * T (P w)), wI_sp (z := Y w * T k), wI_sp (z := Y w * T (P w)), wI_c (P := pu P w (P w)) (Q := P) (if_pos rfl) w (fun x hx => if_neg (by omega))]
      grind
    · have e1 : pu P u k w = P w := if_neg h1
      rw [e1]
      by_cases h2 : u < w
      · rw [if_pos h2] at ih
        rw [if_pos (show u < w + 1 by omega), wI_ch h2, if_pos h2, ih]
        have a1 : pz Y N T B P u k (w + 1) = if P w = k then pz Y N T B P u k w + tw2 Y N B u w else pz Y N T B P u k w := if_neg h1
        have a2 : pz Y N T B P u (P u) (w + 1) = if P w = P u then pz Y N T B P u (P u) w + tw2 Y N B u w else pz Y N T B P u (P u) w := if_neg h1
        rw [a1, a2, wI_sp (z := wS Y P T N B w + (pz Y N T B P u k w - pz Y N T B P u (P u) w) + Y w * T (P w)), wI_sp (z := wS Y P T N B w + Y w * T (P w)), hs w (by omega) (by omega)]
        by_cases z1 : P w = k
        · rw [if_pos z1, if_pos z1]
          by_cases z2 : P w = P u
          · rw [if_pos z2, if_pos z2]; grind
          · rw [if_neg z2, if_neg z2]; grind
        · rw [if_neg z1, if_neg z1]
          by_cases z2 : P w = P u
          · rw [if_pos z2, if_pos z2]; grind
          · rw [if_neg z2, if_neg z2]; grind
      · rw [if_neg h2, Int32.add_zero] at ih
        rw [if_neg (show ¬ u < w + 1 by omega), Int32.add_zero, ih, wI_c (P := pu P u k) (Q := P) e1 w (fun x hx => if_neg (by omega))]
/-- the part of v when u changed -/
theorem pz_ch {Y N T : Nat → Int32} {B : Int32} {P : Nat → Nat} {u v k m : Nat} (huv : u ≠ v) : ∀ w, pz Y N T B (pu P u k) v m w = pz Y N T B P v m w + (if u < w then (if k = m then tw2 Y N B v u else 0) - (if P u = m then tw2 Y N B v u else 0) else 0)
  | 0 => by
    rw [if_neg (Nat.not_lt_zero u), Int32.add_zero]; rfl
  | w + 1 => by
    have ih := pz_ch (Y := Y) (N := N) (T := T) (B := B) (P := P) (k := k) (m := m) huv w
    show (if w = v then pz Y N T B (pu P u k) v m w else if pu P u k w = m then pz Y N T B (pu P u k) v m w + tw2 Y N B v w else pz Y N T B (pu P u k) v m w) = (if w = v then pz Y N T B P v m w else if P w = m then pz Y N T B P v m w + tw2 Y N B v w else pz Y N T B P v m w) + _
    rw [ih]
    by_cases h0 : w = v
    · rw [if_pos h0, if_pos h0]
      by_cases h2 : u < w
      · rw [if_pos h2, if_pos (show u < w + 1 by omega)]
      · rw [if_neg h2, if_neg (show ¬ u < w + 1 by omega)]
    · rw [if_neg h0, if_neg h0]
      by_cases h1 : w = u
      · subst h1
        have e2 : pu P w k w = k := if_pos rfl
        rw [e2, if_neg (Nat.lt_irrefl w), if_pos (Nat.lt_succ_self w), Int32.add_zero]
        by_cases z1 : k = m
        · rw [if_pos z1, if_pos z1]
          by_cases z2 : P w = m
          · rw [if_pos z2, if_pos z2]; grind
          · rw [if_neg z2, if_neg z2]; grind
        · rw [if_neg z1, if_neg z1]
          by_cases z2 : P w = m
          · rw [if_pos z2, if_pos z2]; grind
          · rw [if_neg z2, if_neg z2]; grind
      · have e2 : pu P u k w = P w := if_neg h1
        rw [e2]
        by_cases h2 : u < w
        · rw [if_pos h2, if_pos (show u < w + 1 by omega)]
          by_cases z2 : P w = m
          · rw [if_pos z2, if_pos z2]; grind
          · rw [if_neg z2, if_neg z2]
        · rw [if_neg h2, if_neg (show ¬ u < w + 1 by omega), Int32.add_zero, Int32.add_zero]
/-- how many more couples of one colour the class counts -/
def prs (a b c d : Nat) : Int32 := (if c = d then 1 else 0) - (if c = b then 1 else 0) - (if a = d then 1 else 0) + (if a = b then 1 else 0)
theorem wS_2 {Y N T : Nat → Int32} {B : Int32} {P : Nat → Nat} {u v a b w : Nat} (hs : ∀ x y, x < 7 → y < 7 → tw2 Y N B x y = tw2 Y N B y x) (hw : w ≤ 7) (huv : u < v) (hv : v < w) :
    wS Y (pu (pu P u a) v b) T N B w - wS Y P T N B w = (pz Y N T B P u a w - pz Y N T B P u (P u) w) + (pz Y N T B P v b w - pz Y N T B P v (P v) w) + prs (P u) (P v) a b * tw2 Y N B u v := by
  have e1 : pu P u a v = P v := if_neg (by omega)
  rw [wS_ch (fun x h1 h2 => hs x v h1 h2) w hw, if_pos hv, wS_ch (fun x h1 h2 => hs x u h1 h2) w hw, if_pos (by omega), e1, pz_ch (by omega) w, pz_ch (by omega) w, if_pos (show u < w by omega), if_pos (show u < w by omega), hs v u (by omega) (by omega)]
  unfold prs
  by_cases z1 : a = b
  · rw [if_pos z1, if_pos z1]
    by_cases z2 : P u = b
    · rw [if_pos z2, if_pos z2]
      by_cases z3 : a = P v
      · rw [if_pos z3, if_pos z3]
        by_cases z4 : P u = P v
        · rw [if_pos z4, if_pos z4]; grind
        · rw [if_neg z4, if_neg z4]; grind
      · rw [if_neg z3, if_neg z3]
        by_cases z4 : P u = P v
        · rw [if_pos z4, if_pos z4]; grind
        · rw [if_neg z4, if_neg z4]; grind
    · rw [if_neg z2, if_neg z2]
      by_cases z3 : a = P v
      · rw [if_pos z3, if_pos z3]
        by_cases z4 : P u = P v
        · rw [if_pos z4, if_pos z4]; grind
        · rw [if_neg z4, if_neg z4]; grind
      · rw [if_neg z3, if_neg z3]
        by_cases z4 : P u = P v
        · rw [if_pos z4, if_pos z4]; grind
        · rw [if_neg z4, if_neg z4]; grind
  · rw [if_neg z1, if_neg z1]
    by_cases z2 : P u = b
    · rw [if_pos z2, if_pos z2]
      by_cases z3 : a = P v
      · rw [if_pos z3, if_pos z3]
        by_cases z4 : P u = P v
        · rw [if_pos z4, if_pos z4]; grind
        · rw [if_neg z4, if_neg z4]; grind
      · rw [if_neg z3, if_neg z3]
        by_cases z4 : P u = P v
        · rw [if_pos z4, if_pos z4]; grind
        · rw [if_neg z4, if_neg z4]; grind
    · rw [if_neg z2, if_neg z2]
      by_cases z3 : a = P v
      · rw [if_pos z3, if_pos z3]
        by_cases z4 : P u = P v
        · rw [if_pos z4, if_pos z4]; grind
        · rw [if_neg z4, if_neg z4]; grind
      · rw [if_neg z3, if_neg z3]
        by_cases z4 : P u = P v
        · rw [if_pos z4, if_pos z4]; grind
        · rw [if_neg z4, if_neg z4]; grind
