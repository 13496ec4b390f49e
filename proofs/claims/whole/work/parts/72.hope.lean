/-! a wall that all mind -/
theorem mt_ne {a k j : Nat} (h0 : ∀ j, mt a j = false) (h : mt k j = true) : k ≠ a := by
  rintro rfl
  rw [h0] at h; cases h
def kc (m fee g many : Int32) (pays : Prop) (dp : Decidable pays) : Bool := @ite Bool pays dp (decide ((if many - 1 < m then 0 else g) ≤ (if many < m then 0 else g) - fee)) (decide ((if many + 1 < m then 0 else g) - fee ≤ (if many < m then 0 else g)))
/-- how many are in a set -/
def bcn (s : Nat) : Nat := (List.range 8).foldl (fun a i => a + s / 2 ^ i % 2) 0
theorem e_bits (I : am_IT) : ∀ s, s < 256 → F_J6_bitCount_0f7a4 I (nI s) = some (nI (bcn s)) := by
  unfold F_J6_bitCount_0f7a4 am_let
  decide +kernel
theorem on_st : ∀ s, s < 256 → s ≠ 0 → ∃ r, r < s ∧ nI s &&& (nI s - 1) = nI r ∧ bcn s = bcn r + 1 := by decide +kernel
theorem e_ones (I : am_IT) {s : Nat} (hs : s < 256) : F_X12_ones_55 I (nI s) = some (nI (bcn s)) := by
  unfold F_X12_ones_55
  have go : ∀ (r m a : Nat), r < 256 → r < m → am_it m (am_u2 (fun (l2_1 : Int32) (l3_2 : Int32) => if l3_2 = 0 then (some (.inr (l2_1)) : Option ((Int32 × Int32) ⊕ Int32)) else (am_let (l2_1 + (1 : Int32)) (fun (l2_10 : Int32) => am_let (l3_2 &&& (l3_2 - (1 : Int32))) (fun (l3_11 : Int32) => some (.inl (l2_10, l3_11))))))) (nI a, nI r) = some (nI (a + bcn r)) := by
    intro r
    induction r using Nat.strongRecOn with
    | ind r ih =>
      intro m a hr hm
      cases m with
      | zero => omega
      | succ m =>
        by_cases h0 : r = 0
        · subst h0
          rw [am_it_e (e := nI a) (by rw [am_u2_s, if_pos nI_0])]
          rfl
        · obtain ⟨q, hq, e1, e2⟩ := on_st r hr h0
          rw [am_it_l (y := (nI (a + 1), nI q)) (by rw [am_u2_s, if_neg (nI_ne0 (by omega) (by omega)), am_let_s, am_let_s, e1, nI_1])]
          rw [ih q hq m (a + 1) (by omega) (by omega), e2]
          exact congrArg (fun z => some (nI z)) (by omega)
  have h := go s 1000000 0 hs (by omega)
  rw [nI_0, Nat.zero_add] at h
  rw [show am_fu = 1000000 from rfl, h, am_b1_s]
theorem two_p : ∀ p, p < 9 → ((1 : Int32) <<< (nI p &&& 31)) = nI (2 ^ p) := by decide +kernel
/-- whether a set stands: none of p would rather do otherwise -/
def kq (m fee : Int32) (g : Nat → Int32) (s q : Nat) : Option Unit := if kc m fee (g q) (nI (bcn s)) (((nI s >>> (nI q &&& 31)) &&& (1 : Int32)) = 1) inferInstance = true then none else some ()
def kr (m fee : Int32) (g : Nat → Int32) (p s : Nat) : Bool := (fs (kq m fee g s) 0 p).isNone
def hcn (m fee : Int32) (g : Nat → Int32) (p : Nat) : Nat → Int32
  | 0 => 0
  | s + 1 => if kr m fee g p s = true then hcn m fee g p s + 1 else hcn m fee g p s
def hls (m fee : Int32) (g : Nat → Int32) (p : Nat) : Nat → Int32
  | 0 => -1
  | s + 1 => if kr m fee g p s = true then (if hls m fee g p s = -1 then nI s else hls m fee g p s) else hls m fee g p s
theorem e_kept {I : am_IT} {p s : Nat} {m fee : Int32} {g : Nat → Int32} (hp : I 1 4 = nI p) (hp7 : p ≤ 7) (hs : s < 256) (hg : ∀ q, q < p → I 42 q = g q) : F_X4_isKept_40 I (nI s) m fee = some (if kr m fee g p s = true then 1 else 0) := by
  unfold F_X4_isKept_40
  rw [e_bits I s hs, am_b1_s]
  refine it_fs (n := p) (e0 := (0 : Int32)) nI_0.symm (kq m fee g s) (fun _ => (0 : Int32)) (Nat.zero_le _) (by omega) (fun q _ hq => ?_) ?_ ?_
  · rw [hp, if_neg (nI_ge hq (by omega)), if_pos (am_ix_nI (by omega) (by decide)), nI_clamp (by omega), hg q hq, nI_1]
    unfold kq kc
    by_cases hb : ((nI s >>> (nI q &&& 31)) &&& (1 : Int32)) = 1
    · rw [if_pos hb, am_b1_s, if_neg (by decide), am_b1_s, Int32.sub_add_cancel, if_pos hb, ite_s, am_b1_s, am_let_s, ite_s, am_b1_s, if_neg (by decide), am_let_s]
      by_cases z : (if nI (bcn s) - 1 < m then 0 else g q) ≤ (if nI (bcn s) < m then 0 else g q) - fee
      · rw [if_pos z, if_pos (decide_eq_true z)]; rfl
      · rw [if_neg z, if_neg (by rw [decide_eq_false z]; decide)]; rfl
    · rw [if_neg hb, am_b1_s, if_pos rfl, am_b1_s, if_neg hb, ite_s, am_b1_s, am_let_s, ite_s, am_b1_s, if_pos rfl, am_let_s]
      by_cases z : (if nI (bcn s) + 1 < m then 0 else g q) - fee ≤ (if nI (bcn s) < m then 0 else g q)
      · rw [if_pos z, if_pos (decide_eq_true z)]; rfl
      · rw [if_neg z, if_neg (by rw [decide_eq_false z]; decide)]; rfl
  · rw [hp, if_pos (nI_le (Nat.le_refl p) (by omega))]
  · rw [Nat.sub_zero]
    unfold kr
    cases fs (kq m fee g s) 0 p <;> rfl
theorem it_fw {f : Int32 → Int32 → Option ((Int32 × Int32) ⊕ Int32)} {n : Nat} (g : Nat → Option Unit) (hn : n < 999999) (hs : ∀ i, i < n → f 1 (nI i) = some (.inl (if (g i).isNone = true then 1 else 0, nI (i + 1)))) (h0 : ∀ i, i ≤ n → f 0 (nI i) = some (.inr 0)) (he : f 1 (nI n) = some (.inr 1)) : am_it am_fu (am_u2 f) (1, 0) = some (if (fs g 0 n).isNone = true then 1 else 0) := by
  have go : ∀ (m j i : Nat), i + j = n → j + 1 < m → am_it m (am_u2 f) (1, nI i) = some (if (fs g i j).isNone = true then 1 else 0) := by
    intro m
    induction m with
    | zero => intro j i _ h; omega
    | succ m ih =>
      intro j i hj hm
      cases j with
      | zero =>
        have hin : i = n := by omega
        subst hin
        rw [am_it_e (e := 1) (by rw [am_u2_s]; exact he)]; rfl
      | succ j =>
        rw [am_it_l (y := (if (g i).isNone = true then 1 else 0, nI (i + 1))) (by rw [am_u2_s]; exact hs i (by omega))]
        cases hg : g i with
        | none =>
          rw [fs_n hg]
          exact ih j (i + 1) (by omega) (by omega)
        | some z =>
          rw [fs_y hg]
          cases m with
          | zero => omega
          | succ m => exact am_it_e (e := 0) (by exact h0 (i + 1) (by omega))
  have h := go am_fu n 0 (by omega) (by show n + 1 < 1000000; omega)
  rw [nI_0] at h
  exact h
theorem e_wg {I J : am_IT} {c w p t y d ln u k : Nat} (X : cx I c w p t y d ln) (S : sq I J) (h3 : J 3 = I 3) (hu : u < w) (hk : k < c) : ∃ K, F_X4_weighGains_40 J (nI u) (nI k) = some K ∧ (∀ q, q < p → K 42 q = wV I t w q (hN I q) (fun v => if v = u then k else pN I v) - wV I t w q (hN I q) (pN I)) ∧ ∀ a, a ≠ 24 → a ≠ 41 → a ≠ 42 → K a = J a := by
  obtain ⟨K, e, hy, hK⟩ := ms X S
  have SK : sq I K := sq_x S (fun _ => rfl) hK
  have b3 : w ≤ 7 := X.1.2.2.1
  have b4 : p ≤ 7 := X.1.2.2.2.1
  have b2 : c ≤ 4 := X.1.2.1
  have k3 : K 3 = I 3 := (hK 3 (by decide)).trans h3
  unfold F_X4_weighGains_40
  have hw1 : (cpy2 K 3 41 (0 : Int32).toNatClampNeg (0 : Int32).toNatClampNeg (7 : Int32).toNatClampNeg) 1 3 = nI w := by
    show K 1 3 = nI w
    rw [sq_c SK (k := 1) rfl]; exact X.2.1.2.2.2.1.1
  rw [e, am_b1_s, if_pos (by decide), am_let_s, gW1 (n := w) hw1, am_b1_s]
  have g1 : gd (nI u) w = 1 := by unfold gd; rw [if_neg (nI_pos (by omega)), if_neg (nI_ge hu (by omega))]
  rw [g1, if_neg (by decide), if_pos (am_ix_nI (by omega) (by decide)), am_let_s, am_b1_s, nI_clamp (by omega)]
  generalize hL : up2 (cpy2 K 3 41 (0 : Int32).toNatClampNeg (0 : Int32).toNatClampNeg (7 : Int32).toNatClampNeg) 41 u (nI k) = L
  have l41 : ∀ v, v < w → L 41 v = nI (if v = u then k else pN I v) ∧ (if v = u then k else pN I v) < 4 := by
    intro v hv
    obtain ⟨h1, h2⟩ := hP3 X k3 v hv
    rw [← hL, up2_r]
    by_cases hvu : v = u
    · rw [if_pos hvu, if_pos hvu]; exact ⟨rfl, by omega⟩
    · rw [if_neg hvu, if_neg hvu]
      refine ⟨?_, h2⟩
      rw [← h1]
      unfold cpy2
      rw [if_pos ⟨rfl, Nat.zero_le _, by show v < 0 + 7; omega⟩]
      exact congrArg (K 3) (by show 0 + (v - 0) = v; omega)
  have lk : ∀ a, a ≠ 41 → L a = K a := by
    intro a ha
    rw [← hL, up2_k _ _ ha]
    funext j
    unfold cpy2
    rw [if_neg (fun z => ha z.1)]
  have SL : sq I L := sq_x SK (fun _ => rfl) lk
  refine it_b1_inv (R := fun z => ∃ K' : am_IT, z = some K' ∧ (∀ q, q < p → K' 42 q = wV I t w q (hN I q) (fun v => if v = u then k else pN I v) - wV I t w q (hN I q) (pN I)) ∧ ∀ a, a ≠ 24 → a ≠ 41 → a ≠ 42 → K' a = J a)
    (fun i x => ∃ J' : am_IT, x = (nI i, J') ∧ (∀ q, q < i → J' 42 q = wV I t w q (hN I q) (fun v => if v = u then k else pN I v) - wV I t w q (hN I q) (pN I)) ∧ ∀ a, a ≠ 42 → J' a = L a)
    (fun J' => (∀ q, q < p → J' 42 q = wV I t w q (hN I q) (fun v => if v = u then k else pN I v) - wV I t w q (hN I q) (pN I)) ∧ ∀ a, a ≠ 42 → J' a = L a) (n := p) (by omega) ?_ ?_ ⟨L, rfl, fun q hq => absurd hq (Nat.not_lt_zero q), fun _ _ => rfl⟩ (fun J' h => ⟨J', rfl, h.1, fun a h24 h41 h42 => by rw [h.2 a h42, lk a h41, hK a h24]⟩)
  · rintro i x hi ⟨J', rfl, j42, jk⟩
    have SJ : sq I J' := sq_x SL (fun _ => rfl) jk
    have j24 : ∀ h u, h < 8 → u < 7 → J' 24 (7 * h + u) = cl0 (tS I h u t) := fun h u hh hu => by rw [jk 24 (by decide), lk 24 (by decide)]; exact hy h u hh hu
    have hp1 : J' 1 4 = nI p := by rw [sq_c SJ (k := 1) rfl]; exact X.2.1.2.2.2.2.1.1
    refine ⟨(nI (i + 1), up2 J' 42 i (wV I t w i (hN I i) (fun v => if v = u then k else pN I v) - wV I t w i (hN I i) (pN I))), ?_, _, rfl, ?_, ?_⟩
    · rw [am_u2_s, hp1, if_neg (nI_ge hi (by omega)), cT_41 X SJ j24 (P := fun v => if v = u then k else pN I v) (fun v hv => by rw [jk 41 (by decide)]; exact l41 v hv) hi, am_b1_s, cT_3 X SJ j24 (hP3 X (by rw [jk 3 (by decide), lk 3 (by decide)]; exact k3)) hi, am_b1_s, if_pos (am_ix_nI (by omega) (by decide)), am_let_s, am_let_s, nI_clamp (by omega), nI_1]
    · intro q hq
      by_cases e : q = i
      · subst e; exact up2_s _ _ _ _
      · rw [up2_j _ _ e]; exact j42 q (by omega)
    · intro a ha
      rw [up2_k _ _ ha]; exact jk a ha
  · rintro x ⟨J', rfl, j42, jk⟩
    have SJ : sq I J' := sq_x SL (fun _ => rfl) jk
    have hp1 : J' 1 4 = nI p := by rw [sq_c SJ (k := 1) rfl]; exact X.2.1.2.2.2.2.1.1
    exact ⟨J', by rw [am_u2_s, hp1, if_pos (nI_le (Nat.le_refl p) (by omega))], j42, jk⟩
/-- what one gains by it -/
def gN (I : am_IT) (t w u k q : Nat) : Int32 := wV I t w q (hN I q) (fun v => if v = u then k else pN I v) - wV I t w q (hN I q) (pN I)
theorem e_cons {I J : am_IT} {c w p t y d ln u k : Nat} (X : cx I c w p t y d ln) (S : sq I J) (h3 : J 3 = I 3) (hu : u < w) (hk : k < c) (m fee : Int32) : ∃ K, F_X4_consider_40 J (nI u) (nI k) m fee = some K ∧ K 40 0 = hcn m fee (gN I t w u k) p (2 ^ p) ∧ K 40 1 = hls m fee (gN I t w u k) p (2 ^ p) ∧ ∀ a, a ≠ 24 → a ≠ 40 → a ≠ 41 → a ≠ 42 → K a = J a := by
  obtain ⟨K, e, k42, hK⟩ := e_wg X S h3 hu hk
  have b4 : p ≤ 7 := X.1.2.2.2.1
  have hpp : 2 ^ p ≤ 128 := (by decide : ∀ p, p < 8 → 2 ^ p ≤ 128) p (by omega)
  have hp1 : K 1 4 = nI p := by rw [hK 1 (by decide) (by decide) (by decide), sq_c S (k := 1) rfl]; exact X.2.1.2.2.2.2.1.1
  unfold F_X4_consider_40
  rw [e, am_b1_s, am_let_s, am_let_s]
  refine it_b1_inv (R := fun z => ∃ K' : am_IT, z = some K' ∧ K' 40 0 = hcn m fee (gN I t w u k) p (2 ^ p) ∧ K' 40 1 = hls m fee (gN I t w u k) p (2 ^ p) ∧ ∀ a, a ≠ 24 → a ≠ 40 → a ≠ 41 → a ≠ 42 → K' a = J a)
    (fun i x => ∃ J' : am_IT, x = (nI i, J') ∧ J' 40 0 = hcn m fee (gN I t w u k) p i ∧ J' 40 1 = hls m fee (gN I t w u k) p i ∧ ∀ a, a ≠ 40 → J' a = K a)
    (fun J' => J' 40 0 = hcn m fee (gN I t w u k) p (2 ^ p) ∧ J' 40 1 = hls m fee (gN I t w u k) p (2 ^ p) ∧ ∀ a, a ≠ 40 → J' a = K a) (n := 2 ^ p) (by omega) ?_ ?_ ⟨_, by rw [nI_0], rfl, rfl, fun a ha => by rw [up2_k _ _ ha, up2_k _ _ ha]⟩ (fun J' h => ⟨J', rfl, h.1, h.2.1, fun a h24 h40 h41 h42 => by rw [h.2.2 a h40, hK a h24 h41 h42]⟩)
  · rintro s x hs ⟨J', rfl, j0, j1, jk⟩
    have p1 : J' 1 4 = nI p := by rw [jk 1 (by decide)]; exact hp1
    have hx := e_kept (I := J') (s := s) (m := m) (fee := fee) (g := gN I t w u k) p1 b4 (by omega) (fun q hq => by rw [jk 42 (by decide)]; exact k42 q hq)
    by_cases z : kr m fee (gN I t w u k) p s = true
    · rw [if_pos z] at hx
      have e0 : hcn m fee (gN I t w u k) p (s + 1) = hcn m fee (gN I t w u k) p s + 1 := if_pos z
      have e1 : hls m fee (gN I t w u k) p (s + 1) = (if hls m fee (gN I t w u k) p s = -1 then nI s else hls m fee (gN I t w u k) p s) := if_pos z
      refine ⟨(nI (s + 1), up2 (up2 J' 40 0 (J' 40 0 + 1)) 40 1 (if hls m fee (gN I t w u k) p s = -1 then nI s else hls m fee (gN I t w u k) p s)), ?_, _, rfl, ?_, ?_, ?_⟩
      · rw [am_u2_s, p1, two_p p (by omega), if_neg (nI_ge hs (by omega)), hx, am_b1_s, if_neg (by decide), am_let_s, up2_j _ _ (show 1 ≠ 0 by decide), j1, am_let_s, nI_1]
        by_cases q : hls m fee (gN I t w u k) p s = -1
        · rw [if_pos q, if_pos q, am_let_s]
        · rw [if_neg q, if_neg q, am_let_s] <;> rfl
      · rw [up2_j _ _ (show 0 ≠ 1 by decide), up2_s, j0, e0]
      · rw [up2_s, e1]
      · intro a ha
        rw [up2_k _ _ ha, up2_k _ _ ha]; exact jk a ha
    · rw [if_neg z] at hx
      have e0 : hcn m fee (gN I t w u k) p (s + 1) = hcn m fee (gN I t w u k) p s := if_neg z
      have e1 : hls m fee (gN I t w u k) p (s + 1) = hls m fee (gN I t w u k) p s := if_neg z
      refine ⟨(nI (s + 1), J'), ?_, _, rfl, j0.trans e0.symm, j1.trans e1.symm, jk⟩
      rw [am_u2_s, p1, two_p p (by omega), if_neg (nI_ge hs (by omega)), hx, am_b1_s, if_pos rfl, am_let_s, nI_1]
  · rintro x ⟨J', rfl, j0, j1, jk⟩
    have p1 : J' 1 4 = nI p := by rw [jk 1 (by decide)]; exact hp1
    exact ⟨J', by rw [am_u2_s, p1, two_p p (by omega), if_pos (nI_le (Nat.le_refl _) (by omega))], j0, j1, jk⟩
theorem it_fw' {Z : Type} {f : Int32 → Int32 → Option ((Int32 × Int32) ⊕ Int32)} {k : Int32 → Option Z} {R : Option Z} {n : Nat} (g : Nat → Option Unit) (hn : n < 999999) (hs : ∀ i, i < n → f 1 (nI i) = some (.inl (if (g i).isNone = true then 1 else 0, nI (i + 1)))) (h0 : ∀ i, i ≤ n → f 0 (nI i) = some (.inr 0)) (he : f 1 (nI n) = some (.inr 1)) (hR : k (if (fs g 0 n).isNone = true then 1 else 0) = R) : am_b1 (am_it am_fu (am_u2 f) (1, 0)) k = R := by
  rw [it_fw g hn hs h0 he]; exact hR
theorem e_ho2 {I J : am_IT} {c w p t y d ln u k : Nat} (X : cx I c w p t y d ln) (S : sq I J) (h72 : ∀ u, u < 7 → J 72 u = I 72 u) (hu : u < w) (hk : k < c) {m fee a5 : Int32} (g3 : gr m 1 (nI p) = 1) (g4 : gr fee 0 9999 = 1) (g5 : gr a5 0 1 = 1) : ∃ L, F_X12_hope_55 J (nI u) (nI k) m fee a5 = some (if a5 = 0 then hcn m fee (gN I t w u k) p (2 ^ p) else hls m fee (gN I t w u k) p (2 ^ p), L) ∧ sm J L := by
  have b3 : w ≤ 7 := X.1.2.2.1
  have b4 : p ≤ 7 := X.1.2.2.2.1
  have b2 : c ≤ 4 := X.1.2.1
  have hpp : 2 ^ p ≤ 128 := (by decide : ∀ p, p < 8 → 2 ^ p ≤ 128) p (by omega)
  have S1 : sq I (up2 J 55 0 0) := sq_u 0 S rfl
  have hw2 : (up2 J 55 0 0) 55 4 = nI w := by rw [S1 55 4 rfl]; exact X.2.1.2.2.2.1.2
  have hc2 : (up2 J 55 0 0) 55 2 = nI c := by rw [S1 55 2 rfl]; exact X.2.1.1.2
  have hp2 : (up2 J 55 0 0) 55 5 = nI p := by rw [S1 55 5 rfl]; exact X.2.1.2.2.2.2.1.2
  have g1 : gd (nI u) w = 1 := by unfold gd; rw [if_neg (nI_pos (by omega)), if_neg (nI_ge hu (by omega))]
  have g2 : gd (nI k) c = 1 := by unfold gd; rw [if_neg (nI_pos (by omega)), if_neg (nI_ge hk (by omega))]
  obtain ⟨K, e, hy, hK⟩ := fy X S1
  have SK : sq I K := sq_x S1 (fun _ => rfl) hK
  have k72 : ∀ u, u < 7 → K 72 u = I 72 u := fun u hu => by rw [hK 72 (by decide)]; exact h72 u hu
  have smK : sm J K := fun a i ma => by
    rw [hK a (mt_ne (fun _ => rfl) ma)]
    unfold up2
    rw [if_neg (by rintro ⟨rfl, rfl⟩; exact absurd ma (by decide))]
  unfold F_X12_hope_55
  rw [am_let_s, gW2 (n := w) hw2, am_b1_s, g1, if_neg (by decide), gC2 (n := c) hc2, am_b1_s, g2, if_neg (by decide), gR2, hp2, am_b1_s, g3, if_neg (by decide), gR2, am_b1_s, g4, if_neg (by decide), gR2, am_b1_s, g5, if_neg (by decide), e, am_b1_s]
  refine it_b1_inv (R := fun z => ∃ L, z = some (if a5 = 0 then hcn m fee (gN I t w u k) p (2 ^ p) else hls m fee (gN I t w u k) p (2 ^ p), L) ∧ sm J L)
    (fun i x => ∃ J' : am_IT, x = (nI i, J') ∧ (∀ v, v < i → J' 72 (21 + v) = nI (if v = u then k else pN I v)) ∧ (∀ j, j < 7 → J' 72 j = K 72 j) ∧ ∀ a, a ≠ 72 → J' a = K a)
    (fun J' => (∀ v, v < w → J' 72 (21 + v) = nI (if v = u then k else pN I v)) ∧ (∀ j, j < 7 → J' 72 j = K 72 j) ∧ ∀ a, a ≠ 72 → J' a = K a) (n := w) (by omega) ?_ ?_ ⟨K, rfl, fun v hv => absurd hv (Nat.not_lt_zero v), fun _ _ => rfl, fun _ _ => rfl⟩ ?_
  · rintro v x hv ⟨J', rfl, j1, j2, j3⟩
    have w2 : J' 55 4 = nI w := by rw [j3 55 (by decide), SK 55 4 rfl]; exact X.2.1.2.2.2.1.2
    have e21 : (21 : Int32) + nI v = nI (21 + v) := nI_add 21 v
    refine ⟨(nI (v + 1), up2 J' 72 (21 + v) (nI (if v = u then k else pN I v))), ?_, _, rfl, ?_, ?_, ?_⟩
    · rw [am_u2_s, w2, if_neg (nI_ge hv (by omega)), e21, show (0 : Int32) + nI v = nI v from Int32.zero_add _, nI_1]
      by_cases z : v = u
      · rw [if_pos (congrArg nI z), if_pos (am_ix_nI (by omega) (by decide)), am_let_s, am_let_s, nI_clamp (by omega), if_pos z]
      · rw [if_neg (fun q => z ((nI_eq (by omega) (by omega)).mp q)), if_pos (am_ix_nI (by omega) (by decide)), if_pos (am_ix_nI (by omega) (by decide)), am_let_s, am_let_s, nI_clamp (by omega), nI_clamp (by omega), if_neg z, j2 v (by omega), k72 v (by omega), (pN_ok X hv).2.2]
    · intro q hq
      by_cases z : q = v
      · subst z; exact up2_s _ _ _ _
      · rw [up2_j _ _ (by omega)]; exact j1 q (by omega)
    · intro j hj
      rw [up2_j _ _ (by omega)]; exact j2 j hj
    · intro a ha
      rw [up2_k _ _ ha]; exact j3 a ha
  · rintro x ⟨J', rfl, j1, j2, j3⟩
    have w2 : J' 55 4 = nI w := by rw [j3 55 (by decide), SK 55 4 rfl]; exact X.2.1.2.2.2.1.2
    exact ⟨J', by rw [am_u2_s, w2, if_pos (nI_le (Nat.le_refl w) (by omega))], j1, j2, j3⟩
  rintro T ⟨t1, t2, t3⟩
  have ST : sq I T := sq_x SK (fun j => by unfold stc; simp) t3
  have smT : sm J T := sm_t smK (fun a i ma => by
    by_cases z : a = 72
    · subst z
      by_cases hi : i < 7
      · exact t2 i hi
      · exfalso
        unfold mt mtC at ma
        rw [decide_eq_false hi] at ma
        exact absurd ma (by simp)
    · rw [t3 a z])
  refine it_b1_inv (R := fun z => ∃ L, z = some (if a5 = 0 then hcn m fee (gN I t w u k) p (2 ^ p) else hls m fee (gN I t w u k) p (2 ^ p), L) ∧ sm J L)
    (fun i x => ∃ J' : am_IT, x = (nI i, J') ∧ (∀ q, q < i → J' 85 q = gN I t w u k q) ∧ ∀ a, a ≠ 85 → J' a = T a)
    (fun J' => (∀ q, q < p → J' 85 q = gN I t w u k q) ∧ ∀ a, a ≠ 85 → J' a = T a) (n := p) (by omega) ?_ ?_ ⟨T, rfl, fun v hv => absurd hv (Nat.not_lt_zero v), fun _ _ => rfl⟩ ?_
  · rintro q x hq ⟨J', rfl, j1, j3⟩
    have SJ : sq I J' := sq_x ST (fun _ => rfl) j3
    have p2 : J' 55 5 = nI p := by rw [SJ 55 5 rfl]; exact X.2.1.2.2.2.2.1.2
    have j83 : ∀ h u, h < 8 → u < w → J' 83 (7 * h + u) = cl0 (tS I h u t) := fun h u hh hu => by rw [j3 83 (by decide), t3 83 (by decide)]; exact hy h u hh hu
    refine ⟨(nI (q + 1), up2 J' 85 q (gN I t w u k q)), ?_, _, rfl, ?_, ?_⟩
    · have m1 := mT X SJ j83 (off := 21) (by omega) (P := fun v => if v = u then k else pN I v) (fun v hv => by
        rw [j3 72 (by decide)]
        refine ⟨t1 v hv, ?_⟩
        have := (hP3 X (J := I) rfl v hv).2
        by_cases z : v = u
        · rw [if_pos z]; omega
        · rw [if_neg z]; exact this) hq
      have m2 := mT X SJ j83 (off := 0) (by omega) (hP72 X (fun v hv => by rw [j3 72 (by decide), t2 v hv]; exact k72 v hv)) hq
      rw [am_u2_s, p2, if_neg (nI_ge hq (by omega)), show F_X12_worthOf_55 J' (nI q) (21 : Int32) = _ from m1, am_b1_s, show F_X12_worthOf_55 J' (nI q) (0 : Int32) = _ from m2, am_b1_s, if_pos (am_ix_nI (by omega) (by decide)), am_let_s, am_let_s, nI_clamp (by omega), nI_1]
      rfl
    · intro r hr
      by_cases z : r = q
      · subst z; exact up2_s _ _ _ _
      · rw [up2_j _ _ z]; exact j1 r (by omega)
    · intro a ha
      rw [up2_k _ _ ha]; exact j3 a ha
  · rintro x ⟨J', rfl, j1, j3⟩
    have SJ : sq I J' := sq_x ST (fun _ => rfl) j3
    have p2 : J' 55 5 = nI p := by rw [SJ 55 5 rfl]; exact X.2.1.2.2.2.2.1.2
    exact ⟨J', by rw [am_u2_s, p2, if_pos (nI_le (Nat.le_refl p) (by omega))], j1, j3⟩
  rintro U ⟨u1, u3⟩
  have SU : sq I U := sq_x ST (fun _ => rfl) u3
  have p2 : U 55 5 = nI p := by rw [SU 55 5 rfl]; exact X.2.1.2.2.2.2.1.2
  refine ⟨U, ?_, sm_t smT (fun a i ma => by rw [u3 a (mt_ne (fun _ => rfl) ma)])⟩
  refine it_u3b2 (fun s => hcn m fee (gN I t w u k) p s) (fun s => hls m fee (gN I t w u k) p s) (fun s => nI s) (n := 2 ^ p) (e1 := hcn m fee (gN I t w u k) p (2 ^ p)) (e2 := hls m fee (gN I t w u k) p (2 ^ p)) rfl (by omega) (fun s hs => ?_) ?_ ?_
  · rw [p2, two_p p (by omega), if_neg (nI_ge hs (by omega)), e_ones U (by omega), am_b1_s]
    refine it_fw' (n := p) (kq m fee (gN I t w u k) s) (by omega) (fun q hq => ?_) (fun q hq => ?_) ?_ ?_
    · have hx : am_ix (nI q) 7 = true := am_ix_nI (by omega) (by decide)
      rw [if_neg (nI_ge hq (by omega)), if_neg (show ¬ (1 : Int32) = 0 by decide), nI_clamp (by omega), u1 q hq, nI_1 q]
      unfold kq kc
      by_cases hb : ((nI s >>> (nI q &&& 31)) &&& (1 : Int32)) = 1
      · rw [if_pos hb, am_b1_s, if_pos hx, if_pos hb, ite_s, am_b1_s, if_neg (show ¬ (1 : Int32) = 0 by decide), am_b1_s, am_let_s, if_neg (show ¬ (1 : Int32) = 0 by decide), am_b1_s, ite_s, am_b1_s, if_neg (show ¬ (1 : Int32) = 0 by decide), am_b1_s, Int32.sub_zero, am_let_s, am_let_s]
        by_cases z : (if nI (bcn s) - 1 < m then 0 else gN I t w u k q) ≤ (if nI (bcn s) < m then 0 else gN I t w u k q) - fee
        · rw [if_neg (Int32.not_lt.mpr z), if_pos (decide_eq_true z)]; rfl
        · rw [if_pos (Int32.not_le.mp z), if_neg (by rw [decide_eq_false z]; decide)] <;> rfl
      · rw [if_neg hb, am_b1_s, if_pos hx, if_neg hb, ite_s, am_b1_s, if_pos (show (0 : Int32) = 0 from rfl), am_b1_s, Int32.sub_zero, am_let_s, if_pos (show (0 : Int32) = 0 from rfl), am_b1_s, ite_s, am_b1_s, if_pos (show (0 : Int32) = 0 from rfl), am_b1_s, am_let_s, am_let_s]
        by_cases z : (if nI (bcn s) + 1 < m then 0 else gN I t w u k q) - fee ≤ (if nI (bcn s) < m then 0 else gN I t w u k q)
        · rw [if_neg (Int32.not_lt.mpr z), if_pos (decide_eq_true z)]; rfl
        · rw [if_pos (Int32.not_le.mp z), if_neg (by rw [decide_eq_false z]; decide)] <;> rfl
    · by_cases z : q = p
      · rw [z, if_pos (nI_le (Nat.le_refl p) (by omega))]
      · rw [if_neg (nI_ge (show q < p by omega) (by omega)), if_pos (show (0 : Int32) = 0 from rfl)]
    · rw [if_pos (nI_le (Nat.le_refl p) (by omega))]
    · by_cases z : kr m fee (gN I t w u k) p s = true
      · have e0 : hcn m fee (gN I t w u k) p (s + 1) = hcn m fee (gN I t w u k) p s + 1 := if_pos z
        have e1 : hls m fee (gN I t w u k) p (s + 1) = (if hls m fee (gN I t w u k) p s = -1 then nI s else hls m fee (gN I t w u k) p s) := if_pos z
        rw [if_pos (show (fs (kq m fee (gN I t w u k) s) 0 p).isNone = true from z), if_neg (show ¬ (1 : Int32) = 0 by decide), am_let_s, am_let_s, am_let_s, nI_1, e0, e1]
        by_cases q : hls m fee (gN I t w u k) p s = -1
        · rw [if_pos q, if_pos q]
        · rw [if_neg q, if_neg q]
      · have e0 : hcn m fee (gN I t w u k) p (s + 1) = hcn m fee (gN I t w u k) p s := if_neg z
        have e1 : hls m fee (gN I t w u k) p (s + 1) = hls m fee (gN I t w u k) p s := if_neg z
        rw [if_neg (show ¬ (fs (kq m fee (gN I t w u k) s) 0 p).isNone = true from z), if_pos (show (0 : Int32) = 0 from rfl), am_let_s, nI_1, e0, e1]
  · rw [p2, two_p p (by omega), if_pos (nI_le (Nat.le_refl _) (by omega))]
  · by_cases q : a5 = 0
    · rw [if_pos q, if_pos q]
    · rw [if_neg q, if_neg q]
theorem op_23 : am_op23 RI := by
  intro b I a1 a2 a3 a4 a5 hR
  have hR0 := hR
  obtain ⟨c, w, p, t, y, d, ln, n, X, -, -, -⟩ := hR
  have hc1 : I 1 0 = nI c := X.2.1.1.1
  have hc2 : I 55 2 = nI c := X.2.1.1.2
  have hw1 : I 1 3 = nI w := X.2.1.2.2.2.1.1
  have hw2 : I 55 4 = nI w := X.2.1.2.2.2.1.2
  have hp1 : I 1 4 = nI p := X.2.1.2.2.2.2.1.1
  have hp2 : I 55 5 = nI p := X.2.1.2.2.2.2.1.2
  have b3 : w ≤ 7 := X.1.2.2.1
  have b2 : c ≤ 4 := X.1.2.1
  have no : F_X11_hope_0 I a1 a2 a3 a4 a5 = some (-10, I) → F_X12_hope_55 I a1 a2 a3 a4 a5 = some (-10, up2 I 55 0 0) → ∃ (r : Int32) (I1 : am_IT) (I2 : am_IT), F_X11_hope_0 I a1 a2 a3 a4 a5 = some (r, I1) ∧ F_X12_hope_55 I1 a1 a2 a3 a4 a5 = some (r, I2) ∧ RI b I2 := fun h1 h2 => ⟨_, I, _, h1, h2, RI_sm (sm_u 0 rfl) hR0⟩
  have q2 : (up2 I 55 0 0) 55 5 = nI p := hp2
  rcases gd_cases a1 (n := w) (by omega) with g1 | ⟨g1, u, hu, rfl⟩
  · refine no ?_ ?_
    · unfold F_X11_hope_0; rw [gW1 (n := w) hw1, am_b1_s, g1, if_pos rfl]
    · unfold F_X12_hope_55; rw [am_let_s, gW2 (I := up2 I 55 0 0) (n := w) hw2, am_b1_s, g1, if_pos rfl]
  rcases gd_cases a2 (n := c) (by omega) with g2 | ⟨g2, k, hk, rfl⟩
  · refine no ?_ ?_
    · unfold F_X11_hope_0; rw [gW1 (n := w) hw1, am_b1_s, g1, if_neg (by decide), gC1 (n := c) hc1, am_b1_s, g2, if_pos rfl]
    · unfold F_X12_hope_55; rw [am_let_s, gW2 (I := up2 I 55 0 0) (n := w) hw2, am_b1_s, g1, if_neg (by decide), gC2 (I := up2 I 55 0 0) (n := c) hc2, am_b1_s, g2, if_pos rfl]
  rcases gr01 a3 1 (nI p) with g3 | g3
  · refine no ?_ ?_
    · unfold F_X11_hope_0; rw [gW1 (n := w) hw1, am_b1_s, g1, if_neg (by decide), gC1 (n := c) hc1, am_b1_s, g2, if_neg (by decide), gR1, hp1, am_b1_s, g3, if_pos rfl]
    · unfold F_X12_hope_55; rw [am_let_s, gW2 (I := up2 I 55 0 0) (n := w) hw2, am_b1_s, g1, if_neg (by decide), gC2 (I := up2 I 55 0 0) (n := c) hc2, am_b1_s, g2, if_neg (by decide), gR2, q2, am_b1_s, g3, if_pos rfl]
  rcases gr01 a4 0 9999 with g4 | g4
  · refine no ?_ ?_
    · unfold F_X11_hope_0; rw [gW1 (n := w) hw1, am_b1_s, g1, if_neg (by decide), gC1 (n := c) hc1, am_b1_s, g2, if_neg (by decide), gR1, hp1, am_b1_s, g3, if_neg (by decide), gR1, am_b1_s, g4, if_pos rfl]
    · unfold F_X12_hope_55; rw [am_let_s, gW2 (I := up2 I 55 0 0) (n := w) hw2, am_b1_s, g1, if_neg (by decide), gC2 (I := up2 I 55 0 0) (n := c) hc2, am_b1_s, g2, if_neg (by decide), gR2, q2, am_b1_s, g3, if_neg (by decide), gR2, am_b1_s, g4, if_pos rfl]
  rcases gr01 a5 0 1 with g5 | g5
  · refine no ?_ ?_
    · unfold F_X11_hope_0; rw [gW1 (n := w) hw1, am_b1_s, g1, if_neg (by decide), gC1 (n := c) hc1, am_b1_s, g2, if_neg (by decide), gR1, hp1, am_b1_s, g3, if_neg (by decide), gR1, am_b1_s, g4, if_neg (by decide), gR1, am_b1_s, g5, if_pos rfl]
    · unfold F_X12_hope_55; rw [am_let_s, gW2 (I := up2 I 55 0 0) (n := w) hw2, am_b1_s, g1, if_neg (by decide), gC2 (I := up2 I 55 0 0) (n := c) hc2, am_b1_s, g2, if_neg (by decide), gR2, q2, am_b1_s, g3, if_neg (by decide), gR2, am_b1_s, g4, if_neg (by decide), gR2, am_b1_s, g5, if_pos rfl]
  obtain ⟨K, e, k0, k1, kk⟩ := e_cons X (sq_r I) rfl hu hk a3 a4
  have sK : sm I K := fun a i ma => by
    rw [kk a (mt_ne (fun _ => rfl) ma) (mt_ne (fun _ => rfl) ma) (mt_ne (fun _ => rfl) ma) (mt_ne (fun _ => rfl) ma)]
  obtain ⟨L, e2, sL⟩ := e_ho2 X (sq_of sK) (fun v _ => by rw [kk 72 (by decide) (by decide) (by decide) (by decide)]) hu hk g3 g4 g5
  refine ⟨_, K, L, ?_, e2, RI_sm (sm_t sK sL) hR0⟩
  unfold F_X11_hope_0
  rw [gW1 (n := w) hw1, am_b1_s, g1, if_neg (by decide), gC1 (n := c) hc1, am_b1_s, g2, if_neg (by decide), gR1, hp1, am_b1_s, g3, if_neg (by decide), gR1, am_b1_s, g4, if_neg (by decide), gR1, am_b1_s, g5, if_neg (by decide), e, am_b1_s, k0, k1]
  by_cases q : a5 = 0
  · rw [if_pos q, if_pos q]
  · rw [if_neg q, if_neg q]
