/-! must -/
theorem e_tor {J : am_IT} {M : Nat → Nat → Bool} {c : Nat} (hc : c ≤ 4) (h : ∀ a b, a < 4 → b < 4 → J 17 (4 * a + b) = b2i (M a b)) (hz : ∀ x, c ≤ x → M x x = false) : F_X1_isTorn_15 J = some (b2i ((List.range c).any (fun x => M x x))) := by
  unfold F_X1_isTorn_15
  refine it_fs (n := 4) (e0 := (0 : Int32)) nI_0.symm (fun x => if M x x = true then some () else none) (fun _ => (1 : Int32)) (Nat.zero_le _) (by omega) (fun x _ hx => ?_) ?_ ?_
  · rw [if_neg (show ¬ (4 : Int32) ≤ nI x from nI_ge (a := x) (b := 4) hx (by decide)), e_ia hx hx (h x x hx hx), am_b1_s, nI_1]
    cases M x x with
    | false => rw [if_pos (show b2i false = 0 from rfl), am_let_s, if_neg (by decide)]; rfl
    | true => rw [if_neg (show ¬ b2i true = 0 by decide), if_pos rfl]; rfl
  · rw [if_pos (show (4 : Int32) ≤ nI 4 by decide)]
  · rw [Nat.sub_zero]
    cases hv : fs (fun x => if M x x = true then some () else none) 0 4 with
    | none =>
      rw [fe_n]
      have hno : ∀ x, x < c → M x x = false := by
        intro x hx
        cases hm : M x x with
        | false => rfl
        | true =>
          obtain ⟨y, hy⟩ := fs_ex (g := fun x => if M x x = true then some () else none) 4 0 x () (Nat.zero_le _) (by omega) (if_pos hm)
          rw [hy] at hv; cases hv
      have : (List.range c).any (fun x => M x x) = false := by
        rw [List.any_eq_false]
        intro x hx
        rw [hno x (List.mem_range.mp hx)]; decide
      rw [this]; rfl
    | some z =>
      rw [fe_s]
      obtain ⟨x, -, h2, h3⟩ := fs_in hv
      have hm : M x x = true := by
        by_cases q : M x x = true
        · exact q
        · rw [if_neg q] at h3; cases h3
      have hxc : x < c := by
        rcases Nat.lt_or_ge x c with q | q
        · exact q
        · rw [hz x q] at hm; cases hm
      have : (List.range c).any (fun x => M x x) = true := List.any_eq_true.mpr ⟨x, List.mem_range.mpr hxc, hm⟩
      rw [this]; rfl
theorem op_27 : am_op27 RI := by
  intro b I a1 a2 a3 hR
  have hR0 := hR
  obtain ⟨c, w, p, t, y, d, ln, n, X, -, -, -⟩ := hR
  have hc1 : I 1 0 = nI c := X.2.1.1.1
  have hc2 : I 55 2 = nI c := X.2.1.1.2
  have hp1 : I 1 4 = nI p := X.2.1.2.2.2.2.1.1
  have hp2 : I 55 5 = nI p := X.2.1.2.2.2.2.1.2
  have hd2 : I 55 18 = nI d := X.2.1.2.2.2.2.2.2.2.2
  have b1 : 2 ≤ c := X.1.1
  have b2 : c ≤ 4 := X.1.2.1
  have b4 : p ≤ 7 := X.1.2.2.2.1
  have b7 : d ≤ 40 := X.1.2.2.2.2.2.2.1
  have rde : rDeed c p d (I 16) (I 67) (I 68) (I 69) := X.2.2.2.2.2.2.2.2.2.2.2.1
  have no : F_X11_must_0 I a1 a2 a3 = some (-1, I) → F_X12_must_55 I a1 a2 a3 = some (-1, up2 I 55 0 0) → ∃ (r : Int32) (I1 : am_IT) (I2 : am_IT), F_X11_must_0 I a1 a2 a3 = some (r, I1) ∧ F_X12_must_55 I1 a1 a2 a3 = some (r, I2) ∧ RI b I2 := fun h1 h2 => ⟨_, I, _, h1, h2, RI_sm (sm_u 0 rfl) hR0⟩
  rcases gd_cases a1 (n := p) (by omega) with g1 | ⟨g1, q, hq, rfl⟩
  · refine no ?_ ?_
    · unfold F_X11_must_0; rw [gP1 (n := p) hp1, am_b1_s, g1, if_pos rfl]
    · unfold F_X12_must_55; rw [am_let_s, gP2 (I := up2 I 55 0 0) (n := p) hp2, am_b1_s, g1, if_pos rfl]
  rcases gd_cases a2 (n := c) (by omega) with g2 | ⟨g2, a, ha, rfl⟩
  · refine no ?_ ?_
    · unfold F_X11_must_0; rw [gP1 (n := p) hp1, am_b1_s, g1, if_neg (by decide), gC1 (n := c) hc1, am_b1_s, g2, if_pos rfl]
    · unfold F_X12_must_55; rw [am_let_s, gP2 (I := up2 I 55 0 0) (n := p) hp2, am_b1_s, g1, if_neg (by decide), gC2 (I := up2 I 55 0 0) (n := c) hc2, am_b1_s, g2, if_pos rfl]
  rcases gd_cases a3 (n := c) (by omega) with g3 | ⟨g3, e, he, rfl⟩
  · refine no ?_ ?_
    · unfold F_X11_must_0; rw [gP1 (n := p) hp1, am_b1_s, g1, if_neg (by decide), gC1 (n := c) hc1, am_b1_s, g2, if_neg (by decide), gC1 (n := c) hc1, am_b1_s, g3, if_pos rfl]
    · unfold F_X12_must_55; rw [am_let_s, gP2 (I := up2 I 55 0 0) (n := p) hp2, am_b1_s, g1, if_neg (by decide), gC2 (I := up2 I 55 0 0) (n := c) hc2, am_b1_s, g2, if_neg (by decide), gC2 (I := up2 I 55 0 0) (n := c) hc2, am_b1_s, g3, if_pos rfl]
  obtain ⟨w0, hw0⟩ : ∃ w0 : Nat → Nat → Bool, w0 = fun x y => decide (x < 4) && (decide (y < 4) && decide (I 16 (16 * q + 4 * x + y) = 1)) := ⟨_, rfl⟩
  have h0 : ∀ x y, x < 4 → y < 4 → (w0 x y = true ↔ ∃ k, k < d ∧ I 67 k = nI q ∧ I 68 k = nI x ∧ I 69 k = nI y) := by
    intro x y hx hy
    rw [hw0]
    obtain ⟨r1, r2⟩ := rde.2 q x y (by omega) hx hy
    show (decide (x < 4) && (decide (y < 4) && decide (I 16 (16 * q + 4 * x + y) = 1))) = true ↔ _
    rw [decide_eq_true hx, decide_eq_true hy, Bool.true_and, Bool.true_and, decide_eq_true_iff]
    constructor
    · intro h
      refine Classical.byContradiction fun hn => ?_
      rw [r2 hn] at h
      exact absurd h (by decide)
    · exact r1
  have h16 : ∀ x y, x < 4 → y < 4 → I 16 (16 * q + 4 * x + y) = b2i (w0 x y) := by
    intro x y hx hy
    obtain ⟨r1, r2⟩ := rde.2 q x y (by omega) hx hy
    cases hv : w0 x y with
    | true => exact r1 ((h0 x y hx hy).mp hv)
    | false => exact r2 (fun h => by rw [(h0 x y hx hy).mpr h] at hv; cases hv)
  have hlt : ∀ x y, w0 x y = true → x < c ∧ y < c := by
    intro x y h
    have h' := h
    rw [hw0] at h'
    have h4 : x < 4 ∧ y < 4 := by
      have e1 := (Bool.and_eq_true _ _).mp h'
      have e2 := (Bool.and_eq_true _ _).mp e1.2
      exact ⟨of_decide_eq_true e1.1, of_decide_eq_true e2.1⟩
    obtain ⟨k, hk, e67, e68, e69⟩ := (h0 x y h4.1 h4.2).mp h
    obtain ⟨r, x1, y1, hr, hx1, hy1, -, f67, f68, f69⟩ := rde.1 k hk
    rw [f68] at e68
    rw [f69] at e69
    have ex := (nI_eq (by omega) (by omega)).mp e68
    have ey := (nI_eq (by omega) (by omega)).mp e69
    omega
  obtain ⟨K, eK, k17, kk⟩ := e_fo (J := I) (q := q) (by omega) w0 h16
  have SK : sm I K := fun a i ma => by rw [kk a (mt_ne (fun _ => rfl) ma)]
  have k55 : K 55 = I 55 := kk 55 (by decide)
  obtain ⟨L, eL, l1, l2⟩ := e_mu (J := K) (c := c) (p := p) (d := d) (q := q) (a := a) (b := e) (w0 := w0) b1 b2 b4 b7 hq ha he (by rw [k55]; exact hp2) (by rw [k55]; exact hc2) (by rw [k55]; exact hd2) hlt (fun k hk => by
    obtain ⟨r, x1, y1, hr, hx1, hy1, -, f67, f68, f69⟩ := rde.1 k hk
    rw [kk 67 (by decide), kk 68 (by decide), kk 69 (by decide)]
    exact ⟨r, x1, y1, by omega, hx1, hy1, f67, f68, f69⟩) (by rw [kk 67 (by decide), kk 68 (by decide), kk 69 (by decide)]; exact h0)
  have SL : sm K L := fun a i ma => by
    by_cases z : a = 55
    · subst z
      exact l2 i (by rintro rfl; exact absurd ma (by decide))
    · rw [l1 a z (mt_ne (fun _ => rfl) ma)]
  refine ⟨b2i (must2 w0 c a e), K, L, ?_, eL, RI_sm (sm_t SK SL) hR0⟩
  unfold F_X11_must_0
  rw [gP1 (n := p) hp1, am_b1_s, g1, if_neg (by decide), gC1 (n := c) hc1, am_b1_s, g2, if_neg (by decide), gC1 (n := c) hc1, am_b1_s, g3, if_neg (by decide), eK, am_b1_s]
  unfold must2
  by_cases z : a = e
  · rw [if_pos (congrArg nI z), if_pos z, e_tor b2 k17 (fun x hx => by
      cases hv : Wk w0 4 x x with
      | false => rfl
      | true => have := (Wk_lt hlt 4 x x hv).1; omega), am_b1_s, am_b1_s]
    cases (List.range c).any (fun x => Wk w0 4 x x) <;> rfl
  · rw [if_neg (fun q => z ((nI_eq (by omega) (by omega)).mp q)), if_neg z, e_ia (by omega) (by omega) (k17 a e (by omega) (by omega)), am_b1_s, am_b1_s]
    cases Wk w0 4 a e <;> rfl
