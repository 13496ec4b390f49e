/-! the best painting: sums, pots, the greatest of many -/
def so (g : Nat → Int32) (lf : Nat) : Nat → Int32
  | 0 => 0
  | p + 1 => if p = lf then so g lf p else so g lf p + g p
theorem so_c {g h : Nat → Int32} {lf : Nat} : ∀ n, (∀ p, p < n → g p = h p) → so g lf n = so h lf n
  | 0, _ => rfl
  | n + 1, e => by
    unfold so
    rw [so_c n (fun p hp => e p (by omega)), e n (by omega)]
theorem so_b {g : Nat → Int32} {lf M : Nat} (hM : M < 100000) : ∀ n, n ≤ 7 → (∀ p, p < n → ab M (g p)) → ab (M * n) (so g lf n)
  | 0, _, _ => ab_0
  | n + 1, hn, h => by
    have ih := so_b (lf := lf) hM n (by omega) (fun p hp => h p (by omega))
    have e : M * (n + 1) = M * n + M := Nat.mul_succ M n
    have e2 : M * n ≤ M * 6 := Nat.mul_le_mul_left M (by omega)
    unfold so
    rw [e]
    split
    · exact ab_le ih (by omega)
    · exact ab_add ih (h n (by omega)) (by omega)
theorem so_m {g : Nat → Int32} {lf : Nat} : ∀ n, n ≤ lf → so g lf n = so g 100 n ∨ 100 < n
  | 0, _ => Or.inl rfl
  | n + 1, h => by
    rcases so_m (g := g) (lf := lf) n (by omega) with e | e
    · by_cases z : n = 100
      · exact Or.inr (by omega)
      · refine Or.inl ?_
        unfold so
        rw [if_neg (by omega), if_neg z, e]
    · exact Or.inr (by omega)
/-- all but one, and that one -/
theorem so_1 {g : Nat → Int32} {lf : Nat} : ∀ n, n ≤ 7 → lf < n → so g lf n = so g 100 n - g lf
  | 0, _, h => by omega
  | n + 1, hn, h => by
    unfold so
    rw [if_neg (show ¬ n = 100 by omega)]
    by_cases z : n = lf
    · subst z
      rw [if_pos rfl]
      rcases so_m (g := g) n (Nat.le_refl n) with e | e
      · rw [e]; grind
      · omega
    · rw [if_neg z, so_1 n (by omega) (by omega)]; grind
/-- a wall's worth beside those before it; of all -/
def wn (A G : Nat → Nat → Int32) (P : Nat → Nat) (u k : Nat) : Nat → Int32
  | 0 => A u k
  | v + 1 => if P v = k then wn A G P u k v + G u v else wn A G P u k v
def w2s (A G : Nat → Nat → Int32) (P : Nat → Nat) : Nat → Int32
  | 0 => 0
  | u + 1 => w2s A G P u + wn A G P u (P u) u
theorem wn_c {A G A' G' : Nat → Nat → Int32} {P P' : Nat → Nat} {u k : Nat} (hA : A u k = A' u k) : ∀ v, (∀ x, x < v → G u x = G' u x ∧ P x = P' x) → wn A G P u k v = wn A' G' P' u k v
  | 0, _ => hA
  | v + 1, h => by
    unfold wn
    rw [wn_c hA v (fun x hx => h x (by omega)), (h v (by omega)).1, (h v (by omega)).2]
theorem w2s_c {A G A' G' : Nat → Nat → Int32} {P P' : Nat → Nat} : ∀ w, (∀ u, u < w → P u = P' u ∧ A u (P u) = A' u (P u) ∧ ∀ v, v < u → G u v = G' u v) → w2s A G P w = w2s A' G' P' w
  | 0, _ => rfl
  | w + 1, h => by
    obtain ⟨h1, h2, h3⟩ := h w (by omega)
    unfold w2s
    rw [w2s_c w (fun u hu => h u (by omega)), ← h1, wn_c (A' := A') (G' := G') (P' := P') h2 w (fun x hx => ⟨h3 x hx, (h x (by omega)).1⟩)]
theorem wn_a {A G B H : Nat → Nat → Int32} {P : Nat → Nat} {u k : Nat} : ∀ v, wn (fun u k => A u k + B u k) (fun u v => G u v + H u v) P u k v = wn A G P u k v + wn B H P u k v
  | 0 => rfl
  | v + 1 => by
    unfold wn
    rw [wn_a v]
    split
    · grind
    · rfl
theorem w2s_a {A G B H : Nat → Nat → Int32} {P : Nat → Nat} : ∀ w, w2s (fun u k => A u k + B u k) (fun u v => G u v + H u v) P w = w2s A G P w + w2s B H P w
  | 0 => (Int32.add_zero 0).symm
  | w + 1 => by
    unfold w2s
    rw [w2s_a w, wn_a w]
    grind
theorem wn_0 {P : Nat → Nat} {u k : Nat} : ∀ v, wn (fun _ _ => 0) (fun _ _ => 0) P u k v = 0
  | 0 => rfl
  | v + 1 => by
    unfold wn
    rw [wn_0 v]
    split
    · exact Int32.add_zero 0
    · rfl
theorem w2s_0 {P : Nat → Nat} : ∀ w, w2s (fun _ _ => 0) (fun _ _ => 0) P w = 0
  | 0 => rfl
  | w + 1 => by
    unfold w2s
    rw [w2s_0 w, wn_0 w]; rfl
theorem w2s_so {A G : Nat → Nat → Nat → Int32} {P : Nat → Nat} {lf w : Nat} : ∀ n, w2s (fun u k => so (fun p => A p u k) lf n) (fun u v => so (fun p => G p u v) lf n) P w = so (fun p => w2s (A p) (G p) P w) lf n
  | 0 => w2s_0 w
  | n + 1 => by
    by_cases z : n = lf
    · have e1 : (fun u k => so (fun p => A p u k) lf (n + 1)) = (fun u k => so (fun p => A p u k) lf n) := by funext u k; exact if_pos z
      have e2 : (fun u k => so (fun p => G p u k) lf (n + 1)) = (fun u k => so (fun p => G p u k) lf n) := by funext u k; exact if_pos z
      rw [e1, e2, w2s_so n]
      exact (if_pos z).symm
    · have e1 : (fun u k => so (fun p => A p u k) lf (n + 1)) = (fun u k => so (fun p => A p u k) lf n + A n u k) := by funext u k; exact if_neg z
      have e2 : (fun u k => so (fun p => G p u k) lf (n + 1)) = (fun u k => so (fun p => G p u k) lf n + G n u k) := by funext u k; exact if_neg z
      rw [e1, e2, w2s_a w, w2s_so n]
      exact (if_neg z).symm
theorem wI_wn {Y N T : Nat → Int32} {B : Int32} {P : Nat → Nat} {u : Nat} {x : Int32} : ∀ v, wI Y P N B u (x + Y u * T (P u)) v = x + wn (fun u k => Y u * T k) (fun u v => tw2 Y N B u v) P u (P u) v
  | 0 => rfl
  | v + 1 => by
    show (if P u = P v then wI Y P N B u _ v + tw2 Y N B u v else wI Y P N B u _ v) = x + (if P v = P u then wn (fun u k => Y u * T k) (fun u v => tw2 Y N B u v) P u (P u) v + tw2 Y N B u v else wn (fun u k => Y u * T k) (fun u v => tw2 Y N B u v) P u (P u) v)
    rw [wI_wn v]
    by_cases z : P u = P v
    · rw [if_pos z, if_pos z.symm]; grind
    · rw [if_neg z, if_neg (fun e => z e.symm)]
theorem wS_w2 {Y N T : Nat → Int32} {B : Int32} {P : Nat → Nat} : ∀ w, wS Y P T N B w = w2s (fun u k => Y u * T k) (fun u v => tw2 Y N B u v) P w
  | 0 => rfl
  | w + 1 => by
    show wI Y P N B w (wS Y P T N B w + Y w * T (P w)) w = w2s _ _ P w + _
    rw [wI_wn w, wS_w2 w]
/-! pots -/
def um (P : Nat → Nat) : Nat → Nat
  | 0 => 0
  | u + 1 => um P u ||| 2 ^ P u
def ps (pot : Nat → Int32) (P : Nat → Nat) : Nat → Int32
  | 0 => 0
  | u + 1 => ps pot P u + (if (um P u).testBit (P u) = true then 0 else pot (P u))
def rp (pot : Nat → Int32) (m : Nat) : Nat → Int32
  | 0 => 0
  | k + 1 => if m.testBit k = true then rp pot m k + pot k else rp pot m k
theorem um_16 {P : Nat → Nat} : ∀ i, (∀ u, u < i → P u < 4) → um P i < 16
  | 0, _ => (by decide : 0 < 16)
  | i + 1, h => Nat.or_lt_two_pow (n := 4) (um_16 i (fun u hu => h u (by omega))) (Nat.pow_lt_pow_right (by decide) (h i (by omega)))
theorem um_c {P P' : Nat → Nat} : ∀ i, (∀ u, u < i → P u = P' u) → um P i = um P' i
  | 0, _ => rfl
  | i + 1, h => by
    unfold um
    rw [um_c i (fun u hu => h u (by omega)), h i (by omega)]
theorem ps_c {pot : Nat → Int32} {P P' : Nat → Nat} : ∀ i, (∀ u, u < i → P u = P' u) → ps pot P i = ps pot P' i
  | 0, _ => rfl
  | i + 1, h => by
    unfold ps
    rw [ps_c i (fun u hu => h u (by omega)), um_c i (fun u hu => h u (by omega)), h i (by omega)]
theorem ps_b {pot : Nat → Int32} {P : Nat → Nat} (hp : ∀ k, k < 4 → ab 999 (pot k)) : ∀ i, i ≤ 7 → (∀ u, u < i → P u < 4) → ab (999 * i) (ps pot P i)
  | 0, _, _ => ab_0
  | i + 1, hi, h => by
    have ih := ps_b hp i (by omega) (fun u hu => h u (by omega))
    unfold ps
    split
    · exact ab_le (ab_add ih ab_0 (by omega)) (by omega)
    · exact ab_le (ab_add ih (hp _ (h i (by omega))) (by omega)) (by omega)
theorem tb_or (m k j : Nat) : (m ||| 2 ^ k).testBit j = if j = k then true else m.testBit j := by
  rw [Nat.testBit_or, Nat.testBit_two_pow]
  by_cases h : j = k
  · rw [if_pos h, decide_eq_true h.symm, Bool.or_true]
  · rw [if_neg h, decide_eq_false (fun e => h e.symm), Bool.or_false]
theorem rp_hi {pot : Nat → Int32} {m k : Nat} : ∀ c, c ≤ k → rp pot (m ||| 2 ^ k) c = rp pot m c
  | 0, _ => rfl
  | c + 1, h => by
    unfold rp
    rw [rp_hi c (by omega), tb_or, if_neg (show ¬ c = k by omega)]
theorem rp_lo {pot : Nat → Int32} {m k : Nat} : ∀ c, k < c → rp pot (m ||| 2 ^ k) c = rp pot m c + (if m.testBit k = true then 0 else pot k)
  | 0, h => by omega
  | c + 1, h => by
    unfold rp
    rw [tb_or]
    by_cases z : c = k
    · subst z
      rw [if_pos rfl, if_pos rfl, rp_hi c (Nat.le_refl c)]
      by_cases z2 : m.testBit c = true
      · rw [if_pos z2, if_pos z2, Int32.add_zero]
      · rw [if_neg z2, if_neg z2]
    · rw [if_neg z, rp_lo c (by omega)]
      by_cases z2 : m.testBit c = true
      · rw [if_pos z2, if_pos z2]; grind
      · rw [if_neg z2, if_neg z2]
theorem rp_0 {pot : Nat → Int32} : ∀ c, rp pot 0 c = 0
  | 0 => rfl
  | c + 1 => by
    unfold rp
    rw [rp_0 c, Nat.zero_testBit, if_neg (by decide)]
theorem rp_ps {pot : Nat → Int32} {P : Nat → Nat} {c : Nat} : ∀ i, (∀ u, u < i → P u < c) → rp pot (um P i) c = ps pot P i
  | 0, _ => rp_0 c
  | i + 1, h => by
    show rp pot (um P i ||| 2 ^ P i) c = ps pot P i + _
    rw [rp_lo c (h i (by omega)), rp_ps i (fun u hu => h u (by omega))]
theorem bt_m : ∀ k, k < 4 → ∀ m, m < 16 → ((nI m >>> (nI k &&& 31)) &&& (1 : Int32)) = if m.testBit k = true then 1 else 0 := by decide +kernel
theorem bt_o : ∀ k, k < 4 → ∀ m, m < 16 → (nI m ||| ((1 : Int32) <<< (nI k &&& 31))) = nI (m ||| 2 ^ k) := by decide +kernel
/-! the greatest -/
def mxv (f : Nat → Int32) : Nat → Int32
  | 0 => -2147483648
  | n + 1 => if f n ≤ mxv f n then mxv f n else f n
def mxi (f : Nat → Int32) : Nat → Nat
  | 0 => 0
  | n + 1 => if f n ≤ mxv f n then mxi f n else n
theorem mxv_c {f g : Nat → Int32} : ∀ n, (∀ i, i < n → f i = g i) → mxv f n = mxv g n ∧ mxi f n = mxi g n
  | 0, _ => ⟨rfl, rfl⟩
  | n + 1, h => by
    obtain ⟨h1, h2⟩ := mxv_c n (fun i hi => h i (by omega))
    unfold mxv mxi
    rw [h1, h2, h n (by omega)]
    exact ⟨rfl, rfl⟩
theorem mxi_lt (f : Nat → Int32) : ∀ n, 0 < n → mxi f n < n
  | 0, h => by omega
  | n + 1, _ => by
    unfold mxi
    split
    · rcases Nat.eq_zero_or_pos n with h | h
      · subst h; exact Nat.lt_succ_self 0
      · have := mxi_lt f n h; omega
    · exact Nat.lt_succ_self n
theorem mxv_at {f : Nat → Int32} (hf : ∀ n, ¬ f n ≤ -2147483648) : ∀ n, 0 < n → mxv f n = f (mxi f n)
  | 0, h => by omega
  | n + 1, _ => by
    unfold mxv mxi
    by_cases z : f n ≤ mxv f n
    · rw [if_pos z, if_pos z]
      rcases Nat.eq_zero_or_pos n with h | h
      · subst h; exact absurd z (hf 0)
      · exact mxv_at hf n h
    · rw [if_neg z, if_neg z]
theorem ab_low {x : Int32} {n : Nat} (h : ab n x) (hn : n < 2147483648) : ¬ x ≤ -2147483648 := by
  unfold ab at h
  rw [Int32.le_iff_toInt_le, show (-2147483648 : Int32).toInt = -2147483648 by decide]
  omega
/-! paintings by number -/
def dg (c w n u : Nat) : Nat := n / c ^ (w - 1 - u) % c
theorem dg_lt {c w n u : Nat} (hc : 0 < c) : dg c w n u < c := Nat.mod_lt _ hc
theorem dg_pre {c i m k u : Nat} (hc : 0 < c) (hk : k < c) (hu : u < i) : dg c (i + 1) (c * m + k) u = dg c i m u := by
  unfold dg
  rw [show i + 1 - 1 - u = (i - 1 - u) + 1 by omega, Nat.pow_succ, Nat.mul_comm (c ^ (i - 1 - u)) c, ← Nat.div_div_eq_div_mul, Nat.mul_add_div hc, Nat.div_eq_of_lt hk, Nat.add_zero]
theorem dg_last {c i m k : Nat} (hk : k < c) : dg c (i + 1) (c * m + k) i = k := by
  unfold dg
  rw [show i + 1 - 1 - i = 0 by omega, Nat.pow_zero, Nat.div_one, Nat.mul_add_mod, Nat.mod_eq_of_lt hk]
