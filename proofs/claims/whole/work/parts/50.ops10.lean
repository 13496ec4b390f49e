theorem lk_set : ∀ b, b < 9 → ∀ m, m < 512 → (nI m ||| ((1 : Int32) <<< (nI b &&& 31))) = nI (m ||| 2 ^ b) := by decide +kernel
theorem lk_clr : ∀ b, b < 9 → ∀ m, m < 512 → (nI m &&& (((1 : Int32) <<< (nI b &&& 31)) ^^^ (-1 : Int32))) = nI (m &&& (511 ^^^ 2 ^ b)) := by decide +kernel
theorem lk_511 : ∀ i, i < 9 → (511 : Nat).testBit i = true := by decide
theorem lk_set_b {m k i : Nat} (hm : m < 512) (hk : k < 9) (_hi : i < 9) : (m ||| 2 ^ k) < 512 ∧ (m ||| 2 ^ k).testBit i = if i = k then true else m.testBit i := by
  refine ⟨Nat.or_lt_two_pow (n := 9) hm (Nat.pow_lt_pow_right (by decide) hk), ?_⟩
  rw [Nat.testBit_or, Nat.testBit_two_pow]
  by_cases h : i = k
  · rw [if_pos h, decide_eq_true h.symm, Bool.or_true]
  · rw [if_neg h, decide_eq_false (fun e => h e.symm), Bool.or_false]
theorem lk_clr_b {m k i : Nat} (hm : m < 512) (_hk : k < 9) (hi : i < 9) : (m &&& (511 ^^^ 2 ^ k)) < 512 ∧ (m &&& (511 ^^^ 2 ^ k)).testBit i = if i = k then false else m.testBit i := by
  refine ⟨Nat.lt_of_le_of_lt Nat.and_le_left hm, ?_⟩
  rw [Nat.testBit_and, Nat.testBit_xor, Nat.testBit_two_pow, lk_511 i hi]
  by_cases h : i = k
  · rw [if_pos h, decide_eq_true h.symm]; simp
  · rw [if_neg h, decide_eq_false (fun e => h e.symm)]; simp
theorem lk_upd {f g : Nat → Int32} (h : rLink f g) {a b ma mb : Nat} (ha : a < 9) (hb : b < 9) (hab : a ≠ b) (F : Nat → Nat → Nat) (z : Bool) (hma : ma < 512) (ea : g a = nI ma) (hmb : mb < 512) (eb : g b = nI mb)
    (hF : ∀ {m k i : Nat}, m < 512 → k < 9 → i < 9 → F m k < 512 ∧ (F m k).testBit i = if i = k then z else m.testBit i) :
    rLink (fun j => if j = 9 * b + a then (if z = true then 1 else 0) else if j = 9 * a + b then (if z = true then 1 else 0) else f j) (fun x => if x = b then nI (F mb a) else if x = a then nI (F ma b) else g x) := by
  have un : ∀ {m n : Nat}, m < 512 → n < 512 → nI m = nI n → m = n := by
    intro m n h1 h2 e
    have := congrArg Int32.toInt e
    rw [nI_toInt (by omega), nI_toInt (by omega)] at this
    omega
  intro x hx
  obtain ⟨m, hm, em, hf⟩ := h x hx
  by_cases hxb : x = b
  · subst hxb
    obtain rfl := un hm hmb (em.symm.trans eb)
    refine ⟨F m a, (hF hm ha ha).1, by simp only [if_pos], ?_⟩
    intro i hi
    show (if 9 * x + i = 9 * x + a then _ else if 9 * x + i = 9 * a + x then _ else f (9 * x + i)) = _
    rw [(hF hm ha hi).2]
    by_cases hia : i = a
    · rw [if_pos (by omega), if_pos hia]
    · rw [if_neg (by omega), if_neg (by omega), if_neg hia]; exact hf i hi
  · by_cases hxa : x = a
    · subst hxa
      obtain rfl := un hm hma (em.symm.trans ea)
      refine ⟨F m b, (hF hm hb hb).1, by simp only [if_neg hxb, if_pos], ?_⟩
      intro i hi
      show (if 9 * x + i = 9 * b + x then _ else if 9 * x + i = 9 * x + b then _ else f (9 * x + i)) = _
      rw [(hF hm hb hi).2]
      by_cases hib : i = b
      · rw [if_neg (by omega), if_pos (by omega), if_pos hib]
      · rw [if_neg (by omega), if_neg (by omega), if_neg hib]; exact hf i hi
    · refine ⟨m, hm, by simp only [if_neg hxb, if_neg hxa]; exact em, ?_⟩
      intro i hi
      show (if 9 * x + i = 9 * b + a then _ else if 9 * x + i = 9 * a + b then _ else f (9 * x + i)) = _
      rw [if_neg (by omega), if_neg (by omega)]; exact hf i hi
theorem e_join (I : am_IT) {j k : Nat} (hj : j < 9) (hk : k < 9) (v : Int32) : F_X5_join_18 I (nI j) (nI k) v = some (up2 (up2 I 20 (9 * j + k) v) 20 (9 * k + j) v) := by
  have e1 : nI j * 9 + nI k = nI (9 * j + k) := by rw [show (9 : Int32) = nI 9 from rfl, pk_mul, nI_add, Nat.mul_comm]
  have e2 : nI k * 9 + nI j = nI (9 * k + j) := by rw [show (9 : Int32) = nI 9 from rfl, pk_mul, nI_add, Nat.mul_comm]
  unfold F_X5_join_18
  rw [e1, e2, if_pos (am_ix_nI (by omega) (by decide)), am_let_s, if_pos (am_ix_nI (by omega) (by decide)), am_let_s, nI_clamp (by omega), nI_clamp (by omega)]
theorem op_29 : am_op29 RI := by
  rintro b I a1 a2 a3 _hz  ⟨c, w, p, t, y, d, ln, n, ⟨hb, ⟨⟨hc1, hc2⟩, hst, ⟨hy1, hy2⟩, ⟨hw1, hw2⟩, ⟨hp1, hp2⟩, ⟨ht1, ht2⟩, ⟨hl1, hl2⟩, ⟨hd1, hd2⟩⟩, ⟨rpo, rpa, rho, rvi, rtr, rta, rsa, rbe, rne, rde, rlo, rli, rru⟩⟩, rtp, rmi, rke⟩
  obtain ⟨b1, b2, b3, b4, b5, b6, b7, b8⟩ := id hb
  have no : F_X11_link_0 I a1 a2 a3 = some (0, I) → F_X12_link_55 I a1 a2 a3 = some (0, up2 I 55 0 0) → ∃ (r : Int32) (I1 : am_IT) (I2 : am_IT), F_X11_link_0 I a1 a2 a3 = some (r, I1) ∧ F_X12_link_55 I1 a1 a2 a3 = some (r, I2) ∧ RI b I2 := fun h1 h2 => ⟨_, I, _, h1, h2, c, w, p, t, y, d, ln, n, ⟨hb, ⟨⟨hc1, hc2⟩, hst, ⟨hy1, hy2⟩, ⟨hw1, hw2⟩, ⟨hp1, hp2⟩, ⟨ht1, ht2⟩, ⟨hl1, hl2⟩, ⟨hd1, hd2⟩⟩, ⟨rpo, rpa, rho, rvi, rtr, rta, rsa, rbe, rne, rde, rlo, rli, rru⟩⟩, rtp, rmi, rke⟩
  rcases gd_cases a1 (n := 9) (by decide) with g1 | ⟨g1, j, hj, rfl⟩
  · refine no ?_ ?_
    · unfold F_X11_link_0; rw [gQ1', am_b1_s, g1, if_pos rfl]
    · unfold F_X12_link_55; rw [am_let_s, gQ2, am_b1_s, g1, if_pos rfl]
  rcases gd_cases a2 (n := 9) (by decide) with g2 | ⟨g2, k, hk, rfl⟩
  · refine no ?_ ?_
    · unfold F_X11_link_0; rw [gQ1', am_b1_s, g1, if_neg (by decide), gQ1', am_b1_s, g2, if_pos rfl]
    · unfold F_X12_link_55; rw [am_let_s, gQ2, am_b1_s, g1, if_neg (by decide), gQ2, am_b1_s, g2, if_pos rfl]
  by_cases hne : nI j = nI k
  · refine no ?_ ?_
    · unfold F_X11_link_0; rw [gQ1', am_b1_s, g1, if_neg (by decide), gQ1', am_b1_s, g2, if_neg (by decide), if_pos hne]
    · unfold F_X12_link_55; rw [am_let_s, gQ2, am_b1_s, g1, if_neg (by decide), gQ2, am_b1_s, g2, if_neg (by decide), if_pos hne]
  have hjk : j ≠ k := fun e => hne (by rw [e])
  obtain ⟨mj, hmj, ej, -⟩ := rli j hj
  obtain ⟨mk, hmk, ek, -⟩ := rli k hk
  by_cases q : a3 = 0
  · refine ⟨1, up2 (up2 I 20 (9 * j + k) 0) 20 (9 * k + j) 0, up2 (up2 (up2 (up2 (up2 I 20 (9 * j + k) 0) 20 (9 * k + j) 0) 55 0 0) 71 j (nI (mj &&& (511 ^^^ 2 ^ k))))  71 k (nI (mk &&& (511 ^^^ 2 ^ j))), ?_, ?_, c, w, p, t, y, d, ln, n, ⟨hb, ⟨⟨hc1, hc2⟩, hst, ⟨hy1, hy2⟩, ⟨hw1, hw2⟩, ⟨hp1, hp2⟩, ⟨ht1, ht2⟩, ⟨hl1, hl2⟩, ⟨hd1, hd2⟩⟩, ⟨rpo, rpa, rho, rvi, rtr, rta, rsa, rbe, rne, rde, rlo, ?_, rru⟩⟩, rtp, rmi, rke⟩
    · unfold F_X11_link_0
      rw [gQ1', am_b1_s, g1, if_neg (by decide), gQ1', am_b1_s, g2, if_neg (by decide), if_neg hne, if_pos q, am_b1_s, e_join I hj hk, am_b1_s]
    · unfold F_X12_link_55
      rw [am_let_s, gQ2, am_b1_s, g1, if_neg (by decide), gQ2, am_b1_s, g2, if_neg (by decide), if_neg hne, if_pos q, if_pos (am_ix_nI (by omega) (by decide)), am_b1_s, if_pos (am_ix_nI (by omega) (by decide)), am_let_s, if_pos q, if_pos (am_ix_nI (by omega) (by decide)), if_pos (am_ix_nI (by omega) (by decide)), am_let_s, nI_clamp (by omega), nI_clamp (by omega)]
      rw [show (up2 (up2 (up2 I 20 (9 * j + k) 0) 20 (9 * k + j) 0) 55 0 0) 71 j = nI mj from ej, lk_clr k hk mj hmj, up2_j _ _ (show k ≠ j from fun e => hjk e.symm), show (up2 (up2 (up2 I 20 (9 * j + k) 0) 20 (9 * k + j) 0) 55 0 0) 71 k = nI mk from ek, lk_clr j hj mk hmk]
    · have key := lk_upd rli hj hk hjk (fun m k => m &&& (511 ^^^ 2 ^ k)) false hmj ej hmk ek (fun h1 h2 h3 => lk_clr_b h1 h2 h3)
      have e20 : (up2 (up2 I 20 (9 * j + k) 0) 20 (9 * k + j) 0) 20 = (fun x => if x = 9 * k + j then (if false = true then 1 else 0) else if x = 9 * j + k then (if false = true then 1 else 0) else I 20 x) := by
        funext x; rw [up2_r, up2_r]; rfl
      have e71 : (up2 (up2 (up2 (up2 (up2 I 20 (9 * j + k) 0) 20 (9 * k + j) 0) 55 0 0) 71 j (nI (mj &&& (511 ^^^ 2 ^ k))))  71 k (nI (mk &&& (511 ^^^ 2 ^ j)))) 71 = (fun x => if x = k then nI (mk &&& (511 ^^^ 2 ^ j)) else if x = j then nI (mj &&& (511 ^^^ 2 ^ k)) else I 71 x) := by
        funext x; rw [up2_r, up2_r]; rfl
      show rLink ((up2 (up2 I 20 (9 * j + k) 0) 20 (9 * k + j) 0) 20) ((up2 (up2 (up2 (up2 (up2 I 20 (9 * j + k) 0) 20 (9 * k + j) 0) 55 0 0) 71 j (nI (mj &&& (511 ^^^ 2 ^ k))))  71 k (nI (mk &&& (511 ^^^ 2 ^ j)))) 71)
      rw [e20, e71]
      exact key
  · refine ⟨1, up2 (up2 I 20 (9 * j + k) 1) 20 (9 * k + j) 1, up2 (up2 (up2 (up2 (up2 I 20 (9 * j + k) 1) 20 (9 * k + j) 1) 55 0 0) 71 j (nI (mj ||| 2 ^ k)))  71 k (nI (mk ||| 2 ^ j)), ?_, ?_, c, w, p, t, y, d, ln, n, ⟨hb, ⟨⟨hc1, hc2⟩, hst, ⟨hy1, hy2⟩, ⟨hw1, hw2⟩, ⟨hp1, hp2⟩, ⟨ht1, ht2⟩, ⟨hl1, hl2⟩, ⟨hd1, hd2⟩⟩, ⟨rpo, rpa, rho, rvi, rtr, rta, rsa, rbe, rne, rde, rlo, ?_, rru⟩⟩, rtp, rmi, rke⟩
    · unfold F_X11_link_0
      rw [gQ1', am_b1_s, g1, if_neg (by decide), gQ1', am_b1_s, g2, if_neg (by decide), if_neg hne, if_neg q, am_b1_s, e_join I hj hk, am_b1_s]
    · unfold F_X12_link_55
      rw [am_let_s, gQ2, am_b1_s, g1, if_neg (by decide), gQ2, am_b1_s, g2, if_neg (by decide), if_neg hne, if_neg q, if_pos (am_ix_nI (by omega) (by decide)), am_b1_s, if_pos (am_ix_nI (by omega) (by decide)), am_let_s, if_neg q, if_pos (am_ix_nI (by omega) (by decide)), if_pos (am_ix_nI (by omega) (by decide)), am_let_s, nI_clamp (by omega), nI_clamp (by omega)]
      rw [show (up2 (up2 (up2 I 20 (9 * j + k) 1) 20 (9 * k + j) 1) 55 0 0) 71 j = nI mj from ej, lk_set k hk mj hmj, up2_j _ _ (show k ≠ j from fun e => hjk e.symm), show (up2 (up2 (up2 I 20 (9 * j + k) 1) 20 (9 * k + j) 1) 55 0 0) 71 k = nI mk from ek, lk_set j hj mk hmk]
    · have key := lk_upd rli hj hk hjk (fun m k => m ||| 2 ^ k) true hmj ej hmk ek (fun h1 h2 h3 => lk_set_b h1 h2 h3)
      have e20 : (up2 (up2 I 20 (9 * j + k) 1) 20 (9 * k + j) 1) 20 = (fun x => if x = 9 * k + j then (if true = true then 1 else 0) else if x = 9 * j + k then (if true = true then 1 else 0) else I 20 x) := by
        funext x; rw [up2_r, up2_r]; rfl
      have e71 : (up2 (up2 (up2 (up2 (up2 I 20 (9 * j + k) 1) 20 (9 * k + j) 1) 55 0 0) 71 j (nI (mj ||| 2 ^ k)))  71 k (nI (mk ||| 2 ^ j))) 71 = (fun x => if x = k then nI (mk ||| 2 ^ j) else if x = j then nI (mj ||| 2 ^ k) else I 71 x) := by
        funext x; rw [up2_r, up2_r]; rfl
      show rLink ((up2 (up2 I 20 (9 * j + k) 1) 20 (9 * k + j) 1) 20) ((up2 (up2 (up2 (up2 (up2 I 20 (9 * j + k) 1) 20 (9 * k + j) 1) 55 0 0) 71 j (nI (mj ||| 2 ^ k)))  71 k (nI (mk ||| 2 ^ j))) 71)
      rw [e20, e71]
      exact key
