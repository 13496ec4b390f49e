/-- what a painting is worth to one: by its walls, its colours and its neighbours -/
def wI (Y : Nat → Int32) (P : Nat → Nat) (N : Nat → Int32) (B : Int32) (u : Nat) (z : Int32) : Nat → Int32
  | 0 => z
  | v + 1 => if P u = P v then wI Y P N B u z v + (if N (7 * u + v) = 0 then 0 else B * (if Y v < Y u then Y v else Y u)) else wI Y P N B u z v
def wS (Y : Nat → Int32) (P : Nat → Nat) (T : Nat → Int32) (N : Nat → Int32) (B : Int32) : Nat → Int32
  | 0 => 0
  | u + 1 => wI Y P N B u (wS Y P T N B u + Y u * T (P u)) u
theorem m7 (a b : Nat) : nI a * 7 + nI b = nI (7 * a + b) := by rw [show (7 : Int32) = nI 7 from rfl, pk_mul, nI_add, Nat.mul_comm]
theorem m7' (a b : Nat) : 7 * nI a + nI b = nI (7 * a + b) := by rw [show (7 : Int32) = nI 7 from rfl, pk_mul, nI_add]
theorem m4 (a b : Nat) : nI a * 4 + nI b = nI (4 * a + b) := by rw [show (4 : Int32) = nI 4 from rfl, pk_mul, nI_add, Nat.mul_comm]
theorem m4' (a b : Nat) : 4 * nI a + nI b = nI (4 * a + b) := by rw [show (4 : Int32) = nI 4 from rfl, pk_mul, nI_add]
theorem e_yf {I : am_IT} {h u : Nat} (hh : h < 8) (hu : u < 7) : F_X8_yardsFrom_23 I (nI h) (nI u) = some (I 24 (7 * h + u)) := by
  unfold F_X8_yardsFrom_23
  rw [m7, if_pos (am_ix_nI (by omega) (by decide)), nI_clamp (by omega)]
theorem e_w2 {I : am_IT} {q h u v : Nat} (hq : q < 7) (hh : h < 8) (hu : u < 7) (hv : v < 7) : F_X8_worthOfTwo_23 I (nI q) (nI h) (nI u) (nI v) = some (if I 10 (7 * u + v) = 0 then 0 else I 9 q * (if I 24 (7 * h + v) < I 24 (7 * h + u) then I 24 (7 * h + v) else I 24 (7 * h + u))) := by
  unfold F_X8_worthOfTwo_23
  rw [m7, if_pos (am_ix_nI (by omega) (by decide)), nI_clamp (by omega), nI_clamp (by omega)]
  by_cases z : I 10 (7 * u + v) = 0
  · rw [if_pos z, if_pos z]
  · rw [if_neg z, if_neg z, if_pos (am_ix_nI hq (by decide)), e_yf hh hu, e_yf hh hv, am_b1_s, am_b1_s]
theorem e_wi_3 {I : am_IT} {w q h : Nat} {Y : Nat → Int32} {P : Nat → Nat} {T : Nat → Int32} (hw : I 1 3 = nI w) (hw7 : w ≤ 7) (hq : q < 7) (hh : h < 8) (hP : ∀ u, u < w → I 3 u = nI (P u) ∧ P u < 4) (hY : ∀ u, u < w → I 24 (7 * h + u) = Y u) (hT : ∀ k, k < 4 → I 7 (4 * q + k) = T k) :
    F_X8_worthIn_23_3 I (nI q) (nI h) = some (wS Y P T (I 10) (I 9 q) w) := by
  unfold F_X8_worthIn_23_3
  refine it_u2 (fun u => wS Y P T (I 10) (I 9 q) u) (fun u => nI u) (n := w) (e := wS Y P T (I 10) (I 9 q) w) rfl (by omega) (fun u hu => ?_) ?_ rfl
  · obtain ⟨ep, hp⟩ := hP u hu
    rw [hw, if_neg (nI_ge hu (by omega)), e_yf hh (by omega), am_b1_s, if_pos (am_ix_nI (by omega) (by decide)), nI_clamp (by omega), ep, m4, if_pos (am_ix_nI (by omega) (by decide)), am_let_s, nI_clamp (by omega), hY u hu, hT _ hp]
    refine it_u2 (fun v => wI Y P (I 10) (I 9 q) u (wS Y P T (I 10) (I 9 q) u + Y u * T (P u)) v) (fun v => nI v) (n := u) (e := wS Y P T (I 10) (I 9 q) (u + 1)) rfl (by omega) (fun v hv => ?_) ?_ (by rw [am_let_s, nI_succ])
    · obtain ⟨ev, hv4⟩ := hP v (by omega)
      rw [if_neg (nI_ge hv (by omega)), if_pos (am_ix_nI (by omega) (by decide)), if_pos (am_ix_nI (by omega) (by decide)), nI_clamp (by omega), ev, e_w2 hq hh (by omega) (by omega), am_b1_s, hY u hu, hY v (by omega), nI_succ]
      by_cases c : P u = P v
      · rw [if_pos (congrArg nI c), show wI Y P (I 10) (I 9 q) u (wS Y P T (I 10) (I 9 q) u + Y u * T (P u)) (v + 1) = wI Y P (I 10) (I 9 q) u (wS Y P T (I 10) (I 9 q) u + Y u * T (P u)) v + (if I 10 (7 * u + v) = 0 then 0 else I 9 q * (if Y v < Y u then Y v else Y u)) from if_pos c]; rfl
      · rw [if_neg (fun e => c ((nI_eq (by omega) (by omega)).mp e)), show wI Y P (I 10) (I 9 q) u (wS Y P T (I 10) (I 9 q) u + Y u * T (P u)) (v + 1) = wI Y P (I 10) (I 9 q) u (wS Y P T (I 10) (I 9 q) u + Y u * T (P u)) v from if_neg c]; rfl
    · rw [if_pos (nI_le (Nat.le_refl u) (by omega))]; rfl
  · rw [hw, if_pos (nI_le (Nat.le_refl w) (by omega))]
theorem e_wi_26 {I : am_IT} {w q h : Nat} {Y : Nat → Int32} {P : Nat → Nat} {T : Nat → Int32} (hw : I 1 3 = nI w) (hw7 : w ≤ 7) (hq : q < 7) (hh : h < 8) (hP : ∀ u, u < w → I 26 u = nI (P u) ∧ P u < 4) (hY : ∀ u, u < w → I 24 (7 * h + u) = Y u) (hT : ∀ k, k < 4 → I 7 (4 * q + k) = T k) :
    F_X8_worthIn_23_26 I (nI q) (nI h) = some (wS Y P T (I 10) (I 9 q) w) := by
  unfold F_X8_worthIn_23_26
  refine it_u2 (fun u => wS Y P T (I 10) (I 9 q) u) (fun u => nI u) (n := w) (e := wS Y P T (I 10) (I 9 q) w) rfl (by omega) (fun u hu => ?_) ?_ rfl
  · obtain ⟨ep, hp⟩ := hP u hu
    rw [hw, if_neg (nI_ge hu (by omega)), e_yf hh (by omega), am_b1_s, if_pos (am_ix_nI (by omega) (by decide)), nI_clamp (by omega), ep, m4, if_pos (am_ix_nI (by omega) (by decide)), am_let_s, nI_clamp (by omega), hY u hu, hT _ hp]
    refine it_u2 (fun v => wI Y P (I 10) (I 9 q) u (wS Y P T (I 10) (I 9 q) u + Y u * T (P u)) v) (fun v => nI v) (n := u) (e := wS Y P T (I 10) (I 9 q) (u + 1)) rfl (by omega) (fun v hv => ?_) ?_ (by rw [am_let_s, nI_succ])
    · obtain ⟨ev, hv4⟩ := hP v (by omega)
      rw [if_neg (nI_ge hv (by omega)), if_pos (am_ix_nI (by omega) (by decide)), if_pos (am_ix_nI (by omega) (by decide)), nI_clamp (by omega), ev, e_w2 hq hh (by omega) (by omega), am_b1_s, hY u hu, hY v (by omega), nI_succ]
      by_cases c : P u = P v
      · rw [if_pos (congrArg nI c), show wI Y P (I 10) (I 9 q) u (wS Y P T (I 10) (I 9 q) u + Y u * T (P u)) (v + 1) = wI Y P (I 10) (I 9 q) u (wS Y P T (I 10) (I 9 q) u + Y u * T (P u)) v + (if I 10 (7 * u + v) = 0 then 0 else I 9 q * (if Y v < Y u then Y v else Y u)) from if_pos c]; rfl
      · rw [if_neg (fun e => c ((nI_eq (by omega) (by omega)).mp e)), show wI Y P (I 10) (I 9 q) u (wS Y P T (I 10) (I 9 q) u + Y u * T (P u)) (v + 1) = wI Y P (I 10) (I 9 q) u (wS Y P T (I 10) (I 9 q) u + Y u * T (P u)) v from if_neg c]; rfl
    · rw [if_pos (nI_le (Nat.le_refl u) (by omega))]; rfl
  · rw [hw, if_pos (nI_le (Nat.le_refl w) (by omega))]
theorem e_wi_31 {I : am_IT} {w q h : Nat} {Y : Nat → Int32} {P : Nat → Nat} {T : Nat → Int32} (hw : I 1 3 = nI w) (hw7 : w ≤ 7) (hq : q < 7) (hh : h < 8) (hP : ∀ u, u < w → I 31 u = nI (P u) ∧ P u < 4) (hY : ∀ u, u < w → I 24 (7 * h + u) = Y u) (hT : ∀ k, k < 4 → I 7 (4 * q + k) = T k) :
    F_X8_worthIn_23_31 I (nI q) (nI h) = some (wS Y P T (I 10) (I 9 q) w) := by
  unfold F_X8_worthIn_23_31
  refine it_u2 (fun u => wS Y P T (I 10) (I 9 q) u) (fun u => nI u) (n := w) (e := wS Y P T (I 10) (I 9 q) w) rfl (by omega) (fun u hu => ?_) ?_ rfl
  · obtain ⟨ep, hp⟩ := hP u hu
    rw [hw, if_neg (nI_ge hu (by omega)), e_yf hh (by omega), am_b1_s, if_pos (am_ix_nI (by omega) (by decide)), nI_clamp (by omega), ep, m4, if_pos (am_ix_nI (by omega) (by decide)), am_let_s, nI_clamp (by omega), hY u hu, hT _ hp]
    refine it_u2 (fun v => wI Y P (I 10) (I 9 q) u (wS Y P T (I 10) (I 9 q) u + Y u * T (P u)) v) (fun v => nI v) (n := u) (e := wS Y P T (I 10) (I 9 q) (u + 1)) rfl (by omega) (fun v hv => ?_) ?_ (by rw [am_let_s, nI_succ])
    · obtain ⟨ev, hv4⟩ := hP v (by omega)
      rw [if_neg (nI_ge hv (by omega)), if_pos (am_ix_nI (by omega) (by decide)), if_pos (am_ix_nI (by omega) (by decide)), nI_clamp (by omega), ev, e_w2 hq hh (by omega) (by omega), am_b1_s, hY u hu, hY v (by omega), nI_succ]
      by_cases c : P u = P v
      · rw [if_pos (congrArg nI c), show wI Y P (I 10) (I 9 q) u (wS Y P T (I 10) (I 9 q) u + Y u * T (P u)) (v + 1) = wI Y P (I 10) (I 9 q) u (wS Y P T (I 10) (I 9 q) u + Y u * T (P u)) v + (if I 10 (7 * u + v) = 0 then 0 else I 9 q * (if Y v < Y u then Y v else Y u)) from if_pos c]; rfl
      · rw [if_neg (fun e => c ((nI_eq (by omega) (by omega)).mp e)), show wI Y P (I 10) (I 9 q) u (wS Y P T (I 10) (I 9 q) u + Y u * T (P u)) (v + 1) = wI Y P (I 10) (I 9 q) u (wS Y P T (I 10) (I 9 q) u + Y u * T (P u)) v from if_neg c]; rfl
    · rw [if_pos (nI_le (Nat.le_refl u) (by omega))]; rfl
  · rw [hw, if_pos (nI_le (Nat.le_refl w) (by omega))]
theorem e_wi_41 {I : am_IT} {w q h : Nat} {Y : Nat → Int32} {P : Nat → Nat} {T : Nat → Int32} (hw : I 1 3 = nI w) (hw7 : w ≤ 7) (hq : q < 7) (hh : h < 8) (hP : ∀ u, u < w → I 41 u = nI (P u) ∧ P u < 4) (hY : ∀ u, u < w → I 24 (7 * h + u) = Y u) (hT : ∀ k, k < 4 → I 7 (4 * q + k) = T k) :
    F_X8_worthIn_23_41 I (nI q) (nI h) = some (wS Y P T (I 10) (I 9 q) w) := by
  unfold F_X8_worthIn_23_41
  refine it_u2 (fun u => wS Y P T (I 10) (I 9 q) u) (fun u => nI u) (n := w) (e := wS Y P T (I 10) (I 9 q) w) rfl (by omega) (fun u hu => ?_) ?_ rfl
  · obtain ⟨ep, hp⟩ := hP u hu
    rw [hw, if_neg (nI_ge hu (by omega)), e_yf hh (by omega), am_b1_s, if_pos (am_ix_nI (by omega) (by decide)), nI_clamp (by omega), ep, m4, if_pos (am_ix_nI (by omega) (by decide)), am_let_s, nI_clamp (by omega), hY u hu, hT _ hp]
    refine it_u2 (fun v => wI Y P (I 10) (I 9 q) u (wS Y P T (I 10) (I 9 q) u + Y u * T (P u)) v) (fun v => nI v) (n := u) (e := wS Y P T (I 10) (I 9 q) (u + 1)) rfl (by omega) (fun v hv => ?_) ?_ (by rw [am_let_s, nI_succ])
    · obtain ⟨ev, hv4⟩ := hP v (by omega)
      rw [if_neg (nI_ge hv (by omega)), if_pos (am_ix_nI (by omega) (by decide)), if_pos (am_ix_nI (by omega) (by decide)), nI_clamp (by omega), ev, e_w2 hq hh (by omega) (by omega), am_b1_s, hY u hu, hY v (by omega), nI_succ]
      by_cases c : P u = P v
      · rw [if_pos (congrArg nI c), show wI Y P (I 10) (I 9 q) u (wS Y P T (I 10) (I 9 q) u + Y u * T (P u)) (v + 1) = wI Y P (I 10) (I 9 q) u (wS Y P T (I 10) (I 9 q) u + Y u * T (P u)) v + (if I 10 (7 * u + v) = 0 then 0 else I 9 q * (if Y v < Y u then Y v else Y u)) from if_pos c]; rfl
      · rw [if_neg (fun e => c ((nI_eq (by omega) (by omega)).mp e)), show wI Y P (I 10) (I 9 q) u (wS Y P T (I 10) (I 9 q) u + Y u * T (P u)) (v + 1) = wI Y P (I 10) (I 9 q) u (wS Y P T (I 10) (I 9 q) u + Y u * T (P u)) v from if_neg c]; rfl
    · rw [if_pos (nI_le (Nat.le_refl u) (by omega))]; rfl
  · rw [hw, if_pos (nI_le (Nat.le_refl w) (by omega))]
theorem e_wf {I : am_IT} {w q h off : Nat} {Y : Nat → Int32} {P : Nat → Nat} {T N : Nat → Int32} {B : Int32} (hw : I 55 4 = nI w) (hw7 : w ≤ 7) (hq : q < 7) (hh : h < 8) (ho : off ≤ 28) (hP : ∀ u, u < w → I 72 (off + u) = nI (P u) ∧ P u < 4) (hY : ∀ u, u < w → I 83 (7 * h + u) = Y u) (hT : ∀ k, k < 4 → I 63 (4 * q + k) = T k)
    (hN : ∀ j, j < 49 → N j = I 66 j ∧ vb 2 (N j)) (hB : I 65 q = B) : F_X12_worthFrom_55 I (nI h) (nI q) (nI off) = some (wS Y P T N B w) := by
  unfold F_X12_worthFrom_55
  refine it_u2 (fun u => wS Y P T N B u) (fun u => nI u) (n := w) (e := wS Y P T N B w) rfl (by omega) (fun u hu => ?_) ?_ rfl
  · obtain ⟨ep, hp⟩ := hP u hu
    rw [hw, if_neg (nI_ge hu (by omega)), m7', if_pos (am_ix_nI (by omega) (by decide)), am_let_s, nI_add, if_pos (am_ix_nI (by omega) (by decide)), nI_clamp (by omega), nI_clamp (by omega), ep, m4', if_pos (am_ix_nI (by omega) (by decide)), am_let_s, nI_clamp (by omega), nI_clamp (by omega), hY u hu, hT _ hp]
    refine it_u2 (fun v => wI Y P N B u (wS Y P T N B u + Y u * T (P u)) v) (fun v => nI v) (n := u) (e := wS Y P T N B (u + 1)) rfl (by omega) (fun v hv => ?_) ?_ (by rw [am_let_s, nI_succ])
    · obtain ⟨ev, hv4⟩ := hP v (by omega)
      obtain ⟨en, k, hk, ek⟩ := hN (7 * u + v) (by omega)
      have e1 : wI Y P N B u (wS Y P T N B u + Y u * T (P u)) (v + 1) = if P u = P v then wI Y P N B u (wS Y P T N B u + Y u * T (P u)) v + (if N (7 * u + v) = 0 then 0 else B * (if Y v < Y u then Y v else Y u)) else wI Y P N B u (wS Y P T N B u + Y u * T (P u)) v := rfl
      rw [if_neg (nI_ge hv (by omega)), m7', if_pos (am_ix_nI (by omega) (by decide)), am_let_s, m7', if_pos (am_ix_nI (by omega) (by decide)), nI_clamp (by omega), nI_clamp (by omega), nI_add, if_pos (am_ix_nI (by omega) (by decide)), nI_clamp (by omega), ev, hB, hY v (by omega), ← en, nI_succ, e1]
      rcases (show k = 0 ∨ k = 1 by omega) with rfl | rfl
      · have n1 : ¬ N (7 * u + v) = 1 := by rw [ek]; decide
        rw [if_neg n1, if_pos (show N (7 * u + v) = 0 from ek), Int32.add_zero, ite_self]; rfl
      · have n1 : N (7 * u + v) = 1 := ek
        have n0 : ¬ N (7 * u + v) = 0 := by rw [n1]; decide
        rw [if_pos n1, if_neg n0, if_pos (am_ix_nI (by omega) (by decide))]
        by_cases c : P u = P v
        · rw [if_pos (congrArg nI c), if_pos c, if_pos (am_ix_nI (by omega) (by decide))]
          by_cases l : Y v ≤ Y u
          · rw [if_pos l]
            by_cases l2 : Y v < Y u
            · rw [if_pos l2]; rfl
            · rw [if_neg l2, show Y v = Y u from Int32.le_antisymm l (Int32.not_lt.mp l2)]; rfl
          · rw [if_neg l, if_neg (fun e => l (Int32.le_of_lt e))]; rfl
        · rw [if_neg (fun e => c ((nI_eq (by omega) (by omega)).mp e)), if_neg c]; rfl
    · rw [if_pos (nI_le (Nat.le_refl u) (by omega))]; rfl
  · rw [hw, if_pos (nI_le (Nat.le_refl w) (by omega))]
theorem tS_c {I J : am_IT} (h1 : J 55 13 = I 55 13) (h2 : J 58 = I 58) (h3 : J 59 = I 59) (h4 : J 60 = I 60) (h5 : J 61 = I 61) (h6 : J 62 = I 62) (h u : Nat) : ∀ i, tS J h u i = tS I h u i
  | 0 => by unfold tS; rw [h2]
  | i + 1 => by unfold tS; rw [h1, h3, h4, h5, h6, tS_c h1 h2 h3 h4 h5 h6 h u i]
def yM (I : am_IT) (t w i u : Nat) : Nat → Int32 := fun j => if (j / 7 < i ∧ j % 7 < w) ∨ (j / 7 = i ∧ j % 7 < u) then cl0 (tS I (j / 7) (j % 7) t) else I 83 j
theorem e_fy {I : am_IT} {t w : Nat} (hw : I 55 4 = nI w) (hw7 : w ≤ 7) (ht : I 55 8 = nI t) (htb : t ≤ 20) : F_X12_findsYards_55 I = some (st2 I 83 (yM I t w 8 0)) := by
  unfold F_X12_findsYards_55
  refine it_u2 (fun i => nI i) (fun i => st2 I 83 (yM I t w i 0)) (n := 8) (e := st2 I 83 (yM I t w 8 0)) ?_ (by omega) (fun i hi => ?_) ?_ rfl
  · rw [show yM I t w 0 0 = I 83 from funext (fun j => if_neg (by omega)), st2_I]; rfl
  · rw [show (8 : Int32) = nI 8 from rfl, if_neg (nI_ge hi (by decide))]
    refine it_u2 (fun u => nI u) (fun u => st2 I 83 (yM I t w i u)) (n := w) (e := st2 I 83 (yM I t w (i + 1) 0)) rfl (by omega) (fun u hu => ?_) ?_ (by rw [am_let_s, nI_succ])
    · rw [show (st2 I 83 (yM I t w i u)) 55 4 = nI w from hw, if_neg (nI_ge hu (by omega)), e_seen (I := st2 I 83 (yM I t w i u)) (t := t) ht htb hi (by omega), am_b1_s, m7', if_pos (am_ix_nI (by omega) (by decide)), am_let_s, am_let_s, nI_clamp (by omega), st2_u, nI_succ, tS_c (I := I) (J := st2 I 83 (yM I t w i u)) rfl rfl rfl rfl rfl rfl]
      refine congrArg (fun z => some (Sum.inl (nI u + 1, z))) (st2_e I (fun j => ?_))
      unfold yM
      by_cases hj : j = 7 * i + u
      · rw [if_pos hj, if_pos (by omega), show j / 7 = i by omega, show j % 7 = u by omega]
      · rw [if_neg hj]
        by_cases c : (j / 7 < i ∧ j % 7 < w) ∨ (j / 7 = i ∧ j % 7 < u)
        · rw [if_pos c, if_pos (by omega)]
        · rw [if_neg c, if_neg (by omega)]
    · rw [show (st2 I 83 (yM I t w i w)) 55 4 = nI w from hw, if_pos (nI_le (Nat.le_refl w) (by omega))]
      refine congrArg (fun z => some (Sum.inr z)) (st2_e I (fun j => ?_))
      unfold yM
      by_cases c : (j / 7 < i ∧ j % 7 < w) ∨ (j / 7 = i ∧ j % 7 < w)
      · rw [if_pos c, if_pos (by omega)]
      · rw [if_neg c, if_neg (by omega)]
  · rw [show (8 : Int32) = nI 8 from rfl, if_pos (nI_le (Nat.le_refl 8) (by decide))]
theorem yM_Y (I : am_IT) {t w h u : Nat} (hh : h < 8) (hu : u < w) (hw : w ≤ 7) : yM I t w 8 0 (7 * h + u) = cl0 (tS I h u t) := by
  unfold yM
  rw [if_pos (by omega), show (7 * h + u) / 7 = h by omega, show (7 * h + u) % 7 = u by omega]
theorem op_16 : am_op16 RI := by
  rintro b I a1  ⟨c, w, p, t, y, d, ln, n, ⟨hb, ⟨⟨hc1, hc2⟩, hst, ⟨hy1, hy2⟩, ⟨hw1, hw2⟩, ⟨hp1, hp2⟩, ⟨ht1, ht2⟩, ⟨hl1, hl2⟩, ⟨hd1, hd2⟩⟩, ⟨rpo, rpa, rho, rvi, rtr, rta, rsa, rbe, rne, rde, rlo, rli, rru⟩⟩, rtp, rmi, rke⟩
  obtain ⟨b1, b2, b3, b4, b5, b6, b7, b8⟩ := id hb
  have no : F_X11_worth_0 I a1 = some (-100000, I) → F_X12_worth_55 I a1 = some (-100000, up2 I 55 0 0) → ∃ (r : Int32) (I1 : am_IT) (I2 : am_IT), F_X11_worth_0 I a1 = some (r, I1) ∧ F_X12_worth_55 I1 a1 = some (r, I2) ∧ RI b I2 := fun h1 h2 => ⟨_, I, _, h1, h2, c, w, p, t, y, d, ln, n, ⟨hb, ⟨⟨hc1, hc2⟩, hst, ⟨hy1, hy2⟩, ⟨hw1, hw2⟩, ⟨hp1, hp2⟩, ⟨ht1, ht2⟩, ⟨hl1, hl2⟩, ⟨hd1, hd2⟩⟩, ⟨rpo, rpa, rho, rvi, rtr, rta, rsa, rbe, rne, rde, rlo, rli, rru⟩⟩, rtp, rmi, rke⟩
  rcases gd_cases a1 (n := p) (by omega) with g1 | ⟨g1, j, hj, rfl⟩
  · refine no ?_ ?_
    · unfold F_X11_worth_0; rw [gP1 (n := p) hp1, am_b1_s, g1, if_pos rfl]
    · unfold F_X12_worth_55; rw [am_let_s, gP2 (I := up2 I 55 0 0) (n := p) hp2, am_b1_s, g1, if_pos rfl]
  obtain ⟨eh, h, hh, e4⟩ := rho.1 j hj
  have hy : I 1 2 = I 55 13 := hy1.trans hy2.symm
  have hP : ∀ u, u < w → I 3 u = nI (I 3 u).toNatClampNeg ∧ (I 3 u).toNatClampNeg < 4 := by
    intro u hu
    obtain ⟨-, k, hk, ek⟩ := rpa u hu
    rw [ek, nI_clamp (by omega)]
    exact ⟨rfl, by omega⟩
  refine ⟨wS (fun u => cl0 (tS I h u t)) (fun u => (I 3 u).toNatClampNeg) (fun k => I 7 (4 * j + k)) (I 10) (I 9 j) w, st2 I 24 (mC I t), st2 (up2 (st2 I 24 (mC I t)) 55 0 0) 83 (yM (up2 (st2 I 24 (mC I t)) 55 0 0) t w 8 0), ?_, ?_, c, w, p, t, y, d, ln, n, ⟨hb, ⟨⟨hc1, hc2⟩, hst, ⟨hy1, hy2⟩, ⟨hw1, hw2⟩, ⟨hp1, hp2⟩, ⟨ht1, ht2⟩, ⟨hl1, hl2⟩, ⟨hd1, hd2⟩⟩, ⟨rpo, rpa, rho, rvi, rtr, rta, rsa, rbe, rne, rde, rlo, rli, rru⟩⟩, rtp, rmi, rke⟩
  · unfold F_X11_worth_0
    rw [gP1 (n := p) hp1, am_b1_s, g1, if_neg (by decide), e_meas ht1 (by omega) (tr_ok b3 rtr), am_b1_s]
    unfold F_X8_worthTo_23_3
    rw [if_pos (am_ix_nI (by omega) (by decide)), nI_clamp (by omega), st2_k _ _ (show 4 ≠ 24 by decide), e4, e_wi_3 (I := st2 I 24 (mC I t)) (w := w) (Y := fun u => cl0 (tS I h u t)) (P := fun u => (I 3 u).toNatClampNeg) (T := fun k => I 7 (4 * j + k)) hw1 b3 (by omega) hh hP ?_ (fun k _ => rfl), am_b1_s, am_b1_s]
    · rfl
    · intro u hu
      rw [st2_s]; exact mC_Y b3 rvi rtr hy hh (by omega)
  · unfold F_X12_worth_55
    have e57 : (st2 (up2 (st2 I 24 (mC I t)) 55 0 0) 83 (yM (up2 (st2 I 24 (mC I t)) 55 0 0) t w 8 0)) 57 j = nI h := eh.symm.trans e4
    rw [am_let_s, gP2 (I := up2 (st2 I 24 (mC I t)) 55 0 0) (n := p) hp2, am_b1_s, g1, if_neg (by decide), e_fy (I := up2 (st2 I 24 (mC I t)) 55 0 0) hw2 b3 ht2 (by omega), am_b1_s]
    unfold F_X12_worthOf_55
    rw [if_pos (am_ix_nI (by omega) (by decide)), nI_clamp (by omega), e57]
    rw [show F_X12_worthFrom_55 (st2 (up2 (st2 I 24 (mC I t)) 55 0 0) 83 (yM (up2 (st2 I 24 (mC I t)) 55 0 0) t w 8 0)) (nI h) (nI j) 0 = _ from e_wf (I := st2 (up2 (st2 I 24 (mC I t)) 55 0 0) 83 (yM (up2 (st2 I 24 (mC I t)) 55 0 0) t w 8 0)) (w := w) (off := 0) (Y := fun u => cl0 (tS I h u t)) (P := fun u => (I 3 u).toNatClampNeg) (T := fun k => I 7 (4 * j + k)) (N := I 10) (B := I 9 j) hw2 b3 (by omega) hh (by omega) ?_ ?_ ?_ rne.1 (rbe.1 j hj).1.symm, am_b1_s, am_b1_s]
    · intro u hu
      rw [Nat.zero_add]
      exact ⟨((rpa u hu).1.symm.trans (hP u hu).1), (hP u hu).2⟩
    · intro u hu
      rw [st2_s, yM_Y _ hh hu b3, tS_c (J := up2 (st2 I 24 (mC I t)) 55 0 0) (I := I) rfl rfl rfl rfl rfl rfl]
    · intro k hk
      exact ((rta.1 (4 * j + k) (by omega)).1).symm
