/-! saying otherwise, the reference -/
theorem up2_id {I : am_IT} {k j : Nat} {v : Int32} (h : I k j = v) : up2 I k j v = I := by
  funext a i
  unfold up2
  by_cases z : a = k ∧ i = j
  · obtain ⟨rfl, rfl⟩ := z; rw [if_pos ⟨rfl, rfl⟩, h]
  · rw [if_neg z]
theorem e_gm {I J : am_IT} {c w p t y d ln q : Nat} {ls : List (Nat × List rOp)} {a2 : Int32} (X : cx I c w p t y d ln) (S : sq I J) (h49 : I 55 49 = -1) (h72 : ∀ j, j < 7 → J 72 j = I 72 j) (hq : q < p) (g5 : gr a2 0 1 = 1) (H : rLs ls ln (I 11 1) (I 12) (I 13) (I 14) (I 75) (I 76) (I 77) (I 78) (I 79)) :
    ∃ L, F_X12_gains_55 J (nI q) a2 = some (if a2 = 0 then gb (gg I t w ls c p y q) c else gm (gg I t w ls c p y q) c, L) ∧ sq I L ∧ L 3 = J 3 ∧ ∀ j, j < 7 → L 72 j = J 72 j := by
  have b2 : c ≤ 4 := X.1.2.1
  have b3 : w ≤ 7 := X.1.2.2.1
  have b4 : p ≤ 7 := X.1.2.2.2.1
  have rsa := X.2.2.2.2.2.2.2.2.1
  have S1 : sq I (up2 J 55 0 0) := sq_u 0 S rfl
  have hp2 : (up2 J 55 0 0) 55 5 = nI p := by rw [S1 55 5 rfl]; exact X.2.1.2.2.2.2.1.2
  have g1 : gd (nI q) p = 1 := by unfold gd; rw [if_neg (nI_pos (by omega)), if_neg (nI_ge hq (by omega))]
  have jd4 : ∀ s u, u < w → jd I t ls c p y s u < 4 := fun s u hu => by
    have := (jd_ok X hu ls s).2
    omega
  have nS : ∀ {A B : am_IT}, (∀ k, k ≠ 72 → k ≠ 81 → k ≠ 82 → k ≠ 83 → k ≠ 84 → B k = A k) → ∀ a i, stc a i = true → B a i = A a i := fun {A B} h a i ma => by
    rw [h a (stc_ne ma).2 (st_ne (fun _ => rfl) ma) (st_ne (fun _ => rfl) ma) (st_ne (fun _ => rfl) ma) (st_ne (fun _ => rfl) ma)]
  have i64 : ∀ i k, i < p → k < 4 → I 64 (4 * i + k) = I 8 (4 * i + k) := fun i k hi hk => (rsa.1 (4 * i + k) (by omega)).1.symm
  obtain ⟨K, e, k72, k72b, k83, kk⟩ := jM (off := 7) (s := sT I) X (J := up2 J 55 0 0) (by rw [up2_id (S1 55 49 rfl |>.trans h49)]; exact S1) (fun j hj => h72 j hj) H (by decide) (by decide) (fun K h55 h64 i k hi hk => by
    rw [e_says (I := K) (q := i) (k := k) (by rw [h55]; exact (S1 55 49 rfl).trans h49) (by omega) hk, h64, sq_c S1 (k := 64) rfl, i64 i k hi hk]; rfl)
  have SK : sq I K := fun a i ma => (nS kk a i ma).trans (S1 a i ma)
  have eW := mT X SK k83 (off := 7) (by decide) (P := jd I t ls c p y (sT I)) (fun u hu => ⟨k72 u hu, jd4 _ u hu⟩) hq
  unfold F_X12_gains_55
  rw [am_let_s, gP2 (n := p) hp2, am_b1_s, g1, if_neg (by decide), gR2, am_b1_s, g5, if_neg (by decide), show F_X12_judges_55 (up2 J 55 0 0) (7 : Int32) = _ from e, am_b1_s, show F_X12_worthOf_55 K (nI q) (7 : Int32) = _ from eW, am_b1_s]
  refine it_b3_inv (R := fun z => ∃ L : am_IT, z = some (if a2 = 0 then gb (gg I t w ls c p y q) c else gm (gg I t w ls c p y q) c, L) ∧ sq I L ∧ L 3 = J 3 ∧ ∀ j, j < 7 → L 72 j = J 72 j)
    (fun i x => ∃ J' : am_IT, x = (gb (gg I t w ls c p y q) i, gm (gg I t w ls c p y q) i, nI i, J') ∧ sq I J' ∧ J' 3 = J 3 ∧ ∀ j, j < 7 → J' 72 j = J 72 j)
    (fun x => ∃ J' : am_IT, x = (gb (gg I t w ls c p y q) c, gm (gg I t w ls c p y q) c, J') ∧ sq I J' ∧ J' 3 = J 3 ∧ ∀ j, j < 7 → J' 72 j = J 72 j) (n := c) (by omega) ?_ ?_ ⟨K, by rw [nI_0]; rfl, SK, by rw [kk 3 (by decide) (by decide) (by decide) (by decide) (by decide)]; rfl, fun j hj => by rw [k72b j (Or.inl hj)]; rfl⟩ ?_
  · rintro i x hi ⟨J', rfl, SJ, j3, j72⟩
    have hc : J' 55 2 = nI c := by rw [SJ 55 2 rfl]; exact X.2.1.1.2
    have e49 : (up2 (up2 (up2 J' 55 49 (nI q)) 55 50 (nI i)) 55 49 (-1)) = up2 J' 55 50 (nI i) := by
      funext a m
      unfold up2
      by_cases z1 : a = 55 ∧ m = 49
      · obtain ⟨rfl, rfl⟩ := z1
        rw [if_pos ⟨rfl, rfl⟩, if_neg (by decide)]
        exact ((SJ 55 49 rfl).trans h49).symm
      · rw [if_neg z1]
        by_cases z2 : a = 55 ∧ m = 50
        · rw [if_pos z2, if_pos z2]
        · rw [if_neg z2, if_neg z2, if_neg z1]
    have S5 : sq I (up2 J' 55 50 (nI i)) := sq_u _ SJ rfl
    obtain ⟨A, eA, a72, a72b, a83, ak⟩ := jM (off := 21) (s := sL I q i) X (J := up2 (up2 J' 55 49 (nI q)) 55 50 (nI i)) (by rw [e49]; exact S5) (fun j hj => (j72 j hj).trans (h72 j hj)) H (by decide) (by decide) (fun K h55 h64 a k ha hk => by
      rw [e_says2 (J := K) (q := q) (cc := i) (by rw [h55]; rfl) (by rw [h55]; rfl) (by omega) (by omega) a k (by omega) hk, h64, show (up2 (up2 J' 55 49 (nI q)) 55 50 (nI i)) 64 = J' 64 from rfl, sq_c SJ (k := 64) rfl, i64 a k ha hk]; rfl)
    have SB : sq I (up2 A 55 49 (-1)) := fun a m ma => by
      rw [← S5 a m ma, ← e49]
      unfold up2
      by_cases z1 : a = 55 ∧ m = 49
      · rw [if_pos z1, if_pos z1]
      · rw [if_neg z1, if_neg z1]
        exact nS ak a m ma
    have eW := mT X SB a83 (off := 21) (by decide) (P := jd I t ls c p y (sL I q i)) (fun u hu => ⟨a72 u hu, jd4 _ u hu⟩) hq
    have e1 : gm (gg I t w ls c p y q) (i + 1) = if gg I t w ls c p y q i ≤ gm (gg I t w ls c p y q) i then gm (gg I t w ls c p y q) i else gg I t w ls c p y q i := rfl
    have e2 : gb (gg I t w ls c p y q) (i + 1) = if gg I t w ls c p y q i ≤ gm (gg I t w ls c p y q) i then gb (gg I t w ls c p y q) i else nI i := rfl
    refine ⟨(gb (gg I t w ls c p y q) (i + 1), gm (gg I t w ls c p y q) (i + 1), nI (i + 1), up2 A 55 49 (-1)), ?_, _, rfl, SB, ?_, ?_⟩
    · show (if J' 55 2 ≤ nI i then _ else _) = _
      rw [hc, if_neg (nI_ge hi (by omega)), am_let_s, am_let_s, show F_X12_judges_55 (up2 (up2 J' 55 49 (nI q)) 55 50 (nI i)) (21 : Int32) = _ from eA, am_b1_s, am_let_s, show F_X12_worthOf_55 (up2 A 55 49 (-1)) (nI q) (21 : Int32) = _ from eW, am_b1_s, am_let_s, am_let_s, am_let_s, nI_1, e1, e2]
      by_cases z : gg I t w ls c p y q i ≤ gm (gg I t w ls c p y q) i
      · rw [if_pos z, if_pos z, if_neg (Int32.not_lt.mpr (show wV I t w q (hN I q) (jd I t ls c p y (sL I q i)) - wV I t w q (hN I q) (jd I t ls c p y (sT I)) ≤ _ from z))]
      · rw [if_neg z, if_neg z, if_pos (show _ < wV I t w q (hN I q) (jd I t ls c p y (sL I q i)) - wV I t w q (hN I q) (jd I t ls c p y (sT I)) from Int32.not_le.mp z)]
        rfl
    · rw [up2_k _ _ (by decide), ak 3 (by decide) (by decide) (by decide) (by decide) (by decide)]; exact j3
    · intro j hj
      rw [up2_k _ _ (by decide), a72b j (Or.inl (by omega))]; exact j72 j hj
  · rintro x ⟨J', rfl, SJ, j3, j72⟩
    have hc : J' 55 2 = nI c := by rw [SJ 55 2 rfl]; exact X.2.1.1.2
    refine ⟨_, ?_, J', rfl, SJ, j3, j72⟩
    show (if J' 55 2 ≤ nI c then _ else _) = _
    rw [hc, if_pos (nI_le (Nat.le_refl c) (by omega))]
  · rintro e1 e2 e3 ⟨J', hx, SJ, j3, j72⟩
    have h1 : e1 = gb (gg I t w ls c p y q) c := congrArg (fun z => z.1) hx
    have h2 : e2 = gm (gg I t w ls c p y q) c := congrArg (fun z => z.2.1) hx
    have h3 : e3 = J' := congrArg (fun z => z.2.2) hx
    rw [h1, h2, h3]
    refine ⟨J', ?_, SJ, j3, j72⟩
    by_cases z : a2 = 0
    · rw [if_pos z, if_pos z]
    · rw [if_neg z, if_neg z]
theorem op_19 : am_op19 RI := by
  intro b I a1 a2 hR
  have hR0 := hR
  obtain ⟨c, w, p, t, y, d, ln, n, X, -, rmi, -⟩ := hR
  have hp1 : I 1 4 = nI p := X.2.1.2.2.2.2.1.1
  have hp2 : I 55 5 = nI p := X.2.1.2.2.2.2.1.2
  have b4 : p ≤ 7 := X.1.2.2.2.1
  have no : F_X11_gains_0 I a1 a2 = some (-100000, I) → F_X12_gains_55 I a1 a2 = some (-100000, up2 I 55 0 0) → ∃ (r : Int32) (I1 : am_IT) (I2 : am_IT), F_X11_gains_0 I a1 a2 = some (r, I1) ∧ F_X12_gains_55 I1 a1 a2 = some (r, I2) ∧ RI b I2 := fun h1 h2 => ⟨_, I, _, h1, h2, RI_sm (sm_u 0 rfl) hR0⟩
  rcases gd_cases a1 (n := p) (by omega) with g1 | ⟨g1, q, hq, rfl⟩
  · refine no ?_ ?_
    · unfold F_X11_gains_0; rw [gP1 (n := p) hp1, am_b1_s, g1, if_pos rfl]
    · unfold F_X12_gains_55; rw [am_let_s, gP2 (I := up2 I 55 0 0) (n := p) hp2, am_b1_s, g1, if_pos rfl]
  rcases gr_cases a2 (m := 1) (n := 1) rfl (by decide) with g5 | ⟨g5, k, hk, rfl⟩
  · refine no ?_ ?_
    · have h0 : ¬ a2 = 0 := by rintro rfl; exact absurd g5 (by decide)
      have h1 : ¬ a2 = 1 := by rintro rfl; exact absurd g5 (by decide)
      unfold F_X11_gains_0; rw [gP1 (n := p) hp1, am_b1_s, g1, if_neg (by decide), if_neg h0, if_neg h1]
    · unfold F_X12_gains_55; rw [am_let_s, gP2 (I := up2 I 55 0 0) (n := p) hp2, am_b1_s, g1, if_neg (by decide), gR2, am_b1_s, g5, if_pos rfl]
  obtain ⟨ls, H⟩ := rLs_ex X
  obtain ⟨K, e, k1, k2, kk⟩ := e_ws X (sq_r I) rfl hq H
  have SK : sq I K := fun a m ma => by
      rw [kk a (st_ne (fun _ => rfl) ma) (st_ne (fun _ => rfl) ma) (st_ne (fun _ => rfl) ma) (st_ne (fun _ => rfl) ma) (st_ne (fun _ => rfl) ma) (st_ne (fun _ => rfl) ma)]
  have k3 : K 3 = I 3 := kk 3 (by decide) (by decide) (by decide) (by decide) (by decide) (by decide)
  have k72 : K 72 = I 72 := kk 72 (by decide) (by decide) (by decide) (by decide) (by decide) (by decide)
  obtain ⟨L, e2, SL, l3, l72⟩ := e_gm (a2 := nI k) X SK rmi.2.1 (fun j _ => by rw [k72]) hq g5 H
  refine ⟨_, K, L, ?_, e2, RI_sm (sq_3 SL (l3.trans k3) (fun j hj => by rw [l72 j hj, k72])) hR0⟩
  unfold F_X11_gains_0
  rw [gP1 (n := p) hp1, am_b1_s, g1, if_neg (by decide), e, am_b1_s, k1, k2]
  rcases (show k = 0 ∨ k = 1 by omega) with rfl | rfl
  · repeat rw [if_pos (show nI 0 = 0 from rfl)]
  · repeat rw [if_neg (show ¬ nI 1 = 0 by decide)]
    rw [if_pos (show nI 1 = 1 from rfl)]
