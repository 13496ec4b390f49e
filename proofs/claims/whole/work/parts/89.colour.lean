/-! colour, become, best -/
theorem jR {I J : am_IT} {c w p t y d ln : Nat} {ls : List (Nat × List rOp)} (X : cx I c w p t y d ln) (S : sq I J) (h49 : I 55 49 = -1) (h72 : ∀ j, j < 7 → J 72 j = I 72 j) (H : rLs ls ln (I 11 1) (I 12) (I 13) (I 14) (I 75) (I 76) (I 77) (I 78) (I 79)) :
    ∃ K, F_X12_judges_55 J (7 : Int32) = some K ∧ (∀ u, u < w → K 72 (7 + u) = nI (jd I t ls c p y (sT I) u)) ∧ (∀ j, j < 7 → K 72 j = J 72 j) ∧ sq I K ∧ K 3 = J 3 := by
  have b2 : c ≤ 4 := X.1.2.1
  have b4 : p ≤ 7 := X.1.2.2.2.1
  have rsa := X.2.2.2.2.2.2.2.2.1
  obtain ⟨K, e, k72, k72b, k83, kk⟩ := jM (off := 7) (s := sT I) X (J := J) (by rw [up2_id (S 55 49 rfl |>.trans h49)]; exact S) h72 H (by decide) (by decide) (fun K h55 h64 i k hi hk => by
    rw [e_says (I := K) (q := i) (k := k) (by rw [h55]; exact (S 55 49 rfl).trans h49) (by omega) hk, h64, sq_c S (k := 64) rfl, ← (rsa.1 (4 * i + k) (by omega)).1]; rfl)
  refine ⟨K, e, k72, fun j hj => k72b j (Or.inl hj), fun a i ma => ?_, kk 3 (by decide) (by decide) (by decide) (by decide) (by decide)⟩
  rw [kk a (stc_ne ma).2 (st_ne (fun _ => rfl) ma) (st_ne (fun _ => rfl) ma) (st_ne (fun _ => rfl) ma) (st_ne (fun _ => rfl) ma)]; exact S a i ma
theorem op_17 : am_op17 RI := by
  intro b I a1 a2 hR
  have hR0 := hR
  obtain ⟨c, w, p, t, y, d, ln, n, X, -, rmi, -⟩ := hR
  have hw1 : I 1 3 = nI w := X.2.1.2.2.2.1.1
  have hw2 : I 55 4 = nI w := X.2.1.2.2.2.1.2
  have b3 : w ≤ 7 := X.1.2.2.1
  have no : F_X11_colour_0 I a1 a2 = some (-1, I) → F_X12_colour_55 I a1 a2 = some (-1, up2 I 55 0 0) → ∃ (r : Int32) (I1 : am_IT) (I2 : am_IT), F_X11_colour_0 I a1 a2 = some (r, I1) ∧ F_X12_colour_55 I1 a1 a2 = some (r, I2) ∧ RI b I2 := fun h1 h2 => ⟨_, I, _, h1, h2, RI_sm (sm_u 0 rfl) hR0⟩
  rcases gd_cases a1 (n := w) (by omega) with g1 | ⟨g1, u, hu, rfl⟩
  · refine no ?_ ?_
    · unfold F_X11_colour_0; rw [gW1 (n := w) hw1, am_b1_s, g1, if_pos rfl]
    · unfold F_X12_colour_55; rw [am_let_s, gW2 (I := up2 I 55 0 0) (n := w) hw2, am_b1_s, g1, if_pos rfl]
  rcases gr_cases a2 (m := 2) (n := 2) rfl (by decide) with g2 | ⟨g2, k, hk, rfl⟩
  · refine no ?_ ?_
    · unfold F_X11_colour_0; rw [gW1 (n := w) hw1, am_b1_s, g1, if_neg (by decide), gR1, am_b1_s, g2, if_pos rfl]
    · unfold F_X12_colour_55; rw [am_let_s, gW2 (I := up2 I 55 0 0) (n := w) hw2, am_b1_s, g1, if_neg (by decide), gR2, am_b1_s, g2, if_pos rfl]
  have hx : am_ix (nI u) 7 = true := am_ix_nI (by omega) (by decide)
  have e2 : ∀ {L : am_IT}, L 55 4 = nI w → F_X12_colour_55 L (nI u) (nI k) = (if nI k = 0 then (if am_ix ((0 : Int32) + nI u) 35 = true then (some ((up2 L 55 0 0) 72 ((0 : Int32) + nI u).toNatClampNeg, up2 L 55 0 0)) else none) else (if nI k = (1 : Int32) then (am_b1 (F_X12_judges_55 (up2 L 55 0 0) (7 : Int32)) (fun (I_16 : am_IT) => if am_ix ((7 : Int32) + nI u) 35 = true then (some (I_16 72 ((7 : Int32) + nI u).toNatClampNeg, I_16)) else none)) else (am_b1 (F_X12_findsBest_55 (up2 L 55 0 0)) (fun (I_13 : am_IT) => if am_ix ((14 : Int32) + nI u) 35 = true then (some (I_13 72 ((14 : Int32) + nI u).toNatClampNeg, I_13)) else none)))) := by
    intro L hL
    unfold F_X12_colour_55
    rw [am_let_s, gW2 (I := up2 L 55 0 0) (n := w) hL, am_b1_s, g1, if_neg (by decide), gR2, am_b1_s, g2, if_neg (by decide)]
  have e1 : F_X11_colour_0 I (nI u) (nI k) = (if nI k = 0 then (if am_ix (nI u) 7 = true then (some (I 3 (nI u).toNatClampNeg, I)) else none) else (am_b2 (F_X11_imagined_0 I (nI k)) (fun (r_11 : Nat) (I_12 : am_IT) => if r_11 = 26 then (if am_ix (nI u) 7 = true then (some (I_12 26 (nI u).toNatClampNeg, I_12)) else none) else (if r_11 = 31 then (if am_ix (nI u) 7 = true then (some (I_12 31 (nI u).toNatClampNeg, I_12)) else none) else (none))))) := by
    unfold F_X11_colour_0
    rw [gW1 (n := w) hw1, am_b1_s, g1, if_neg (by decide), gR1, am_b1_s, g2, if_neg (by decide)]
  obtain ⟨pc, p3, p72⟩ := pN_ok X hu
  rcases (show k = 0 ∨ k = 1 ∨ k = 2 by omega) with rfl | rfl | rfl
  · refine ⟨nI (pN I u), I, up2 I 55 0 0, ?_, ?_, RI_sm (sm_u 0 rfl) hR0⟩
    · rw [e1, if_pos nI_0, if_pos hx, nI_clamp (by omega), p3]
    · rw [e2 hw2, if_pos nI_0, show (0 : Int32) + nI u = nI u from Int32.zero_add _, if_pos (am_ix_nI (by omega) (by decide)), nI_clamp (by omega), up2_k _ _ (by decide), p72]
  · obtain ⟨ls, H⟩ := rLs_ex X
    obtain ⟨K, eK, k26, -, kk⟩ := jC_8 X (sq_r I) rfl H (s := sT I) (fun i k _ _ => rfl)
    have SK : sq I K := fun a m ma => by rw [kk a (st_ne (fun _ => rfl) ma) (st_ne (fun _ => rfl) ma) (st_ne (fun _ => rfl) ma) (st_ne (fun _ => rfl) ma)]
    have k3 : K 3 = I 3 := kk 3 (by decide) (by decide) (by decide) (by decide)
    have k72 : K 72 = I 72 := kk 72 (by decide) (by decide) (by decide) (by decide)
    obtain ⟨L, eL, l72, l7, SL, l3⟩ := jR X (J := up2 K 55 0 0) (sq_u 0 SK rfl) rmi.2.1 (fun j _ => by rw [up2_k _ _ (by decide), k72]) H
    refine ⟨nI (jd I t ls c p y (sT I) u), K, L, ?_, ?_, RI_sm (sq_3 SL (by rw [l3, up2_k _ _ (by decide), k3]) (fun j hj => by rw [l7 j hj, up2_k _ _ (by decide), k72])) hR0⟩
    · rw [e1, if_neg (show ¬ nI 1 = 0 by decide)]
      unfold F_X11_imagined_0
      rw [if_pos (show nI 1 = 1 from rfl), eK, am_b1_s, am_b2_s, if_pos rfl, if_pos hx, nI_clamp (by omega), k26 u hu]
    · rw [e2 (by rw [SK 55 4 rfl]; exact hw2), if_neg (show ¬ nI 1 = 0 by decide), if_pos (show nI 1 = 1 from rfl), eL, am_b1_s, show (7 : Int32) + nI u = nI (7 + u) from nI_add 7 u, if_pos (am_ix_nI (by omega) (by decide)), nI_clamp (by omega), l72 u hu]
  · obtain ⟨K, eK, k31, -, kk⟩ := e_ch X (sq_r I)
    have SK : sq I K := fun a m ma => by rw [kk a (st_ne (fun _ => rfl) ma) (st_ne (fun _ => rfl) ma) (st_ne (fun _ => rfl) ma) (st_ne (fun _ => rfl) ma) (st_ne (fun _ => rfl) ma) (st_ne (fun _ => rfl) ma) (st_ne (fun _ => rfl) ma)]
    have k3 : K 3 = I 3 := kk 3 (by decide) (by decide) (by decide) (by decide) (by decide) (by decide) (by decide)
    have k72 : K 72 = I 72 := kk 72 (by decide) (by decide) (by decide) (by decide) (by decide) (by decide) (by decide)
    obtain ⟨L, eL, SL, l3, l72, ly, -, lm⟩ := e_fb X (J := up2 K 55 0 0) (sq_u 0 SK rfl)
    have hN0 := (c7 (c := c) (w := w) (by have : 2 ≤ c := X.1.1; omega) X.1.2.1 b3).1
    obtain ⟨-, -, -, l14, -⟩ := lm hN0
    refine ⟨nI (bP I t w c p 100 u), K, L, ?_, ?_, RI_sm (sq_3 SL (by rw [l3, up2_k _ _ (by decide), k3]) (fun j hj => by rw [l72 j (by omega), up2_k _ _ (by decide), k72])) hR0⟩
    · rw [e1, if_neg (show ¬ nI 2 = 0 by decide)]
      unfold F_X11_imagined_0
      rw [if_neg (show ¬ nI 2 = 1 by decide), eK, am_b2_s, am_b2_s, if_neg (by decide), if_pos rfl, if_pos hx, nI_clamp (by omega), k31 u hu]
    · rw [e2 (by rw [SK 55 4 rfl]; exact hw2), if_neg (show ¬ nI 2 = 0 by decide), if_neg (show ¬ nI 2 = 1 by decide), eL, am_b1_s, show (14 : Int32) + nI u = nI (14 + u) from nI_add 14 u, if_pos (am_ix_nI (by omega) (by decide)), nI_clamp (by omega), l14 u hu]
      rfl
theorem ado {b : Bool} {I K L : am_IT} {c w p t y d ln : Nat} {P : Nat → Nat} {a m : Nat → Int32} (X : cx I c w p t y d ln) (hR : RI b I) (SL : sq I L) (k3 : L 3 = fun j => if j < w then a j else I 3 j) (l72 : L 72 = fun j => if j < w then m j else K 72 j) (ha : ∀ u, u < w → a u = nI (P u)) (hm : ∀ u, u < w → m u = nI (P u)) (hP : ∀ u, u < w → P u < c) : RI b L := by
  refine RI_pt SL hR (fun c' w' h1 h2 h3 h4 => ?_)
  have b2 : c ≤ 4 := X.1.2.1
  have b3 : w ≤ 7 := X.1.2.2.1
  have ec : c' = c := (nI_eq (by omega) (by omega)).mp (h1.symm.trans X.2.1.1.1)
  have ew : w' = w := (nI_eq (by omega) (by omega)).mp (h2.symm.trans X.2.1.2.2.2.1.1)
  subst ec
  subst ew
  intro u hu
  rw [k3, l72]
  show (if u < w' then a u else I 3 u) = (if u < w' then m u else K 72 u) ∧ vb c' (if u < w' then a u else I 3 u)
  rw [if_pos hu, if_pos hu, ha u hu, hm u hu]
  exact ⟨rfl, _, hP u hu, rfl⟩
theorem op_18 : am_op18 RI := by
  intro b I a1 hR
  have hR0 := hR
  obtain ⟨c, w, p, t, y, d, ln, n, X, -, rmi, -⟩ := hR
  have hw1 : I 1 3 = nI w := X.2.1.2.2.2.1.1
  have hw2 : I 55 4 = nI w := X.2.1.2.2.2.1.2
  have b3 : w ≤ 7 := X.1.2.2.1
  have b2 : c ≤ 4 := X.1.2.1
  have n3 : ∀ {A : am_IT} {f : Nat → Int32}, sq I A → sq I (st2 A 3 f) := fun {A f} h a i ma => by rw [st2_k _ _ (stc_ne ma).1]; exact h a i ma
  have n72 : ∀ {A : am_IT} {f : Nat → Int32}, sq I A → sq I (st2 A 72 f) := fun {A f} h a i ma => by rw [st2_k _ _ (stc_ne ma).2]; exact h a i ma
  by_cases z1 : a1 = 1
  · subst z1
    obtain ⟨ls, H⟩ := rLs_ex X
    obtain ⟨K, eK, k26, -, kk⟩ := jC_8 X (sq_r I) rfl H (s := sT I) (fun i k _ _ => rfl)
    have SK : sq I K := fun a m ma => by rw [kk a (st_ne (fun _ => rfl) ma) (st_ne (fun _ => rfl) ma) (st_ne (fun _ => rfl) ma) (st_ne (fun _ => rfl) ma)]
    have k3 : K 3 = I 3 := kk 3 (by decide) (by decide) (by decide) (by decide)
    have k72 : K 72 = I 72 := kk 72 (by decide) (by decide) (by decide) (by decide)
    have eA := e_ad_26 (I := K) (w := w) (by rw [sq_c SK (k := 1) rfl]; exact hw1) b3
    have SA : sq I (up2 (st2 K 3 (fun j => if j < w then K 26 j else K 3 j)) 55 0 0) := sq_u 0 (n3 SK) rfl
    obtain ⟨L, eL, l72, l7, SL, l3⟩ := jR X SA rmi.2.1 (fun j _ => by rw [up2_k _ _ (by decide), st2_k _ _ (by decide), k72]) H
    have eB := e_be (I := L) (w := w) (off := 7) (by rw [SL 55 4 rfl]; exact hw2) b3 (by decide) (by decide)
    refine ⟨ac (K 3) (K 26) w, st2 K 3 (fun j => if j < w then K 26 j else K 3 j), st2 L 72 (fun j => if j < w then L 72 (7 + j) else L 72 j), ?_, ?_, ?_⟩
    · unfold F_X11_become_0 F_X11_imagined_0
      rw [if_pos rfl, if_pos rfl, eK, am_b1_s, am_b2_s, if_pos rfl, eA, am_b2_s]
    · unfold F_X12_become_55
      rw [am_let_s, gR2, am_b1_s, show gr 1 1 2 = 1 by decide, if_neg (by decide), if_pos rfl, eL, am_b1_s, am_b1_s, if_pos rfl, am_b1_s, show F_X12_becomes_55 L (7 : Int32) = _ from eB, am_b2_s]
      refine congrArg (fun z => some (z, _)) (ac_c (fun j hj => ⟨?_, ?_⟩))
      · rw [l7 j (by omega), up2_k _ _ (by decide), st2_k _ _ (by decide), k72, k3, (pN_ok X hj).2.1, (pN_ok X hj).2.2]
      · rw [l72 j hj, k26 j hj]
    · exact ado (K := L) (P := jd I t ls c p y (sT I)) (a := K 26) (m := fun j => L 72 (7 + j)) X hR0 (n72 SL) (by rw [st2_k _ _ (by decide), l3, up2_k _ _ (by decide), st2_s, k3]) (st2_s _ _ _) k26 l72 (fun u hu => (jd_ok X hu ls (sT I)).2)
  by_cases z2 : a1 = 2
  · subst z2
    obtain ⟨K, eK, k31, -, kk⟩ := e_ch X (sq_r I)
    have SK : sq I K := fun a m ma => by rw [kk a (st_ne (fun _ => rfl) ma) (st_ne (fun _ => rfl) ma) (st_ne (fun _ => rfl) ma) (st_ne (fun _ => rfl) ma) (st_ne (fun _ => rfl) ma) (st_ne (fun _ => rfl) ma) (st_ne (fun _ => rfl) ma)]
    have k3 : K 3 = I 3 := kk 3 (by decide) (by decide) (by decide) (by decide) (by decide) (by decide) (by decide)
    have k72 : K 72 = I 72 := kk 72 (by decide) (by decide) (by decide) (by decide) (by decide) (by decide) (by decide)
    have eA := e_ad_31 (I := K) (w := w) (by rw [sq_c SK (k := 1) rfl]; exact hw1) b3
    have SA : sq I (up2 (st2 K 3 (fun j => if j < w then K 31 j else K 3 j)) 55 0 0) := sq_u 0 (n3 SK) rfl
    obtain ⟨L, eL, SL, l3, l7, ly, -, lm⟩ := e_fb X SA
    have hN0 := (c7 (c := c) (w := w) (by have : 2 ≤ c := X.1.1; omega) X.1.2.1 b3).1
    obtain ⟨-, -, -, l14, -⟩ := lm hN0
    have eB := e_be (I := L) (w := w) (off := 14) (by rw [SL 55 4 rfl]; exact hw2) b3 (by decide) (by decide)
    refine ⟨ac (K 3) (K 31) w, st2 K 3 (fun j => if j < w then K 31 j else K 3 j), st2 L 72 (fun j => if j < w then L 72 (14 + j) else L 72 j), ?_, ?_, ?_⟩
    · unfold F_X11_become_0 F_X11_imagined_0
      rw [if_neg (by decide), if_pos rfl, if_neg (by decide), eK, am_b2_s, am_b2_s, if_neg (by decide), if_pos rfl, eA, am_b2_s]
    · unfold F_X12_become_55
      rw [am_let_s, gR2, am_b1_s, show gr 2 1 2 = 1 by decide, if_neg (by decide), if_neg (by decide), eL, am_b1_s, am_b1_s, if_neg (by decide), am_b1_s, show F_X12_becomes_55 L (14 : Int32) = _ from eB, am_b2_s]
      refine congrArg (fun z => some (z, _)) (ac_c (fun j hj => ⟨?_, ?_⟩))
      · rw [l7 j (by omega), up2_k _ _ (by decide), st2_k _ _ (by decide), k72, k3, (pN_ok X hj).2.1, (pN_ok X hj).2.2]
      · rw [l14 j hj, k31 j hj]; rfl
    · exact ado (K := L) (P := bP I t w c p 100) (a := K 31) (m := fun j => L 72 (14 + j)) X hR0 (n72 SL) (by rw [st2_k _ _ (by decide), l3, up2_k _ _ (by decide), st2_s, k3]) (st2_s _ _ _) k31 l14 (fun u hu => bP_lt X u)
  · have g : gr a1 1 2 = 0 := by
      rcases gr01 a1 1 2 with g | g
      · exact g
      · exfalso
        obtain ⟨k, hk, rfl⟩ := gr1_of (m := 2) (n := 2) rfl (by decide) g
        rcases (show k = 0 ∨ k = 1 ∨ k = 2 by omega) with rfl | rfl | rfl
        · exact absurd g (by decide)
        · exact z1 rfl
        · exact z2 rfl
    refine ⟨-1, I, up2 I 55 0 0, ?_, ?_, RI_sm (sm_u 0 rfl) hR0⟩
    · unfold F_X11_become_0
      rw [if_neg z1, if_neg z2]
    · unfold F_X12_become_55
      rw [am_let_s, gR2, am_b1_s, g, if_pos rfl]
