/-! a round of the reference; trade, stand -/
theorem e_rM {I J : am_IT} {c w p t y d ln : Nat} {P : Nat → Nat} (X : cx I c w p t y d ln) (S : sq I J) (hP : ∀ u, u < w → J 72 u = nI (P u)) (hPc : ∀ u, u < w → P u < c) :
    ∃ K, F_X12_round_55 J = some (nI (rOut I t w c p p (0, P)).1, K) ∧ (∀ u, u < w → K 72 u = nI ((rOut I t w c p p (0, P)).2 u)) ∧ (∀ j, w ≤ j → K 72 j = J 72 j) ∧ ∀ k, k ≠ 72 → k ≠ 83 → K k = J k := by
  have b4 : p ≤ 7 := X.1.2.2.2.1
  have b3 : w ≤ 7 := X.1.2.2.1
  obtain ⟨A, eA, a83, ak⟩ := fy X S
  have SA : sq I A := sq_x S (fun _ => rfl) ak
  have SJ : ∀ {L : am_IT}, (∀ k, k ≠ 72 → L k = A k) → sq I L := fun {L} h => sq_x SA (fun j => by unfold stc; simp) h
  have p2 : ∀ {L : am_IT}, (∀ k, k ≠ 72 → L k = A k) → L 55 5 = nI p := fun {L} h => by rw [(SJ h) 55 5 rfl]; exact X.2.1.2.2.2.2.1.2
  unfold F_X12_round_55
  rw [eA, am_b1_s]
  refine it_b2_inv (R := fun z => ∃ K : am_IT, z = some (nI (rOut I t w c p p (0, P)).1, K) ∧ (∀ u, u < w → K 72 u = nI ((rOut I t w c p p (0, P)).2 u)) ∧ (∀ j, w ≤ j → K 72 j = J 72 j) ∧ ∀ k, k ≠ 72 → k ≠ 83 → K k = J k)
    (fun i x => ∃ J' : am_IT, x = (nI (rOut I t w c p i (0, P)).1, nI i, J') ∧ (∀ u, u < w → J' 72 u = nI ((rOut I t w c p i (0, P)).2 u)) ∧ (∀ j, w ≤ j → J' 72 j = J 72 j) ∧ ∀ k, k ≠ 72 → J' k = A k)
    (fun x => ∃ J' : am_IT, x = (nI (rOut I t w c p p (0, P)).1, J') ∧ (∀ u, u < w → J' 72 u = nI ((rOut I t w c p p (0, P)).2 u)) ∧ (∀ j, w ≤ j → J' 72 j = J 72 j) ∧ ∀ k, k ≠ 72 → J' k = A k) (n := p) (by omega) ?_ ?_ ⟨A, rfl, fun u hu => by rw [ak 72 (by decide)]; exact hP u hu, fun j _ => by rw [ak 72 (by decide)], fun _ _ => rfl⟩ ?_
  · rintro i x hi ⟨J', rfl, j1, j3, j2⟩
    have o1 := (rOut_ok (I := I) (t := t) (p := p) (s := (0, P)) hPc i).1
    rw [am_u3_s, p2 j2, if_neg (nI_ge hi (by omega)), am_let_s, nI_1]
    refine it_b2_inv (R := fun (z : Option ((Int32 × Int32 × am_IT) ⊕ (Int32 × am_IT))) => ∃ y : Int32 × Int32 × am_IT, z = some (.inl y) ∧ ∃ J' : am_IT, y = (nI (rOut I t w c p (i + 1) (0, P)).1, nI (i + 1), J') ∧ (∀ u, u < w → J' 72 u = nI ((rOut I t w c p (i + 1) (0, P)).2 u)) ∧ (∀ j, w ≤ j → J' 72 j = J 72 j) ∧ ∀ k, k ≠ 72 → J' k = A k)
      (fun k x => ∃ L : am_IT, x = (nI (rIn I t w c i k (rOut I t w c p i (0, P))).1, nI (i + 1 + k), L) ∧ (∀ u, u < w → L 72 u = nI ((rIn I t w c i k (rOut I t w c p i (0, P))).2 u)) ∧ (∀ j, w ≤ j → L 72 j = J 72 j) ∧ ∀ k, k ≠ 72 → L k = A k)
      (fun x => ∃ L : am_IT, x = (nI (rOut I t w c p (i + 1) (0, P)).1, L) ∧ (∀ u, u < w → L 72 u = nI ((rOut I t w c p (i + 1) (0, P)).2 u)) ∧ (∀ j, w ≤ j → L 72 j = J 72 j) ∧ ∀ k, k ≠ 72 → L k = A k) (n := p - (i + 1)) (by omega) ?_ ?_ ⟨J', rfl, j1, j3, j2⟩ ?_
    · rintro k x hk ⟨L, rfl, l1, l3, l2⟩
      have o2 := (rIn_ok (I := I) (t := t) (q := i) o1 k).1
      have eK := e_to (q := i) (r := i + 1 + k) X (SJ l2) (fun h u hh hu => by rw [l2 83 (by decide)]; exact a83 h u hh hu) (P := (rIn I t w c i k (rOut I t w c p i (0, P))).2) (fun u hu => ⟨l1 u hu, o2 u hu⟩) hi (by omega)
      rw [am_u3_s, p2 l2, if_neg (nI_ge (show i + 1 + k < p by omega) (by omega)), eK]
      cases hz : trS I t w c i (i + 1 + k) (rIn I t w c i k (rOut I t w c p i (0, P))).2 with
      | none =>
        have es : rIn I t w c i (k + 1) (rOut I t w c p i (0, P)) = rIn I t w c i k (rOut I t w c p i (0, P)) := stp_n hz
        exact ⟨_, by rw [fe_n, am_b2_s, if_pos rfl, am_let_s, nI_1], L, by rw [es]; rfl, by rw [es]; exact l1, l3, l2⟩
      | some z =>
        obtain ⟨h1, h2, h3, h4⟩ := trS_in hz
        have es : rIn I t w c i (k + 1) (rOut I t w c p i (0, P)) = ((rIn I t w c i k (rOut I t w c p i (0, P))).1 + 1, pu (pu (rIn I t w c i k (rOut I t w c p i (0, P))).2 z.1 z.2.2.1) z.2.1 z.2.2.2) := stp_y hz
        refine ⟨_, by rw [fe_s, am_b2_s, if_neg (by decide), am_let_s, am_let_s, nI_1, nI_1], pt72 L z, by rw [es]; rfl, ?_, ?_, ?_⟩
        · intro u hu
          rw [es]
          show (up2 (up2 L 72 z.1 (nI z.2.2.1)) 72 z.2.1 (nI z.2.2.2)) 72 u = nI (pu (pu _ z.1 z.2.2.1) z.2.1 z.2.2.2 u)
          rw [up2_r, up2_r, l1 u hu]
          unfold pu
          by_cases z1 : u = z.2.1
          · rw [if_pos z1, if_pos z1]
          · rw [if_neg z1, if_neg z1]
            by_cases z2 : u = z.1
            · rw [if_pos z2, if_pos z2]
            · rw [if_neg z2, if_neg z2]
        · intro j hj
          show (up2 (up2 L 72 z.1 (nI z.2.2.1)) 72 z.2.1 (nI z.2.2.2)) 72 j = _
          rw [up2_j _ _ (show j ≠ z.2.1 by omega), up2_j _ _ (show j ≠ z.1 by omega)]; exact l3 j hj
        · intro a a1
          show (up2 (up2 L 72 z.1 (nI z.2.2.1)) 72 z.2.1 (nI z.2.2.2)) a = _
          rw [up2_k _ _ a1, up2_k _ _ a1]; exact l2 a a1
    · rintro x ⟨L, rfl, l1, l3, l2⟩
      exact ⟨_, by rw [am_u3_s, p2 l2, if_pos (nI_le (show p ≤ i + 1 + (p - (i + 1)) by omega) (by omega))] <;> rfl, L, rfl, l1, l3, l2⟩
    · rintro e1 e2 ⟨L, hx, l1, l3, l2⟩
      have h1 : e1 = nI (rOut I t w c p (i + 1) (0, P)).1 := congrArg (fun z => z.1) hx
      have h2 : e2 = L := congrArg (fun z => z.2) hx
      rw [h1, h2]
      exact ⟨_, by rw [am_let_s], L, rfl, l1, l3, l2⟩
  · rintro x ⟨J', rfl, j1, j3, j2⟩
    exact ⟨_, by rw [am_u3_s, p2 j2, if_pos (nI_le (Nat.le_refl p) (by omega))], J', rfl, j1, j3, j2⟩
  · rintro e1 e2 ⟨L, hx, l1, l3, l2⟩
    have h1 : e1 = nI (rOut I t w c p p (0, P)).1 := congrArg (fun z => z.1) hx
    have h2 : e2 = L := congrArg (fun z => z.2) hx
    rw [h1, h2]
    exact ⟨L, rfl, l1, l3, fun k h72 h83 => by rw [l2 k h72]; exact ak k h83⟩
theorem op_21 : am_op21 RI := by
  intro b I _ hR
  have hR0 := hR
  obtain ⟨c, w, p, t, y, d, ln, n, X, -, -, -⟩ := hR
  have hPc : ∀ u, u < w → pN I u < c := fun u hu => (pN_ok X hu).1
  obtain ⟨A, eA, ya, ak⟩ := ms X (sq_r I)
  have SA : sq I A := sq_x (sq_r I) (fun _ => rfl) ak
  obtain ⟨K, eK, k3, kk⟩ := e_rd_3 X SA ya (P := pN I) (fun u hu => by rw [ak 3 (by decide)]; exact (pN_ok X hu).2.1) hPc
  have SK : sq I K := fun a m ma => by rw [kk a (stc_ne ma).1 (st_ne (fun _ => rfl) ma) (st_ne (fun _ => rfl) ma)]; exact SA a m ma
  have k72 : K 72 = I 72 := by rw [kk 72 (by decide) (by decide) (by decide), ak 72 (by decide)]
  obtain ⟨L, eL, l72, l3, lk⟩ := e_rM X (J := up2 K 55 0 0) (sq_u 0 SK rfl) (P := pN I) (fun u hu => by rw [up2_k _ _ (by decide), k72]; exact (pN_ok X hu).2.2) hPc
  have SL : sq I L := fun a m ma => by rw [lk a (stc_ne ma).2 (st_ne (fun _ => rfl) ma)]; exact (sq_u 0 SK rfl : sq I (up2 K 55 0 0)) a m ma
  refine ⟨nI (rOut I t w c p p (0, pN I)).1, K, L, ?_, ?_, RI_pt SL hR0 ?_⟩
  · unfold F_X11_trade_0
    rw [eA, am_b1_s, eK, am_b2_s]
  · unfold F_X12_trade_55
    rw [am_let_s, eL, am_b2_s]
  · intro c' w' h1 h2 h3 h4
    have b2 : c ≤ 4 := X.1.2.1
    have b3 : w ≤ 7 := X.1.2.2.1
    have ec : c' = c := (nI_eq (by omega) (by omega)).mp (h1.symm.trans X.2.1.1.1)
    have ew : w' = w := (nI_eq (by omega) (by omega)).mp (h2.symm.trans X.2.1.2.2.2.1.1)
    subst ec
    subst ew
    have o := (rOut_ok (I := I) (t := t) (p := p) (s := (0, pN I)) hPc p).1
    intro u hu
    rw [l72 u hu, lk 3 (by decide) (by decide), up2_k _ _ (by decide), k3 u hu]
    exact ⟨rfl, _, o u hu, rfl⟩
/-- the painting after r rounds, how many trades in the r-th, in those before -/
def stS (I : am_IT) (t w c p : Nat) (P : Nat → Nat) : Nat → (Nat → Nat)
  | 0 => P
  | r + 1 => (rOut I t w c p p (0, stS I t w c p P r)).2
def stN (I : am_IT) (t w c p : Nat) (P : Nat → Nat) (r : Nat) : Nat := (rOut I t w c p p (0, stS I t w c p P r)).1
def stT (I : am_IT) (t w c p : Nat) (P : Nat → Nat) : Nat → Nat
  | 0 => 0
  | r + 1 => stT I t w c p P r + stN I t w c p P r
def stG (I : am_IT) (t w c p : Nat) (P : Nat → Nat) (r : Nat) : Option Nat := if stN I t w c p P r = 0 then some (stT I t w c p P r) else none
theorem stS_ok {I : am_IT} {t w c p : Nat} {P : Nat → Nat} (h : ∀ u, u < w → P u < c) : ∀ r, (∀ u, u < w → stS I t w c p P r u < c) ∧ stN I t w c p P r ≤ p * p
  | 0 => ⟨h, by
    have := (rOut_ok (I := I) (t := t) (p := p) (s := (0, P)) h p).2
    show (rOut I t w c p p (0, P)).1 ≤ _
    have e : (0, P).1 = 0 := rfl
    omega⟩
  | r + 1 => by
    have h1 := (stS_ok (p := p) (t := t) (I := I) h r).1
    have h2 := (rOut_ok (I := I) (t := t) (p := p) (s := (0, stS I t w c p P r)) h1 p).1
    refine ⟨h2, ?_⟩
    have := (rOut_ok (I := I) (t := t) (p := p) (s := (0, stS I t w c p P (r + 1))) h2 p).2
    show (rOut I t w c p p (0, stS I t w c p P (r + 1))).1 ≤ _
    have e : (0, stS I t w c p P (r + 1)).1 = 0 := rfl
    omega
theorem e_st1 {I : am_IT} {c w p t y d ln : Nat} (X : cx I c w p t y d ln) : ∃ K, F_X10_tradesTillRest_36 I = some ((fs (stG I t w c p (pN I)) 0 30).elim (-1) nI, K) ∧ ∀ k, k ≠ 24 → k ≠ 37 → k ≠ 38 → k ≠ 39 → K k = I k := by
  have hPc : ∀ u, u < w → pN I u < c := fun u hu => (pN_ok X hu).1
  have b3 : w ≤ 7 := X.1.2.2.1
  have b4 : p ≤ 7 := X.1.2.2.2.1
  have hpp : p * p ≤ 49 := Nat.mul_le_mul b4 b4
  obtain ⟨A, eA, ya, ak⟩ := ms X (sq_r I)
  unfold F_X10_tradesTillRest_36
  rw [eA, am_b1_s, if_pos (by decide), am_let_s]
  generalize hB : cpy2 A 3 37 (0 : Int32).toNatClampNeg (0 : Int32).toNatClampNeg (7 : Int32).toNatClampNeg = B
  have bk : ∀ k, k ≠ 37 → B k = A k := by
    intro k hk
    rw [← hB]
    funext j
    unfold cpy2
    rw [if_neg (fun z => hk z.1)]
  have b37 : ∀ u, u < w → B 37 u = nI (pN I u) := by
    intro u hu
    rw [← hB]
    unfold cpy2
    rw [if_pos ⟨rfl, Nat.zero_le _, by show u < 0 + 7; omega⟩, ← (pN_ok X hu).2.1, ak 3 (by decide)]
    exact congrArg (I 3) (by show 0 + (u - 0) = u; omega)
  have SB : sq I B := sq_x (sq_x (sq_r I) (fun _ => rfl) ak) (fun _ => rfl) bk
  refine it_lr_ex (R := fun z => ∃ K : am_IT, z = some ((fs (stG I t w c p (pN I)) 0 30).elim (-1) nI, K) ∧ ∀ k, k ≠ 24 → k ≠ 37 → k ≠ 38 → k ≠ 39 → K k = I k)
    (fun r x => ∃ J' : am_IT, x = (nI (stT I t w c p (pN I) r), nI r, J') ∧ (∀ u, u < w → J' 37 u = nI (stS I t w c p (pN I) r u)) ∧ (∀ k, k ≠ 37 → k ≠ 38 → k ≠ 39 → J' k = B k) ∧ fs (stG I t w c p (pN I)) 0 30 = fs (stG I t w c p (pN I)) r (30 - r))
    (fun e => (∃ J' : am_IT, e = .inl J' ∧ fs (stG I t w c p (pN I)) 0 30 = none ∧ ∀ k, k ≠ 37 → k ≠ 38 → k ≠ 39 → J' k = B k) ∨ (∃ (J' : am_IT) (m : Nat), e = .inr (nI m, J') ∧ fs (stG I t w c p (pN I)) 0 30 = some m ∧ ∀ k, k ≠ 37 → k ≠ 38 → k ≠ 39 → J' k = B k)) (n := 30) (by omega) ?_ ?_ ⟨B, rfl, b37, fun _ _ _ _ => rfl, rfl⟩ ?_
  · rintro r x hr ⟨J', rfl, j1, j2, j3⟩
    obtain ⟨s1, s2⟩ := stS_ok (I := I) (t := t) (p := p) hPc r
    have SJ : sq I J' := fun a m ma => by rw [j2 a (st_ne (fun _ => rfl) ma) (st_ne (fun _ => rfl) ma) (st_ne (fun _ => rfl) ma)]; exact SB a m ma
    obtain ⟨K, eK, k37, kk⟩ := e_rd_37 X SJ (fun h u hh hu => by rw [j2 24 (by decide) (by decide) (by decide), bk 24 (by decide)]; exact ya h u hh hu) (P := stS I t w c p (pN I) r) j1 s1
    have kB : ∀ k, k ≠ 37 → k ≠ 38 → k ≠ 39 → K k = B k := fun k h1 h2 h3 => by rw [kk k h1 h2 h3]; exact j2 k h1 h2 h3
    have e30 : 30 - r = (30 - (r + 1)) + 1 := by omega
    by_cases z : stN I t w c p (pN I) r = 0
    · refine Or.inr ⟨.inr (nI (stT I t w c p (pN I) r), K), ?_, Or.inr ⟨K, _, rfl, ?_, kB⟩⟩
      · rw [am_u3_s, if_neg (show ¬ (30 : Int32) ≤ nI r from nI_ge (a := r) (b := 30) hr (by decide)), eK, am_b2_s, if_pos (show nI (rOut I t w c p p (0, stS I t w c p (pN I) r)).1 = 0 by rw [show (rOut I t w c p p (0, stS I t w c p (pN I) r)).1 = 0 from z]; rfl)]
      · rw [j3, e30, fs_y (show stG I t w c p (pN I) r = some (stT I t w c p (pN I) r) from if_pos z)]
    · refine Or.inl ⟨(nI (stT I t w c p (pN I) (r + 1)), nI (r + 1), K), ?_, K, rfl, k37, kB, ?_⟩
      · rw [am_u3_s, if_neg (show ¬ (30 : Int32) ≤ nI r from nI_ge (a := r) (b := 30) hr (by decide)), eK, am_b2_s, if_neg (show ¬ nI (rOut I t w c p p (0, stS I t w c p (pN I) r)).1 = 0 from nI_ne0 (show 0 < stN I t w c p (pN I) r by omega) (show stN I t w c p (pN I) r < 2 ^ 31 by omega)), am_let_s, am_let_s, nI_1, nI_add]
        rfl
      · rw [j3, e30, fs_n (show stG I t w c p (pN I) r = none from if_neg z)]
  · rintro x ⟨J', rfl, j1, j2, j3⟩
    exact ⟨.inl J', by rw [am_u3_s, if_pos (show (30 : Int32) ≤ nI 30 from by decide)], Or.inl ⟨J', rfl, j3, j2⟩⟩
  · have kI : ∀ {K : am_IT}, (∀ k, k ≠ 37 → k ≠ 38 → k ≠ 39 → K k = B k) → ∀ k, k ≠ 24 → k ≠ 37 → k ≠ 38 → k ≠ 39 → K k = I k := fun {K} h k h24 h37 h38 h39 => by rw [h k h37 h38 h39, bk k h37, ak k h24]
    rintro e (⟨J', rfl, h1, h2⟩ | ⟨J', m, rfl, h1, h2⟩)
    · exact ⟨J', by rw [am_lr_l, h1]; rfl, kI h2⟩
    · exact ⟨J', by rw [am_lr_r, h1]; rfl, kI h2⟩
