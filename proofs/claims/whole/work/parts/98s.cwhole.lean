/-! text: how the class reads the whole -/
def bRead : Int32 → am_IT → Option ((Int32 × am_IT) ⊕ (am_IT ⊕ (Int32 × am_IT))) := (fun (l3_10 : Int32) (I_11 : am_IT) => if (16 : Int32) < l3_10 then (some (.inr (.inl (I_11)))) else (if (I_11 47 7) = (300 : Int32) then (some (.inr (.inr ((1 : Int32), I_11)))) else (am_b2 (F_X7_readLine_47 I_11 l3_10) (fun (r_21 : Int32) (I_22 : am_IT) => if r_21 = 0 then (some (.inr (.inr ((0 : Int32), I_22)))) else (am_let (l3_10 + (1 : Int32)) (fun (l3_25 : Int32) => some (.inl (l3_25, I_22))))))))
def lS (m : Nat) (T : Nat → Int32) (S : Nat → Nat) (H : am_IT) (k : Nat) (L : List rOp) (ls : List (Nat × List rOp)) (I : am_IT) : Prop :=
  cS m T S I k L I ∧ (∀ q, (q < 47 ∨ 53 < q) → I q = H q) ∧ I 48 0 = nI ls.length ∧ I 47 1 = 0 ∧ I 47 2 = -1 ∧
  (∀ l mm code, ls[l]? = some (mm, code) → I 49 l = nI (261 + mm) ∧ I 50 l = nI ((ls.take (l + 1)).map (fun q => q.2.length)).sum) ∧ L = ls.flatMap (fun q => q.2) ∧ ls.length ≤ 16
theorem c_addv {I : am_IT} {v : Int32} {l : Nat} (h : I 48 0 = nI l) (hl : l < 16) : F_X6_addLine_48 I v = some (up2 (up2 (up2 I 49 l v) 50 l (I 48 1)) 48 0 (nI (l + 1))) := by
  unfold F_X6_addLine_48
  rw [h, if_neg (show ¬ (16 : Int32) ≤ nI l from nI_ge (b := 16) hl (by decide)), if_pos (am_ix_nI hl (by decide)), am_let_s, nI_clamp (by omega), show (up2 I 49 l v) 48 0 = nI l from h, if_pos (am_ix_nI hl (by decide)), am_let_s, nI_clamp (by omega), show (up2 I 49 l v) 48 1 = I 48 1 from rfl, show (up2 (up2 I 49 l v) 50 l (I 48 1)) 48 0 = nI l from h, am_let_s, nI_1]
theorem lS_add {m : Nat} {T : Nat → Int32} {S : Nat → Nat} {H I J : am_IT} {k k1 mm : Nat} {L X : List rOp} {ls : List (Nat × List rOp)} (h : lS m T S H k L ls I) (C : cS m T S I k1 (L ++ X) J) (hl : ls.length < 16) : lS m T S H k1 (L ++ X) (ls ++ [(mm, (L ++ X).drop L.length)]) (up2 (up2 (up2 J 49 ls.length (nI (261 + mm))) 50 ls.length (J 48 1)) 48 0 (nI (ls.length + 1))) := by
  obtain ⟨h1, h2, h3, h4, h5, h6, h7, h8⟩ := h
  obtain ⟨⟨c1, c2, c3, c4, c5, c6⟩, c7, c8, c9, c10, c11⟩ := C
  have hd : (L ++ X).drop L.length = X := List.drop_left
  rw [hd]
  have hs : (((ls ++ [(mm, X)]).take (ls.length + 1)).map (fun q => q.2.length)).sum = (L ++ X).length := by
    rw [List.take_of_length_le (by rw [List.length_append]; exact Nat.le_refl _), List.map_append, List.sum_append, List.length_append, h7, List.length_flatMap]
    show _ + (X.length + 0) = _
    rfl
  refine ⟨⟨⟨c1, c2, fun q _ _ _ => rfl, rfl, rfl, rfl⟩, c7, c8, c9, c10, c11⟩, fun q hq => ?_, ?_, c5.trans h4, c6.trans h5, fun l m2 code hx => ?_, ?_, ?_⟩
  · rw [up2_k _ _ (by omega), up2_k _ _ (by omega), up2_k _ _ (by omega), c3 q (by omega) (by omega) (by omega)]
    exact h2 q hq
  · rw [up2_s, List.length_append]; rfl
  · rw [up2_k _ _ (show (49 : Nat) ≠ 48 by decide), up2_k _ _ (show (49 : Nat) ≠ 50 by decide), up2_k _ _ (show (50 : Nat) ≠ 48 by decide), up2_r, up2_r, up2_k _ _ (show (50 : Nat) ≠ 49 by decide)]
    by_cases z : l = ls.length
    · subst z
      rw [List.getElem?_append_right (Nat.le_refl _), Nat.sub_self] at hx
      cases hx
      rw [if_pos rfl, if_pos rfl, hs]
      exact ⟨rfl, c10⟩
    · rw [if_neg z, if_neg z]
      by_cases g : l < ls.length
      · rw [List.getElem?_append_left g] at hx
        rw [List.take_append_of_le_length (by omega), c3 49 (by decide) (by decide) (by decide), c3 50 (by decide) (by decide) (by decide)]
        exact h6 l m2 code hx
      · rw [List.getElem?_append_right (by omega)] at hx
        obtain ⟨p, hp⟩ : ∃ p, l - ls.length = p + 1 := ⟨l - ls.length - 1, by omega⟩
        rw [hp] at hx
        cases hx
  · rw [List.flatMap_append, ← h7]
    show L ++ X = L ++ (X ++ [])
    rw [List.append_nil]
  · rw [List.length_append]; show ls.length + 1 ≤ 16; omega
def tO (m : Nat) (T : Nat → Int32) (S : Nat → Nat) (H : am_IT) (out : gK) (r : Int32) (I : am_IT) : Prop := match out with
  | .inl ls => r = 1 ∧ ∃ k L, L.length ≤ k ∧ lS m T S H k L ls I
  | .inr (f, k) => r = 0 ∧ cF S H f k I
theorem c_rloop {m : Nat} {T : Nat → Int32} {S : Nat → Nat} {H : am_IT} (hm : m ≤ 400) (hT : ∀ k, okT (T k)) (hT3 : ∀ k, m ≤ k → T k = 300) : ∀ (f k : Nat) (L : List rOp) (ls : List (Nat × List rOp)) (I : am_IT) (N : Nat), lS m T S H k L ls I → L.length ≤ k → m - k < f → m - k < N → ∃ r I', am_it N (am_u2 bRead) (nI ls.length, I) = some (.inr (r, I')) ∧ tO m T S H (gt T f k L ls) r I' := by
  intro f
  induction f with
  | zero => intro k L ls I N _ _ h; omega
  | succ f ih =>
    intro k L ls I N h hL hf hN
    obtain ⟨N, rfl⟩ : ∃ N', N = N' + 1 := ⟨N - 1, by omega⟩
    have C := h.1
    have c7 : k ≤ m := C.2.1
    have c9 : I 47 7 = T k := C.2.2.2.1
    have hl : ls.length ≤ 16 := h.2.2.2.2.2.2.2
    have h16 : ¬ (16 : Int32) < nI ls.length := fun z => by have := (nI_ltI (a := 16) (b := ls.length) (by decide) (by omega)).mp z; omega
    unfold gt
    by_cases h1 : T k = 300
    · rw [if_pos h1]
      refine ⟨1, I, am_it_e ?_, rfl, k, L, hL, h⟩
      show bRead (nI ls.length) I = _
      unfold bRead
      rw [if_neg h16, c9, if_pos h1]
    · rw [if_neg h1]
      obtain ⟨r, I1, e1, R⟩ := c_line hm hT hT3 C hL (show I 48 0 = nI ls.length from h.2.2.1) hl
      have hb : ∀ z, (if r = 0 then some (.inr (.inr ((0 : Int32), I1))) else some (.inl (nI ls.length + 1, I1))) = some z → am_u2 bRead (nI ls.length, I) = some z := by
        intro z hz
        rw [← hz]
        show bRead (nI ls.length) I = _
        unfold bRead
        rw [if_neg h16, c9, if_neg h1, e1, am_b2_s, am_let_s]
      cases hg : gn T k ls.length L with
      | inr e =>
        obtain ⟨f', k'⟩ := e
        rw [hg] at R
        obtain ⟨rfl, F⟩ := R
        refine ⟨0, I1, am_it_e (hb _ (if_pos rfl)), rfl, fun q hq => ?_, F.2⟩
        rw [F.1 q hq]; exact h.2.1 q hq
      | inl q =>
        obtain ⟨mm, k1, L1⟩ := q
        rw [hg] at R
        obtain ⟨rfl, J, CJ, eJ⟩ := R
        obtain ⟨g1, g2, g3, g4, g5, X, rfl, g6, g7, g8, g9⟩ := gn_p hT hT3 c7 hg
        have hJ : J 48 0 = nI ls.length := CJ.1.2.2.2.1.trans h.2.2.1
        rw [c_addv hJ g1] at eJ
        have eI := Option.some.inj eJ
        have h' := lS_add (mm := mm) h CJ g1
        rw [eI] at h'
        obtain ⟨r, I2, e2, R2⟩ := ih k1 (L ++ X) _ I1 N h' (by rw [List.length_append]; omega) (by omega) (by omega)
        refine ⟨r, I2, ?_, R2⟩
        rw [← e2]
        refine am_it_l (hb _ ?_)
        rw [if_neg (by decide), nI_1, List.length_append]
        rfl
def tT (m : Nat) (t : Nat → Int32) : Nat → Int32 := fun k => if k < m then t k else 300
def pS9 (m n : Nat) (s : Nat → Nat) : Nat → Nat := fun k => if k < m then s k else n
theorem tT_ok {B : Nat → Int32} {n m : Nat} {s e : Nat → Nat} {t : Nat → Int32} (hv : ∀ i, i < n → vb 256 (B i)) (Z : TZ B n m s e t) (k : Nat) : okT (tT m t k) := by
  unfold tT
  by_cases hk : k < m
  · rw [if_pos hk]
    obtain ⟨⟨_, _, _, T4⟩, _, _⟩ := Z.1 k hk
    rcases T4 with ⟨_, _, z⟩ | ⟨_, _, _, z⟩ | ⟨_, z⟩ | ⟨z1, z⟩
    · exact Or.inl z
    · by_cases q : isMk (B (s k)) = true
      · rw [if_pos q] at z
        exact Or.inr (Or.inr (Or.inr (Or.inr (by rw [z]; exact q))))
      · rw [if_neg q] at z
        exact Or.inr (Or.inl z)
    · rcases z with ⟨j, hj, _, z⟩ | ⟨z, _⟩
      · exact Or.inr (Or.inr (Or.inl ⟨j, hj, z⟩))
      · exact Or.inr (Or.inl z)
    · by_cases q : e k - s k ≤ 4
      · rw [if_pos q] at z
        obtain ⟨y1, y2, y3, y4⟩ := z1
        have hb := nv_b (B := B) (a := s k) (m := e k - s k) (fun i hi => ⟨hv _ (by omega), y3 _ (by omega) (by omega)⟩)
        have : 10 ^ (e k - s k) ≤ 10 ^ 4 := Nat.pow_le_pow_right (by decide) (by omega)
        exact Or.inr (Or.inr (Or.inr (Or.inl ⟨_, by omega, z⟩)))
      · rw [if_neg q] at z
        exact Or.inr (Or.inl z)
  · rw [if_neg hk]; exact Or.inl rfl
theorem c_read {I : am_IT} {B : Nat → Int32} {n : Nat} (hn : n ≤ 400) (hB : ∀ i, i < n → I 54 i = B i) (hv : ∀ i, i < n → vb 256 (B i)) : ∃ (m : Nat) (s e : Nat → Nat) (t : Nat → Int32), TZ B n m s e t ∧ ∃ r I', F_X7_read_47_54 I (nI n) = some (r, I') ∧ tO m (tT m t) (pS9 m n s) I (gt (tT m t) 1000 0 [] []) r I' := by
  unfold F_X7_read_47_54
  have ec : F_X6_clear_48 (up2 (up2 I 47 1 0) 47 2 (-1)) = some (up2 (up2 (up2 (up2 I 47 1 0) 47 2 (-1)) 48 0 0) 48 1 0) := rfl
  rw [am_let_s, am_let_s, ec, am_b1_s, if_neg (show ¬ (400 : Int32) < 400 by decide), if_neg (show ¬ (400 : Int32) < nI n from fun z => by have := (nI_ltI (a := 400) (b := n) (by decide) (by omega)).mp z; omega)]
  obtain ⟨J, e1, m, s, e, t, Z, j1, j2, j3, j4, j5, j6⟩ := e_split (I := up2 (up2 (up2 (up2 I 47 1 0) 47 2 (-1)) 48 0 0) 48 1 0) (B := B) hn hB hv
  refine ⟨m, s, e, t, Z, ?_⟩
  have hm : m ≤ 400 := by have := Z.2.1; omega
  rw [e1, am_b1_s, am_let_s, if_pos (show am_ix (0 : Int32) 401 = true by decide), am_let_s]
  have hT3 : ∀ k, m ≤ k → tT m t k = 300 := fun k hk => if_neg (by omega)
  have a52 : ∀ k, k ≤ m → J 52 k = tT m t k ∧ J 53 k = nI (pS9 m n s k) := by
    intro k hk
    unfold tT pS9
    by_cases z : k < m
    · rw [if_pos z, if_pos z]; exact j4 k z
    · have : k = m := by omega
      subst this
      rw [if_neg z, if_neg z]; exact ⟨j5, j6⟩
  have j48 : J 48 = (up2 (up2 (up2 (up2 I 47 1 0) 47 2 (-1)) 48 0 0) 48 1 0) 48 := j1 48 (by decide) (by decide) (by decide)
  have h0 : lS m (tT m t) (pS9 m n s) I 0 [] [] (up2 (up2 J 47 6 0) 47 7 ((up2 J 47 6 0) 52 (0 : Int32).toNatClampNeg)) := by
    refine ⟨⟨⟨j3, a52, fun q _ _ _ => rfl, rfl, rfl, rfl⟩, Nat.zero_le _, rfl, (a52 0 (Nat.zero_le _)).1, ?_, fun i o h => by cases h⟩, fun q hq => ?_, ?_, ?_, ?_, (fun l m2 c h => by cases h), rfl, Nat.zero_le _⟩
    · show J 48 1 = 0
      rw [j48]; rfl
    · rw [up2_k _ _ (by omega), up2_k _ _ (by omega), j1 q (by omega) (by omega) (by omega), up2_k _ _ (by omega), up2_k _ _ (by omega), up2_k _ _ (by omega), up2_k _ _ (by omega)]
    · show J 48 0 = 0
      rw [j48]; rfl
    · show J 47 1 = 0
      rw [j2 1 (by decide)]; rfl
    · show J 47 2 = -1
      rw [j2 2 (by decide)]; rfl
  obtain ⟨r, I1, e2, R⟩ := c_rloop hm (tT_ok hv Z) hT3 1000 0 [] [] _ am_fu h0 (Nat.zero_le _) (by omega) (by show m - 0 < 1000000; omega)
  have e2' : am_it am_fu (am_u2 bRead) ((0 : Int32), up2 (up2 J 47 6 0) 47 7 ((up2 J 47 6 0) 52 (0 : Int32).toNatClampNeg)) = some (.inr (r, I1)) := e2
  unfold bRead at e2'
  rw [e2', am_lr_r]
  exact ⟨r, I1, rfl, R⟩
