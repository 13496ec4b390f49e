/-! text: what is read, as a function of the tokens -/
abbrev gO : Type := (Nat × List rOp) ⊕ (Nat × Nat)
def okT (t : Int32) : Prop := t = 300 ∨ t = 301 ∨ (∃ j, j < 17 ∧ t = nI (256 + j)) ∨ (∃ x, x < 10000 ∧ t = nI (1000 + x)) ∨ isMk t = true
def un (t : Int32) : Option rOp := if 1000 ≤ t then some (0, t.toNatClampNeg - 1000) else if 267 ≤ t ∧ t ≤ 272 then some (1, t.toNatClampNeg - 267) else none
def gw (w : Nat) : List rOp := if w = 0 then [] else [(w, 0)]
def gl (T : Nat → Int32) : Nat → Nat → Nat → List rOp → gO
  | 0, _, _, _ => .inr (0, 0)
  | f + 1, k, w, L =>
    if T k = 42 then (match un (T (k + 1)) with
      | none => .inr (1, k + 1)
      | some o => gl T f (k + 2) w (L ++ [o, (6, 0)]))
    else if T k = 47 then (if T (k + 1) < 1000 then .inr (1, k + 1) else if T (k + 1) = 1000 then .inr (2, k + 1) else gl T f (k + 2) w (L ++ [(2, (T (k + 1)).toNatClampNeg - 1000)]))
    else if T k = 43 ∨ T k = 45 then (match un (T (k + 1)) with
      | none => .inr (1, k + 1)
      | some o => gl T f (k + 2) (if T k = 43 then 4 else 5) (L ++ gw w ++ [o]))
    else .inl (k, L ++ gw w)
def gs (T : Nat → Int32) (k : Nat) (L : List rOp) : gO := match un (T k) with
  | none => .inr (1, k)
  | some o => gl T 1000 (k + 1) 0 (L ++ [o])
def gc (T : Nat → Int32) (k : Nat) (L : List rOp) : gO := match gs T k L with
  | .inr f => .inr f
  | .inl (k1, L1) => if T k1 = 60 ∨ T k1 = 61 ∨ T k1 = 62 then (match gs T (k1 + 1) L1 with
    | .inr f => .inr f
    | .inl (k2, L2) => .inl (k2, L2 ++ [(if T k1 = 60 then 7 else if T k1 = 61 then 8 else 9, 0)])) else .inr (1, k1)
def gz (T : Nat → Int32) : Nat → Nat → Nat → Nat → List rOp → gO
  | 0, _, _, _, _ => .inr (0, 0)
  | n + 1, j, o, k, L => match j with
    | 0 => (match gz T n 4 o k L with
      | .inr f => .inr f
      | .inl (k1, L1) => gz T n 5 o k1 L1)
    | 1 => (match gz T n 0 o k L with
      | .inr f => .inr f
      | .inl (k1, L1) => gz T n 6 o k1 L1)
    | 4 => if T k = 260 then (if 8 ≤ o then .inr (3, k) else (match gz T n 4 (o + 1) (k + 1) L with
        | .inr f => .inr f
        | .inl (k1, L1) => .inl (k1, L1 ++ [(3, 0)])))
      else if T k = 40 then (if 8 ≤ o then .inr (3, k) else (match gz T n 1 (o + 1) (k + 1) L with
        | .inr f => .inr f
        | .inl (k1, L1) => if T k1 = 41 then .inl (k1 + 1, L1) else .inr (1, k1)))
      else gc T k L
    | 5 => if T k = 259 then (match gz T n 4 o (k + 1) L with
        | .inr f => .inr f
        | .inl (k1, L1) => gz T n 5 o k1 (L1 ++ [(10, 0)])) else .inl (k, L)
    | 6 => if T k = 258 then (match gz T n 0 o (k + 1) L with
        | .inr f => .inr f
        | .inl (k1, L1) => gz T n 6 o k1 (L1 ++ [(11, 0)])) else .inl (k, L)
    | _ => .inr (0, 0)
/-! its lengths and types -/
def ty (X : List rOp) (c : Nat) (a b : List Bool) (e : Nat) : Prop := X.length ≤ (rRefs X).length ∧ (rRefs X).length ≤ e ∧ (∀ o ∈ X, rOpOk o) ∧ ∀ s : List Bool, s.length ≤ c → rRun X (a ++ s) = some (b ++ s)
theorem rRun_app (X Y : List rOp) (s : List Bool) : rRun (X ++ Y) s = (rRun X s).bind (rRun Y) := by
  induction X generalizing s with
  | nil => rfl
  | cons o X ih =>
    show (rDep o s).bind (rRun (X ++ Y)) = ((rDep o s).bind (rRun X)).bind (rRun Y)
    cases rDep o s with
    | none => rfl
    | some s' => exact ih s'
theorem rRefs_app (X Y : List rOp) : rRefs (X ++ Y) = rRefs X ++ rRefs Y := List.flatMap_append
theorem ty_app {X Y : List rOp} {c e e' : Nat} {a b d : List Bool} (h : ty X c a b e) (g : ty Y c b d e') : ty (X ++ Y) c a d (e + e') := by
  refine ⟨?_, ?_, ?_, fun s hs => ?_⟩
  · rw [rRefs_app, List.length_append, List.length_append]; have := h.1; have := g.1; omega
  · rw [rRefs_app, List.length_append]; have := h.2.1; have := g.2.1; omega
  · intro o ho
    rcases List.mem_append.mp ho with q | q
    · exact h.2.2.1 o q
    · exact g.2.2.1 o q
  · rw [rRun_app, h.2.2.2 s hs]
    exact g.2.2.2 s hs
theorem ty_nil (c : Nat) (a : List Bool) : ty [] c a a 0 := ⟨Nat.le_refl _, Nat.le_refl _, (by intro o h; cases h), fun _ _ => rfl⟩
theorem ty_le {X : List rOp} {c e e' : Nat} {a b : List Bool} (h : ty X c a b e) (g : e ≤ e') : ty X c a b e' := ⟨h.1, Nat.le_trans h.2.1 g, h.2.2⟩
theorem ty_fr {X : List rOp} {c c' e : Nat} {a b : List Bool} (f : List Bool) (h : ty X c a b e) (g : c' + f.length ≤ c) : ty X c' (a ++ f) (b ++ f) e := ⟨h.1, h.2.1, h.2.2.1, fun s hs => by
  rw [List.append_assoc, List.append_assoc]
  exact h.2.2.2 _ (by rw [List.length_append]; omega)⟩
theorem ty_1 {o : rOp} {c : Nat} {a b : List Bool} (h : rOpOk o) (h2 : ¬ o.1 = 2) (g : ∀ s : List Bool, s.length ≤ c → rDep o (a ++ s) = some (b ++ s)) : ty [o] c a b 1 := by
  have hl : (rRefs [o]).length = 1 := by
    show (rRef o ++ []).length = 1
    rw [List.append_nil]
    unfold rRef
    rw [if_neg h2]
    repeat' (first | rfl | split)
  refine ⟨by rw [hl]; exact Nat.le_refl _, by rw [hl]; exact Nat.le_refl _, fun x hx => ?_, fun s hs => ?_⟩
  · rw [List.mem_singleton.mp hx]; exact h
  · show (rDep o (a ++ s)).bind (rRun []) = _
    rw [g s hs]; rfl
theorem ty_2 {x c : Nat} {a : List Bool} (h : 0 < x) (h2 : x < 10000) : ty [(2, x)] c (false :: a) (false :: a) 2 := ⟨by show 1 ≤ 2; decide, Nat.le_refl _, fun o ho => by rw [List.mem_singleton.mp ho]; exact Or.inr (Or.inr (Or.inl ⟨rfl, h, h2⟩)), fun s hs => rfl⟩
theorem un_s {t : Int32} {o : rOp} (h : okT t) (e : un t = some o) : rOpOk o ∧ o.1 ≤ 1 ∧ ¬ t = 300 ∧ ((∃ x, x < 10000 ∧ t = nI (1000 + x) ∧ o = (0, x)) ∨ (∃ x, x < 6 ∧ t = nI (267 + x) ∧ o = (1, x))) := by
  unfold un at e
  have key : ∀ k, k < 17 → ((1000 : Int32) ≤ nI (256 + k)) = False ∧ (((267 : Int32) ≤ nI (256 + k) ∧ nI (256 + k) ≤ 272) → 11 ≤ k) := by
    intro k hk
    refine ⟨eq_false (nI_ge (b := 1000) (by omega) (by decide)), fun z => ?_⟩
    have := (nI_leI (a := 267) (b := 256 + k) (by decide) (by omega)).mp z.1
    omega
  rcases h with rfl | rfl | ⟨j, hj, rfl⟩ | ⟨x, hx, rfl⟩ | h
  · rw [if_neg (by decide), if_neg (by decide)] at e; cases e
  · rw [if_neg (by decide), if_neg (by decide)] at e; cases e
  · rw [if_neg (by rw [(key j hj).1]; exact fun z => z)] at e
    by_cases z : (267 : Int32) ≤ nI (256 + j) ∧ nI (256 + j) ≤ 272
    · rw [if_pos z, nI_clamp (by omega)] at e
      have := (key j hj).2 z
      cases e
      refine ⟨Or.inr (Or.inl ⟨rfl, by show 256 + j - 267 < 6; omega⟩), by show 1 ≤ 1; decide, fun q => ?_, Or.inr ⟨256 + j - 267, by omega, by rw [show 267 + (256 + j - 267) = 256 + j by omega], rfl⟩⟩
      have := (nI_eq (a := 256 + j) (b := 300) (by omega) (by decide)).mp q
      omega
    · rw [if_neg z] at e; cases e
  · rw [if_pos (show (1000 : Int32) ≤ nI (1000 + x) from nI_le (a := 1000) (by omega) (by omega)), nI_clamp (by omega)] at e
    cases e
    refine ⟨Or.inl ⟨rfl, by show 1000 + x - 1000 < 10000; omega⟩, by show 0 ≤ 1; decide, fun q => ?_, Or.inl ⟨x, hx, rfl, by rw [show 1000 + x - 1000 = x by omega]⟩⟩
    have := (nI_eq (a := 1000 + x) (b := 300) (by omega) (by decide)).mp q
    omega
  · exfalso
    unfold isMk at h
    simp only [Bool.or_eq_true, beq_iff_eq] at h
    rcases h with ((((((((rfl | rfl) | rfl) | rfl) | rfl) | rfl) | rfl) | rfl) | rfl) | rfl <;> (rw [if_neg (by decide), if_neg (by decide)] at e; cases e)
theorem ty_u {o : rOp} {c : Nat} {a : List Bool} (h : rOpOk o) (h1 : o.1 ≤ 1) (hc : a.length + c < 32) : ty [o] c a (false :: a) 1 := ty_1 h (by omega) (fun s hs => by
  unfold rDep
  rw [if_pos h1, if_pos (by rw [List.length_append]; omega)]
  rfl)
/-- what holds of an outcome -/
def pO (T : Nat → Int32) (m k : Nat) (L : List rOp) (c d e : Nat) (a b : List Bool) (q : Nat → Prop) (r : gO) : Prop := ∀ k' L', r = .inl (k', L') → k + d ≤ k' ∧ k' ≤ m ∧ q k' ∧ ∃ X, L' = L ++ X ∧ ty X c a b (k' - k + e)
def ws (w : Nat) : List Bool := if w = 0 then [] else [false]
theorem ty_w {w c : Nat} {a : List Bool} (h : w = 0 ∨ w = 4 ∨ w = 5) : ty (gw w) c (false :: ws w ++ a) (false :: a) (gw w).length := by
  rcases h with rfl | rfl | rfl
  · exact ty_nil _ _
  · exact ty_1 (Or.inr (Or.inr (Or.inr ⟨by decide, by decide, rfl⟩))) (by decide) (fun s hs => rfl)
  · exact ty_1 (Or.inr (Or.inr (Or.inr ⟨by decide, by decide, rfl⟩))) (by decide) (fun s hs => rfl)
def noJ (t : Int32) : Prop := ¬ t = 42 ∧ ¬ t = 47 ∧ ¬ (t = 43 ∨ t = 45)
theorem gl_p {T : Nat → Int32} {m : Nat} (hT : ∀ k, okT (T k)) (hm : ∀ k, m ≤ k → T k = 300) : ∀ (f k w : Nat) (L : List rOp), (w = 0 ∨ w = 4 ∨ w = 5) → k ≤ m → pO T m k L 26 0 (gw w).length (false :: ws w) [false] (fun k' => noJ (T k')) (gl T f k w L) := by
  have lt : ∀ k, ¬ T k = 300 → k + 1 ≤ m := fun k h => by
    by_cases z : m ≤ k
    · exact absurd (hm k z) h
    · omega
  intro f
  induction f with
  | zero => intro k w L _ _ k' L' e; cases e
  | succ f ih =>
    intro k w L hw hk k' L' e
    unfold gl at e
    by_cases h1 : T k = 42
    · rw [if_pos h1] at e
      cases hu : un (T (k + 1)) with
      | none => rw [hu] at e; cases e
      | some o =>
        rw [hu] at e
        obtain ⟨u1, u2, u3, u4⟩ := un_s (hT _) hu
        have hk2 := lt _ u3
        obtain ⟨p1, p2, p3, X, rfl, p4⟩ := ih (k + 2) w _ hw (by omega) k' L' e
        refine ⟨by omega, p2, p3, [o, (6, 0)] ++ X, by rw [List.append_assoc], ?_⟩
        have t1 : ty ([o] ++ [(6, 0)]) 26 (false :: ws w) (false :: ws w) (1 + 1) := ty_app (ty_u u1 u2 (by
          have : (ws w).length ≤ 1 := by unfold ws; split <;> decide
          show (ws w).length + 1 + 26 < 32; omega)) (ty_1 (Or.inr (Or.inr (Or.inr ⟨by decide, by decide, rfl⟩))) (by decide) (fun s hs => rfl))
        exact ty_le (ty_app t1 p4) (by omega)
    · rw [if_neg h1] at e
      by_cases h2 : T k = 47
      · rw [if_pos h2] at e
        by_cases h3 : T (k + 1) < 1000
        · rw [if_pos h3] at e; cases e
        · rw [if_neg h3] at e
          by_cases h4 : T (k + 1) = 1000
          · rw [if_pos h4] at e; cases e
          · rw [if_neg h4] at e
            have hn : ¬ T (k + 1) = 300 := fun z => h3 (by rw [z]; decide)
            have hk2 := lt _ hn
            obtain ⟨p1, p2, p3, X, rfl, p4⟩ := ih (k + 2) w _ hw (by omega) k' L' e
            have hu : un (T (k + 1)) = some (0, (T (k + 1)).toNatClampNeg - 1000) := if_pos (Int32.not_lt.mp h3)
            obtain ⟨u1, u2, u3, u4⟩ := un_s (hT _) hu
            refine ⟨by omega, p2, p3, [(2, (T (k + 1)).toNatClampNeg - 1000)] ++ X, by rw [List.append_assoc], ?_⟩
            rcases u4 with ⟨x, hx, ht, ho⟩ | ⟨x, hx, ht, ho⟩
            · have hx0 : 0 < x := by
                cases x with
                | zero => exact absurd ht h4
                | succ x => omega
              have hq : (T (k + 1)).toNatClampNeg - 1000 = x := by rw [ht, nI_clamp (by omega)]; omega
              rw [hq]
              exact ty_le (ty_app (ty_2 hx0 hx) p4) (by omega)
            · have := congrArg Prod.fst ho
              exact absurd (show (0 : Nat) = 1 from this) (by decide)
      · rw [if_neg h2] at e
        by_cases h3 : T k = 43 ∨ T k = 45
        · rw [if_pos h3] at e
          cases hu : un (T (k + 1)) with
          | none => rw [hu] at e; cases e
          | some o =>
            rw [hu] at e
            obtain ⟨u1, u2, u3, u4⟩ := un_s (hT _) hu
            have hk2 := lt _ u3
            have hw' : ∀ p : Prop, [Decidable p] → ((if p then 4 else 5) = 0 ∨ (if p then 4 else 5) = 4 ∨ (if p then 4 else 5) = 5) := fun p _ => by
              split
              · exact Or.inr (Or.inl rfl)
              · exact Or.inr (Or.inr rfl)
            have hws : ∀ p : Prop, [Decidable p] → ws (if p then 4 else 5) = [false] ∧ (gw (if p then 4 else 5)).length = 1 := fun p _ => by
              split <;> exact ⟨rfl, rfl⟩
            obtain ⟨p1, p2, p3, X, rfl, p4⟩ := ih (k + 2) _ _ (hw' _) (by omega) k' L' e
            rw [(hws _).1, (hws _).2] at p4
            refine ⟨by omega, p2, p3, gw w ++ [o] ++ X, by simp only [List.append_assoc], ?_⟩
            have t0 := ty_w (c := 26) (a := []) hw
            rw [List.append_nil] at t0
            have t1 := ty_app t0 (ty_u u1 u2 (by decide))
            exact ty_le (ty_app t1 p4) (by omega)
        · rw [if_neg h3] at e
          cases e
          refine ⟨Nat.le_refl _, hk, ⟨h1, h2, h3⟩, gw w, rfl, ?_⟩
          have t0 := ty_w (c := 26) (a := []) hw
          rw [List.append_nil] at t0
          exact ty_le t0 (by omega)
theorem gs_p {T : Nat → Int32} {m : Nat} (hT : ∀ k, okT (T k)) (hm : ∀ k, m ≤ k → T k = 300) {k : Nat} (L : List rOp) (hk : k ≤ m) : pO T m k L 26 1 0 [] [false] (fun k' => noJ (T k')) (gs T k L) := by
  intro k' L' e
  unfold gs at e
  cases hu : un (T k) with
  | none => rw [hu] at e; cases e
  | some o =>
    rw [hu] at e
    obtain ⟨u1, u2, u3, u4⟩ := un_s (hT _) hu
    have hk2 : k + 1 ≤ m := by
      by_cases z : m ≤ k
      · exact absurd (hm k z) u3
      · omega
    obtain ⟨p1, p2, p3, X, rfl, p4⟩ := gl_p hT hm 1000 (k + 1) 0 (L ++ [o]) (Or.inl rfl) hk2 k' L' e
    refine ⟨by omega, p2, p3, [o] ++ X, by rw [List.append_assoc], ?_⟩
    have t1 : ty [o] 26 [] [false] 1 := ty_u u1 u2 (by decide)
    exact ty_le (ty_app t1 p4) (by show 1 + (k' - (k + 1) + 0) ≤ k' - k + 0; omega)
theorem gc_p {T : Nat → Int32} {m : Nat} (hT : ∀ k, okT (T k)) (hm : ∀ k, m ≤ k → T k = 300) {k : Nat} (L : List rOp) (hk : k ≤ m) : pO T m k L 25 1 0 [] [true] (fun _ => True) (gc T k L) := by
  intro k' L' e
  unfold gc at e
  cases h1 : gs T k L with
  | inr f => rw [h1] at e; cases e
  | inl q =>
    obtain ⟨k1, L1⟩ := q
    rw [h1] at e
    obtain ⟨a1, a2, a3, X, rfl, a4⟩ := gs_p hT hm L hk k1 L1 h1
    have e2 : (if T k1 = 60 ∨ T k1 = 61 ∨ T k1 = 62 then (match gs T (k1 + 1) (L ++ X) with
      | .inr f => (.inr f : gO)
      | .inl (k2, L2) => .inl (k2, L2 ++ [(if T k1 = 60 then 7 else if T k1 = 61 then 8 else 9, 0)])) else .inr (1, k1)) = .inl (k', L') := e
    by_cases hc : T k1 = 60 ∨ T k1 = 61 ∨ T k1 = 62
    · rw [if_pos hc] at e2
      have hk1 : k1 + 1 ≤ m := by
        by_cases z : m ≤ k1
        · have := hm k1 z
          rw [this] at hc
          exact absurd hc (by decide)
        · omega
      cases h2 : gs T (k1 + 1) (L ++ X) with
      | inr f => rw [h2] at e2; cases e2
      | inl q =>
        obtain ⟨k2, L2⟩ := q
        rw [h2] at e2
        obtain ⟨b1, b2, b3, Y, rfl, b4⟩ := gs_p hT hm (L ++ X) hk1 k2 L2 h2
        have e3 := Sum.inl.inj e2
        have e4 : k2 = k' := congrArg Prod.fst e3
        have e5 : L ++ X ++ Y ++ [(if T k1 = 60 then 7 else if T k1 = 61 then 8 else 9, 0)] = L' := congrArg Prod.snd e3
        rw [← e4, ← e5]
        refine ⟨by omega, b2, trivial, X ++ Y ++ [(if T k1 = 60 then 7 else if T k1 = 61 then 8 else 9, 0)], by simp only [List.append_assoc], ?_⟩
        have t1 : ty X 25 [] [false] (k1 - k + 0) := ⟨a4.1, a4.2.1, a4.2.2.1, fun s hs => a4.2.2.2 s (by omega)⟩
        have t2 : ty Y 25 ([] ++ [false]) ([false] ++ [false]) (k2 - (k1 + 1) + 0) := ty_fr [false] b4 (by decide)
        have t3 : ty [(if T k1 = 60 then 7 else if T k1 = 61 then 8 else 9, 0)] 25 [false, false] [true] 1 := by
          split
          · exact ty_1 (Or.inr (Or.inr (Or.inr ⟨by decide, by decide, rfl⟩))) (by decide) (fun s hs => rfl)
          · split
            · exact ty_1 (Or.inr (Or.inr (Or.inr ⟨by decide, by decide, rfl⟩))) (by decide) (fun s hs => rfl)
            · exact ty_1 (Or.inr (Or.inr (Or.inr ⟨by decide, by decide, rfl⟩))) (by decide) (fun s hs => rfl)
        exact ty_le (ty_app (ty_app t1 t2) t3) (by omega)
    · rw [if_neg hc] at e2; cases e2
