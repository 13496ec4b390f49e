/-! text: the reference's lines -/
theorem refs_sum (ls : List (Nat × List rOp)) : (rRefs (ls.flatMap (fun q => q.2))).length = (ls.map (fun q => (rRefs q.2).length)).sum := by
  induction ls with
  | nil => rfl
  | cons q ls ih =>
    rw [List.flatMap_cons, rRefs_app, List.length_append, ih]
    rfl
theorem KV_end {t a v : Int32} (K : KV t a v) : (t = 300 → a = 0) ∧ (¬ t = 300 → ¬ a = 0) := by
  rcases K with ⟨h1, h2⟩ | ⟨h1, h2⟩ | ⟨r, hr, h1, h2, h3⟩ | ⟨x, hx, h1, h2, h3⟩ | ⟨h1, h2, h3⟩
  · exact ⟨fun _ => h2, fun z => absurd h1 z⟩
  · exact ⟨fun z => by rw [h1] at z; exact absurd z (by decide), fun _ => by rw [h2]; decide⟩
  · exact ⟨fun z => by
      rw [h1] at z
      have := (nI_eq (b := 300) (by have := (wp_t r hr).1; omega) (by decide)).mp z
      have := (wp_t r hr).1
      omega, fun _ => by rw [h2]; decide⟩
  · exact ⟨fun z => by
      rw [h1] at z
      have := (nI_eq (b := 300) (by omega) (by decide)).mp z
      omega, fun _ => by rw [h2]; decide⟩
  · obtain ⟨q, hq, e⟩ := mk_lt h1
    exact ⟨fun z => by
      rw [e] at z
      have := (nI_eq (b := 300) (by omega) (by decide)).mp z
      omega, fun _ => by rw [h2]; decide⟩
def mX9 (B : Nat → Int32) (n m : Nat) (T : Nat → Int32) (S E : Nat → Nat) (H : am_IT) (k : Nat) (L : List rOp) (ls : List (Nat × List rOp)) (I : am_IT) : Prop :=
  mZ B n m T S E I k (rRefs L) I ∧ wK9 0 H I ∧ I 55 39 = 0 ∧ (rRefs L).length ≤ k ∧ (∀ l mm code, ls[l]? = some (mm, code) → I 75 (16 + l) = nI (1 + mm) ∧ I 76 (16 + l) = nI ((ls.take l).map (fun q => (rRefs q.2).length)).sum ∧ I 77 (16 + l) = nI ((ls.take (l + 1)).map (fun q => (rRefs q.2).length)).sum) ∧ L = ls.flatMap (fun q => q.2) ∧ ls.length ≤ 16
def oX9 (B : Nat → Int32) (n m : Nat) (T : Nat → Int32) (S E : Nat → Nat) (H : am_IT) (out : gK) (z : (Int32 × am_IT) ⊕ (Int32 × am_IT)) : Prop := match out with
  | .inl ls => ∃ I' k' L', z = .inl (nI ls.length, I') ∧ T k' = 300 ∧ mX9 B n m T S E H k' L' ls I'
  | .inr (fq, kq) => (∃ I', z = .inr (-1, I') ∧ I' 55 42 = nI fq ∧ I' 55 43 = nI (S kq) ∧ wK9 0 H I') ∨ (∃ I' L' ls', z = .inl (nI ls'.length, I') ∧ fq = 1 ∧ ¬ T kq = 300 ∧ mX9 B n m T S E H kq L' ls' I')
theorem mX_add {B : Nat → Int32} {n m : Nat} {T : Nat → Int32} {S E : Nat → Nat} {H : am_IT} {k k1 mm : Nat} {L Y : List rOp} {ls : List (Nat × List rOp)} {I I' : am_IT} (h : mX9 B n m T S E H k L ls I) (M : mZ B n m T S E I' k1 (rRefs (L ++ Y)) I') (W : wK9 ls.length I I') (h39 : I' 55 39 = 0) (h75 : I' 75 (16 + ls.length) = nI (1 + mm)) (h76 : I' 76 (16 + ls.length) = nI (rRefs L).length) (h77 : I' 77 (16 + ls.length) = nI (rRefs (L ++ Y)).length) (hk : (rRefs (L ++ Y)).length ≤ k1) (hl : ls.length < 16) : mX9 B n m T S E H k1 (L ++ Y) (ls ++ [(mm, (L ++ Y).drop L.length)]) I' := by
  obtain ⟨a1, a2, a3, a4, a5, a6, a7⟩ := h
  have hd : (L ++ Y).drop L.length = Y := List.drop_left
  rw [hd]
  have hLY : L ++ Y = (ls ++ [(mm, Y)]).flatMap (fun q => q.2) := by
    rw [List.flatMap_append, ← a6]
    show L ++ Y = L ++ (Y ++ [])
    rw [List.append_nil]
  refine ⟨M, wS_t a2 (wS_d W (Nat.zero_le _)), h39, hk, fun l m2 code hx => ?_, hLY, by rw [List.length_append]; show ls.length + 1 ≤ 16; omega⟩
  by_cases z : l = ls.length
  · subst z
    rw [List.getElem?_append_right (Nat.le_refl _), Nat.sub_self] at hx
    cases hx
    refine ⟨h75, ?_, ?_⟩
    · rw [h76, List.take_append_of_le_length (Nat.le_refl _), List.take_length, a6, refs_sum]
    · rw [h77, List.take_of_length_le (by rw [List.length_append]; exact Nat.le_refl _), hLY, refs_sum]
  · by_cases g : l < ls.length
    · rw [List.getElem?_append_left g] at hx
      obtain ⟨w1, w2, w3⟩ := W.2.2.2 (16 + l) (by omega)
      rw [w1, w2, w3, List.take_append_of_le_length (by omega), List.take_append_of_le_length (by omega)]
      exact a5 l m2 code hx
    · rw [List.getElem?_append_right (by omega)] at hx
      obtain ⟨p, hp⟩ : ∃ p, l - ls.length = p + 1 := ⟨l - ls.length - 1, by omega⟩
      rw [hp] at hx
      cases hx
theorem r_tloop {B : Nat → Int32} {n m : Nat} {T : Nat → Int32} {S E : Nat → Nat} {H : am_IT} (X : nx B n m T S E) (hT : ∀ k, okT (T k)) (hT3 : ∀ k, m ≤ k → T k = 300) : ∀ (f k : Nat) (L : List rOp) (ls : List (Nat × List rOp)) (I : am_IT) (N : Nat), mX9 B n m T S E H k L ls I → m - k < f → m - k < N → ∃ z, am_it N (am_u2 bTx) (nI ls.length, I) = some z ∧ oX9 B n m T S E H (gt T f k L ls) z := by
  intro f
  induction f with
  | zero => intro k L ls I N _ h; omega
  | succ f ih =>
    intro k L ls I N h hf hN
    obtain ⟨N, rfl⟩ : ∃ N', N = N' + 1 := ⟨N - 1, by omega⟩
    have M := h.1
    have K := M.2.2.2.1
    have hl := h.2.2.2.2.2.2
    have ex : ¬ T k = 256 → bTx (nI ls.length) I = some (.inr (.inl (nI ls.length, I))) := by
      intro q
      unfold bTx
      rw [e_isW K (w := 0) (by decide) (v := 0) rfl, if_neg (show ¬ T k = nI (256 + wp 0) from q), am_b1_s, if_pos rfl]
    unfold gt
    by_cases h1 : T k = 300
    · rw [if_pos h1]
      exact ⟨_, am_it_e (ex (by rw [h1]; decide)), I, k, L, rfl, h1, h⟩
    · rw [if_neg h1]
      by_cases h2 : T k = 256
      · obtain ⟨z, hz, hO⟩ := r_line1 (l := ls.length) X hT hT3 M h.2.2.1 h.2.2.2.1 hl h2
        cases hg : gn T k ls.length L with
        | inr e =>
          obtain ⟨fq, kq⟩ := e
          rw [hg] at hO
          obtain ⟨I', rfl, F1, F2, F3⟩ := hO
          exact ⟨_, am_it_e hz, Or.inl ⟨I', rfl, F1, F2, wS_t h.2.1 (wS_d F3 (Nat.zero_le _))⟩⟩
        | inl e =>
          obtain ⟨mm, k1, L1⟩ := e
          rw [hg] at hO
          obtain ⟨I', rfl, b1, b2, b3, b4, b5, b6⟩ := hO
          obtain ⟨g1, g2, g3, g4, g5, Y, rfl, g6, g7, g8, g9⟩ := gn_p hT hT3 M.1 hg
          have hk : (rRefs (L ++ Y)).length ≤ k1 := by
            rw [rRefs_app, List.length_append]
            have := h.2.2.2.1
            omega
          obtain ⟨z, hz2, hO⟩ := ih k1 (L ++ Y) _ I' N (mX_add h b1 b2 b3 b4 b5 b6 hk g1) (by omega) (by omega)
          refine ⟨z, ?_, hO⟩
          rw [← hz2]
          have e1 : (ls ++ [(mm, (L ++ Y).drop L.length)]).length = ls.length + 1 := by rw [List.length_append]; rfl
          rw [e1]
          exact am_it_l hz
      · have hgn : gn T k ls.length L = .inr (1, k) := if_neg h2
        rw [hgn]
        exact ⟨_, am_it_e (ex h2), Or.inr ⟨I, L, ls, rfl, rfl, h1, h⟩⟩
