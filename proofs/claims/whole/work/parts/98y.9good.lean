/-! text: what a rule that was read is like -/
def gd9 (q : Nat × List rOp) : Prop := q.1 < 6 ∧ (∀ o ∈ q.2, rOpOk o) ∧ (q.2 = [] ∨ rRun q.2 [] = some [true])
theorem gt_p {T : Nat → Int32} {m : Nat} (hT : ∀ k, okT (T k)) (hT3 : ∀ k, m ≤ k → T k = 300) : ∀ (f k : Nat) (L : List rOp) (ls ls' : List (Nat × List rOp)), k ≤ m → (∀ q ∈ ls, gd9 q) → gt T f k L ls = .inl ls' → ∀ q ∈ ls', gd9 q := by
  intro f
  induction f with
  | zero => intro k L ls ls' _ _ e; cases e
  | succ f ih =>
    intro k L ls ls' hk h e
    unfold gt at e
    by_cases h1 : T k = 300
    · rw [if_pos h1] at e
      have e2 : ls = ls' := Sum.inl.inj e
      rw [← e2]; exact h
    · rw [if_neg h1] at e
      cases hg : gn T k ls.length L with
      | inr z => rw [hg] at e; cases e
      | inl z =>
        obtain ⟨mm, k1, L1⟩ := z
        rw [hg] at e
        obtain ⟨g1, g2, g3, g4, g5, Y, rfl, g6, g7, g8, g9⟩ := gn_p hT hT3 hk hg
        have hd : (L ++ Y).drop L.length = Y := List.drop_left
        refine ih k1 (L ++ Y) (ls ++ [(mm, (L ++ Y).drop L.length)]) ls' g3 (fun q hq => ?_) e
        rcases List.mem_append.mp hq with z | z
        · exact h q z
        · rw [List.mem_singleton.mp z, hd]
          exact ⟨g4, g8, g9⟩
