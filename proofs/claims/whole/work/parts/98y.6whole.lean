/-! text: the reference's whole reading -/
def rX9 (B : Nat → Int32) (n m : Nat) (T : Nat → Int32) (S E : Nat → Nat) (H : am_IT) (out : gK) (r : Int32) (I : am_IT) : Prop := match out with
  | .inl ls => r = nI ls.length ∧ ∃ k L, mX9 B n m T S E H k L ls I
  | .inr (fq, kq) => r = -1 ∧ I 55 42 = nI fq ∧ I 55 43 = nI (S kq) ∧ wK9 0 H I
theorem r_rtext {B : Nat → Int32} {n m : Nat} {T : Nat → Int32} {S E : Nat → Nat} {H : am_IT} (X : nx B n m T S E) (hT : ∀ k, okT (T k)) (hT3 : ∀ k, m ≤ k → T k = 300) {I : am_IT} (h : mX9 B n m T S E H 0 [] [] I) : ∃ r I', F_X12_readText_55 I = some (r, I') ∧ rX9 B n m T S E H (gt T 1000 0 [] []) r I' := by
  have hm : m ≤ 400 := X.2
  obtain ⟨z, hz, hO⟩ := r_tloop X hT hT3 1000 0 [] [] I am_fu h (by omega) (by show m - 0 < 1000000; omega)
  have hz' : am_it am_fu (am_u2 bTx) ((0 : Int32), I) = some z := hz
  unfold bTx at hz'
  unfold F_X12_readText_55
  rw [hz']
  revert hO
  generalize gt T 1000 0 [] [] = out
  intro hO
  match out, hO with
  | .inl ls, hO =>
    obtain ⟨I', k', L', rfl, h1, h2⟩ := hO
    rw [am_lr_l, am_u2_s, if_pos ((KV_end h2.1.2.2.2.1).1 h1)]
    exact ⟨_, _, rfl, rfl, k', L', h2⟩
  | .inr (fq, kq), hO =>
    rcases hO with ⟨I', rfl, h1⟩ | ⟨I', L', ls', rfl, rfl, h1, h2⟩
    · rw [am_lr_r]
      exact ⟨_, _, rfl, rfl, h1⟩
    · obtain ⟨I2, e2, F1, F2, F3⟩ := r_errs h2.1 (v := 1) (f := 1) rfl
      rw [am_lr_l, am_u2_s, if_neg ((KV_end h2.1.2.2.2.1).2 h1), e2, am_b2_s]
      exact ⟨_, _, rfl, rfl, F1, F2, wS_t h2.2.1 (wS_G F3 (Nat.zero_le _))⟩
/-- where the tokens end -/
def pE9 (m n : Nat) (e : Nat → Nat) : Nat → Nat := fun k => if k < m then e k else n
theorem nx_TZ {B : Nat → Int32} {n m : Nat} {s e : Nat → Nat} {t : Nat → Int32} (hn : n ≤ 400) (Z : TZ B n m s e t) : nx B n m (tT m t) (pS9 m n s) (pE9 m n e) ∧ isT B n 0 (pS9 m n s 0) (pE9 m n e 0) (tT m t 0) := by
  have at' : ∀ k, k ≤ m → isT B n (ep e k) (pS9 m n s k) (pE9 m n e k) (tT m t k) := by
    intro k hk
    unfold pS9 pE9 tT
    by_cases z : k < m
    · rw [if_pos z, if_pos z, if_pos z]; exact (Z.1 k z).1
    · have : k = m := by omega
      subst this
      rw [if_neg z, if_neg z, if_neg z]; exact Z.2.2
  refine ⟨⟨fun k hk => ?_, by have := Z.2.1; omega⟩, at' 0 (Nat.zero_le _)⟩
  have h := at' (k + 1) hk
  have e1 : ep e (k + 1) = pE9 m n e k := (if_pos hk).symm
  rw [e1] at h
  exact h
