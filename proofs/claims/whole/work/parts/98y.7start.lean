/-! text: the reference's start -/
def tI9 (I : am_IT) : am_IT := up2 (up2 (up2 (up2 (up2 (up2 I 55 0 0) 55 44 0) 55 45 (-1)) 55 27 0) 55 38 0) 55 39 0
theorem r_start {B : Nat → Int32} {n m : Nat} {s e : Nat → Nat} {t : Nat → Int32} {I : am_IT} (R : RE B n I) (Z : TZ B n m s e t) : ∃ J, F_X12_reads_55 (tI9 I) = some J ∧ mX9 B n m (tT m t) (pS9 m n s) (pE9 m n e) (tI9 I) 0 [] [] J := by
  obtain ⟨X, T0⟩ := nx_TZ R.1 Z
  have R' : RE B n (tI9 I) := ⟨R.1, R.2.1, R.2.2.1, R.2.2.2.1, R.2.2.2.2⟩
  obtain ⟨J, e1, s1, s2, s3, s4⟩ := e_reads (q := 0) R' rfl T0
  refine ⟨J, e1, ⟨Nat.zero_le _, s2, s3, s4, (s1.2 38 (Or.inr (by decide))).trans rfl, (fun i a b h => by cases h), mF_r J, RE_s R' s1⟩, ⟨fun q h1 _ => s1.1 q h1, fun j a _ _ _ _ _ => s1.2 j a, fun i _ => ?_, fun i _ => ?_⟩, (s1.2 39 (Or.inr (by decide))).trans rfl, Nat.zero_le _, (fun l mm c h => by cases h), rfl, Nat.zero_le _⟩
  · rw [s1.1 78 (by decide), s1.1 79 (by decide)]; exact ⟨rfl, rfl⟩
  · rw [s1.1 75 (by decide), s1.1 76 (by decide), s1.1 77 (by decide)]; exact ⟨rfl, rfl, rfl⟩
theorem r_text0 {B : Nat → Int32} {n m : Nat} {s e : Nat → Nat} {t : Nat → Int32} {I : am_IT} (R : RE B n I) (Z : TZ B n m s e t) : ∃ J r I', F_X12_reads_55 (tI9 I) = some J ∧ F_X12_readText_55 J = some (r, I') ∧ rX9 B n m (tT m t) (pS9 m n s) (pE9 m n e) (tI9 I) (gt (tT m t) 1000 0 [] []) r I' := by
  obtain ⟨J, e1, h⟩ := r_start R Z
  obtain ⟨X, _⟩ := nx_TZ R.1 Z
  obtain ⟨r, I', e2, h2⟩ := r_rtext X (tT_ok R.2.2.2.1 Z) (fun k hk => if_neg (by omega)) h
  exact ⟨J, r, I', e1, e2, h2⟩
/-- a fault: the reference's end of it -/
theorem r_textF {I J I' : am_IT} {r : Int32} (e1 : F_X12_reads_55 (tI9 I) = some J) (e2 : F_X12_readText_55 J = some (r, I')) (hr : r = -1) : F_X12_text_55 I = some (-1, up2 (up2 (up2 I' 55 26 0) 55 44 (I' 55 42)) 55 45 (I' 55 43)) := by
  subst hr
  unfold F_X12_text_55
  rw [am_let_s, am_let_s, am_let_s, am_let_s, am_let_s, am_let_s]
  unfold tI9 at e1
  rw [e1, am_b1_s, e2, am_b2_s, am_let_s, if_pos rfl]
  rfl
