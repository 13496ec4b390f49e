/-! text: the class's end of it -/
theorem c_textF {I J : am_IT} (e : F_X7_read_47_54 I (I 0 9) = some (0, J)) : F_X11_text_0 I = some (-1, up2 (up2 (up2 J 0 9 0) 0 10 (J 47 1)) 0 11 (J 47 2)) := by
  unfold F_X11_text_0
  rw [e, am_b2_s, am_let_s, am_let_s, am_let_s, if_pos rfl]
  rfl
def cc9 (J : am_IT) : am_IT := cpy2 (cpy2 (cpy2 (up2 (up2 J 11 0 (J 48 0)) 11 1 (J 48 1)) 49 12 0 0 16) 50 13 0 0 16) 51 14 0 0 400
theorem c_textS {I J : am_IT} (e : F_X7_read_47_54 I (I 0 9) = some (1, J)) : F_X11_text_0 I = some (J 48 0, cc9 (up2 (up2 (up2 J 0 9 0) 0 10 (J 47 1)) 0 11 (J 47 2))) := by
  unfold F_X11_text_0
  rw [e, am_b2_s, am_let_s, am_let_s, am_let_s, if_neg (show ¬ (1 : Int32) = 0 by decide)]
  unfold F_X6_copyFrom_11_48
  rw [am_let_s, am_let_s, if_pos (show am_cpok (0 : Int32) (0 : Int32) (16 : Int32) 16 16 = true by decide), am_let_s, if_pos (show am_cpok (0 : Int32) (0 : Int32) (16 : Int32) 16 16 = true by decide), am_let_s, if_pos (show am_cpok (0 : Int32) (0 : Int32) (400 : Int32) 400 400 = true by decide), am_let_s, am_b1_s]
  rfl
