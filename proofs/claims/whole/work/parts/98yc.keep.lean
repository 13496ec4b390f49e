/-! text: the tape empty, the fault anew -/
def tF9 (K : am_IT) (x y : Int32) : am_IT := up2 (up2 (up2 (up2 (up2 (up2 K 0 9 0) 0 10 x) 0 11 y) 55 26 0) 55 44 x) 55 45 y
theorem RI_tf {b : Bool} {K : am_IT} (x y : Int32) (h : RI b K) : RI b (tF9 K x y) := by
  obtain ⟨c, w, p, t, yy, d, ln, n, ⟨hb, hs, hr⟩, rtp, ⟨m1, m2, m3, m4⟩, rke⟩ := h
  exact ⟨c, w, p, t, yy, d, ln, 0, ⟨hb, hs, hr⟩, ⟨by decide, rfl, rfl, fun j hj => by omega⟩, ⟨⟨rfl, rfl⟩, m2, m3, m4⟩, rke⟩
