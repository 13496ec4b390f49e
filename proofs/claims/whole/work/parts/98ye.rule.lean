/-! text: RI with another rule -/
def tR9 (K Q : am_IT) (ln sc x y : Int32) : am_IT := tF9 (up2 (up2 (up2 (st2 (st2 (st2 (st2 (st2 (st2 (st2 (st2 K 12 (Q 12)) 13 (Q 13)) 14 (Q 14)) 75 (Q 75)) 76 (Q 76)) 77 (Q 77)) 78 (Q 78)) 79 (Q 79)) 11 0 ln) 11 1 sc) 55 32 ln) x y
theorem RI_tr {b : Bool} {K Q : am_IT} {ln : Nat} {sc : Int32} (x y : Int32) (h : RI b K) (hl : ln ≤ 16) (hr : rRule ln sc (Q 12) (Q 13) (Q 14) (Q 75) (Q 76) (Q 77) (Q 78) (Q 79)) : RI b (tR9 K Q (nI ln) sc x y) := by
  obtain ⟨c, w, p, t, yy, d, l0, n, ⟨hb, ⟨s1, s2, s3, s4, s5, s6, s7, s8⟩, ⟨rpo, rpa, rho, rvi, rtr, rta, rsa, rbe, rne, rde, rlo, rli, rru⟩⟩, rtp, ⟨m1, m2, m3, m4⟩, rke⟩ := h
  refine ⟨c, w, p, t, yy, d, ln, 0, ⟨⟨hb.1, hb.2.1, hb.2.2.1, hb.2.2.2.1, hb.2.2.2.2.1, hb.2.2.2.2.2.1, hb.2.2.2.2.2.2.1, hl⟩, ⟨s1, s2, s3, s4, s5, s6, ⟨rfl, rfl⟩, s8⟩, ⟨rpo, rpa, rho, rvi, rtr, rta, rsa, rbe, rne, rde, rlo, rli, hr⟩⟩, ⟨by decide, rfl, rfl, fun j hj => by omega⟩, ⟨⟨rfl, rfl⟩, m2, m3, m4⟩, rke⟩
