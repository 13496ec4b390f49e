/-! the image: its town made -/
def pLs : List (Nat × Nat × Nat) := [(94, 6, 95), (94, 7, 96), (94, 8, 97), (94, 9, 98), (94, 10, 99), (94, 11, 100), (94, 12, 101), (94, 13, 102), (94, 14, 103), (104, 2, 105), (104, 3, 106), (104, 4, 107), (94, 15, 104), (108, 1, 109), (108, 2, 110), (94, 16, 108), (111, 0, 112), (111, 1, 113), (111, 2, 114), (111, 3, 115), (94, 17, 111)]
theorem zrs {α : Type} (f : Nat → Nat → α) (n : Nat) (v : α) : ∃ g, zr f n v = g ∧ ∀ k, k ≠ n → g k = f k := ⟨_, rfl, fun k hk => zr_k f v hk⟩
theorem upa {α : Type} (f : Nat → Nat → α) (k j : Nat) (v : α) : ∃ g, up2 f k j v = g ∧ g k j = v ∧ (∀ i, i ≠ j → g k i = f k i) ∧ ∀ a, a ≠ k → g a = f a := ⟨_, rfl, up2_s _ _ _ _, fun i hi => up2_j _ _ hi, fun a ha => up2_k _ _ ha⟩
theorem e_in94 (P : am_PT) (I : am_IT) : ∃ P' I', F_X9_init_94 P I = some (P', I') ∧ (∀ k, k < 94 → P' k = P k) ∧ (∀ k, k < 94 → I' k = I k) ∧ ∀ q, q ∈ pLs → P' q.1 q.2.1 = some q.2.2 := by
  unfold F_X9_init_94
  obtain ⟨I1, e1, s1, f1, g1⟩ := upa I 94 0 (3 : Int32)
  rw [am_let_s, e1]
  obtain ⟨I2, e2, s2, f2, g2⟩ := upa I1 94 1 (0 : Int32)
  rw [am_let_s, e2]
  obtain ⟨I3, e3, s3, f3, g3⟩ := upa I2 94 2 (0 : Int32)
  rw [am_let_s, e3]
  obtain ⟨I4, e4, s4, f4, g4⟩ := upa I3 94 3 (0 : Int32)
  rw [am_let_s, e4]
  obtain ⟨I5, e5, s5, f5, g5⟩ := upa I4 94 4 (0 : Int32)
  rw [am_let_s, e5]
  obtain ⟨I6, e6, s6, f6, g6⟩ := upa I5 94 5 (0 : Int32)
  rw [am_let_s, e6]
  obtain ⟨P7, e7, g7⟩ := zrs P 95 (none)
  rw [am_let_s, e7]
  obtain ⟨I8, e8, g8⟩ := zrs I6 95 (0)
  rw [am_let_s, e8]
  obtain ⟨P9, e9, s9, f9, g9⟩ := upa P7 94 6 (some 95)
  rw [am_let_s, e9]
  obtain ⟨P10, e10, g10⟩ := zrs P9 96 (none)
  rw [am_let_s, e10]
  obtain ⟨I11, e11, g11⟩ := zrs I8 96 (0)
  rw [am_let_s, e11]
  obtain ⟨P12, e12, s12, f12, g12⟩ := upa P10 94 7 (some 96)
  rw [am_let_s, e12]
  obtain ⟨P13, e13, g13⟩ := zrs P12 97 (none)
  rw [am_let_s, e13]
  obtain ⟨I14, e14, g14⟩ := zrs I11 97 (0)
  rw [am_let_s, e14]
  obtain ⟨P15, e15, s15, f15, g15⟩ := upa P13 94 8 (some 97)
  rw [am_let_s, e15]
  obtain ⟨P16, e16, g16⟩ := zrs P15 98 (none)
  rw [am_let_s, e16]
  obtain ⟨I17, e17, g17⟩ := zrs I14 98 (0)
  rw [am_let_s, e17]
  obtain ⟨P18, e18, s18, f18, g18⟩ := upa P16 94 9 (some 98)
  rw [am_let_s, e18]
  obtain ⟨P19, e19, g19⟩ := zrs P18 99 (none)
  rw [am_let_s, e19]
  obtain ⟨I20, e20, g20⟩ := zrs I17 99 (0)
  rw [am_let_s, e20]
  obtain ⟨P21, e21, s21, f21, g21⟩ := upa P19 94 10 (some 99)
  rw [am_let_s, e21]
  obtain ⟨P22, e22, g22⟩ := zrs P21 100 (none)
  rw [am_let_s, e22]
  obtain ⟨I23, e23, g23⟩ := zrs I20 100 (0)
  rw [am_let_s, e23]
  obtain ⟨P24, e24, s24, f24, g24⟩ := upa P22 94 11 (some 100)
  rw [am_let_s, e24]
  obtain ⟨P25, e25, g25⟩ := zrs P24 101 (none)
  rw [am_let_s, e25]
  obtain ⟨I26, e26, g26⟩ := zrs I23 101 (0)
  rw [am_let_s, e26]
  obtain ⟨P27, e27, s27, f27, g27⟩ := upa P25 94 12 (some 101)
  rw [am_let_s, e27]
  obtain ⟨P28, e28, g28⟩ := zrs P27 102 (none)
  rw [am_let_s, e28]
  obtain ⟨I29, e29, g29⟩ := zrs I26 102 (0)
  rw [am_let_s, e29]
  obtain ⟨P30, e30, s30, f30, g30⟩ := upa P28 94 13 (some 102)
  rw [am_let_s, e30]
  obtain ⟨P31, e31, g31⟩ := zrs P30 103 (none)
  rw [am_let_s, e31]
  obtain ⟨I32, e32, g32⟩ := zrs I29 103 (0)
  rw [am_let_s, e32]
  obtain ⟨P33, e33, s33, f33, g33⟩ := upa P31 94 14 (some 103)
  rw [am_let_s, e33]
  obtain ⟨P34, e34, g34⟩ := zrs P33 104 (none)
  rw [am_let_s, e34]
  obtain ⟨I35, e35, g35⟩ := zrs I32 104 (0)
  rw [am_let_s, e35]
  unfold F_X6_init_104
  obtain ⟨I36, e36, s36, f36, g36⟩ := upa I35 104 0 (0 : Int32)
  rw [am_let_s, e36]
  obtain ⟨I37, e37, s37, f37, g37⟩ := upa I36 104 1 (0 : Int32)
  rw [am_let_s, e37]
  obtain ⟨P38, e38, g38⟩ := zrs P34 105 (none)
  rw [am_let_s, e38]
  obtain ⟨I39, e39, g39⟩ := zrs I37 105 (0)
  rw [am_let_s, e39]
  obtain ⟨P40, e40, s40, f40, g40⟩ := upa P38 104 2 (some 105)
  rw [am_let_s, e40]
  obtain ⟨P41, e41, g41⟩ := zrs P40 106 (none)
  rw [am_let_s, e41]
  obtain ⟨I42, e42, g42⟩ := zrs I39 106 (0)
  rw [am_let_s, e42]
  obtain ⟨P43, e43, s43, f43, g43⟩ := upa P41 104 3 (some 106)
  rw [am_let_s, e43]
  obtain ⟨P44, e44, g44⟩ := zrs P43 107 (none)
  rw [am_let_s, e44]
  obtain ⟨I45, e45, g45⟩ := zrs I42 107 (0)
  rw [am_let_s, e45]
  obtain ⟨P46, e46, s46, f46, g46⟩ := upa P44 104 4 (some 107)
  rw [am_let_s, e46]
  rw [am_b2_s]
  obtain ⟨P47, e47, s47, f47, g47⟩ := upa P46 94 15 (some 104)
  rw [am_let_s, e47]
  obtain ⟨P48, e48, g48⟩ := zrs P47 108 (none)
  rw [am_let_s, e48]
  obtain ⟨I49, e49, g49⟩ := zrs I45 108 (0)
  rw [am_let_s, e49]
  unfold F_X1_init_108
  obtain ⟨I50, e50, s50, f50, g50⟩ := upa I49 108 0 (0 : Int32)
  rw [am_let_s, e50]
  obtain ⟨P51, e51, g51⟩ := zrs P48 109 (none)
  rw [am_let_s, e51]
  obtain ⟨I52, e52, g52⟩ := zrs I50 109 (0)
  rw [am_let_s, e52]
  obtain ⟨P53, e53, s53, f53, g53⟩ := upa P51 108 1 (some 109)
  rw [am_let_s, e53]
  obtain ⟨P54, e54, g54⟩ := zrs P53 110 (none)
  rw [am_let_s, e54]
  obtain ⟨I55, e55, g55⟩ := zrs I52 110 (0)
  rw [am_let_s, e55]
  obtain ⟨P56, e56, s56, f56, g56⟩ := upa P54 108 2 (some 110)
  rw [am_let_s, e56]
  rw [am_b2_s]
  obtain ⟨P57, e57, s57, f57, g57⟩ := upa P56 94 16 (some 108)
  rw [am_let_s, e57]
  obtain ⟨P58, e58, g58⟩ := zrs P57 111 (none)
  rw [am_let_s, e58]
  obtain ⟨I59, e59, g59⟩ := zrs I55 111 (0)
  rw [am_let_s, e59]
  unfold F_X5_init_111
  obtain ⟨P60, e60, g60⟩ := zrs P58 112 (none)
  rw [am_let_s, e60]
  obtain ⟨I61, e61, g61⟩ := zrs I59 112 (0)
  rw [am_let_s, e61]
  obtain ⟨P62, e62, s62, f62, g62⟩ := upa P60 111 0 (some 112)
  rw [am_let_s, e62]
  obtain ⟨P63, e63, g63⟩ := zrs P62 113 (none)
  rw [am_let_s, e63]
  obtain ⟨I64, e64, g64⟩ := zrs I61 113 (0)
  rw [am_let_s, e64]
  obtain ⟨P65, e65, s65, f65, g65⟩ := upa P63 111 1 (some 113)
  rw [am_let_s, e65]
  obtain ⟨P66, e66, g66⟩ := zrs P65 114 (none)
  rw [am_let_s, e66]
  obtain ⟨I67, e67, g67⟩ := zrs I64 114 (0)
  rw [am_let_s, e67]
  obtain ⟨P68, e68, s68, f68, g68⟩ := upa P66 111 2 (some 114)
  rw [am_let_s, e68]
  obtain ⟨P69, e69, g69⟩ := zrs P68 115 (none)
  rw [am_let_s, e69]
  obtain ⟨I70, e70, g70⟩ := zrs I67 115 (0)
  rw [am_let_s, e70]
  obtain ⟨P71, e71, s71, f71, g71⟩ := upa P69 111 3 (some 115)
  rw [am_let_s, e71]
  obtain ⟨I72, e72, s72, f72, g72⟩ := upa I70 111 4 (0 : Int32)
  rw [am_let_s, e72]
  obtain ⟨I73, e73, s73, f73, g73⟩ := upa I72 111 5 (0 : Int32)
  rw [am_let_s, e73]
  obtain ⟨I74, e74, s74, f74, g74⟩ := upa I73 111 6 (-1 : Int32)
  rw [am_let_s, e74]
  obtain ⟨I75, e75, s75, f75, g75⟩ := upa I74 111 7 (0 : Int32)
  rw [am_let_s, e75]
  rw [am_b2_s]
  obtain ⟨P76, e76, s76, f76, g76⟩ := upa P71 94 17 (some 111)
  rw [am_let_s, e76]
  refine ⟨P76, I75, rfl, fun k hk => ?_, fun k hk => ?_, fun q hq => ?_⟩
  · rw [g76 k (by omega), g71 k (by omega), g69 k (by omega), g68 k (by omega), g66 k (by omega), g65 k (by omega), g63 k (by omega), g62 k (by omega), g60 k (by omega), g58 k (by omega), g57 k (by omega), g56 k (by omega), g54 k (by omega), g53 k (by omega), g51 k (by omega), g48 k (by omega), g47 k (by omega), g46 k (by omega), g44 k (by omega), g43 k (by omega), g41 k (by omega), g40 k (by omega), g38 k (by omega), g34 k (by omega), g33 k (by omega), g31 k (by omega), g30 k (by omega), g28 k (by omega), g27 k (by omega), g25 k (by omega), g24 k (by omega), g22 k (by omega), g21 k (by omega), g19 k (by omega), g18 k (by omega), g16 k (by omega), g15 k (by omega), g13 k (by omega), g12 k (by omega), g10 k (by omega), g9 k (by omega), g7 k (by omega)]
  · rw [g75 k (by omega), g74 k (by omega), g73 k (by omega), g72 k (by omega), g70 k (by omega), g67 k (by omega), g64 k (by omega), g61 k (by omega), g59 k (by omega), g55 k (by omega), g52 k (by omega), g50 k (by omega), g49 k (by omega), g45 k (by omega), g42 k (by omega), g39 k (by omega), g37 k (by omega), g36 k (by omega), g35 k (by omega), g32 k (by omega), g29 k (by omega), g26 k (by omega), g23 k (by omega), g20 k (by omega), g17 k (by omega), g14 k (by omega), g11 k (by omega), g8 k (by omega), g6 k (by omega), g5 k (by omega), g4 k (by omega), g3 k (by omega), g2 k (by omega), g1 k (by omega)]
  · unfold pLs at hq
    simp only [List.mem_cons, List.not_mem_nil, or_false] at hq
    rcases hq with rfl | rfl | rfl | rfl | rfl | rfl | rfl | rfl | rfl | rfl | rfl | rfl | rfl | rfl | rfl | rfl | rfl | rfl | rfl | rfl | rfl
    · show P76 94 6 = some 95
      rw [f76 6 (by decide), g71 94 (by decide), g69 94 (by decide), g68 94 (by decide), g66 94 (by decide), g65 94 (by decide), g63 94 (by decide), g62 94 (by decide), g60 94 (by decide), g58 94 (by decide), f57 6 (by decide), g56 94 (by decide), g54 94 (by decide), g53 94 (by decide), g51 94 (by decide), g48 94 (by decide), f47 6 (by decide), g46 94 (by decide), g44 94 (by decide), g43 94 (by decide), g41 94 (by decide), g40 94 (by decide), g38 94 (by decide), g34 94 (by decide), f33 6 (by decide), g31 94 (by decide), f30 6 (by decide), g28 94 (by decide), f27 6 (by decide), g25 94 (by decide), f24 6 (by decide), g22 94 (by decide), f21 6 (by decide), g19 94 (by decide), f18 6 (by decide), g16 94 (by decide), f15 6 (by decide), g13 94 (by decide), f12 6 (by decide), g10 94 (by decide), s9]
    · show P76 94 7 = some 96
      rw [f76 7 (by decide), g71 94 (by decide), g69 94 (by decide), g68 94 (by decide), g66 94 (by decide), g65 94 (by decide), g63 94 (by decide), g62 94 (by decide), g60 94 (by decide), g58 94 (by decide), f57 7 (by decide), g56 94 (by decide), g54 94 (by decide), g53 94 (by decide), g51 94 (by decide), g48 94 (by decide), f47 7 (by decide), g46 94 (by decide), g44 94 (by decide), g43 94 (by decide), g41 94 (by decide), g40 94 (by decide), g38 94 (by decide), g34 94 (by decide), f33 7 (by decide), g31 94 (by decide), f30 7 (by decide), g28 94 (by decide), f27 7 (by decide), g25 94 (by decide), f24 7 (by decide), g22 94 (by decide), f21 7 (by decide), g19 94 (by decide), f18 7 (by decide), g16 94 (by decide), f15 7 (by decide), g13 94 (by decide), s12]
    · show P76 94 8 = some 97
      rw [f76 8 (by decide), g71 94 (by decide), g69 94 (by decide), g68 94 (by decide), g66 94 (by decide), g65 94 (by decide), g63 94 (by decide), g62 94 (by decide), g60 94 (by decide), g58 94 (by decide), f57 8 (by decide), g56 94 (by decide), g54 94 (by decide), g53 94 (by decide), g51 94 (by decide), g48 94 (by decide), f47 8 (by decide), g46 94 (by decide), g44 94 (by decide), g43 94 (by decide), g41 94 (by decide), g40 94 (by decide), g38 94 (by decide), g34 94 (by decide), f33 8 (by decide), g31 94 (by decide), f30 8 (by decide), g28 94 (by decide), f27 8 (by decide), g25 94 (by decide), f24 8 (by decide), g22 94 (by decide), f21 8 (by decide), g19 94 (by decide), f18 8 (by decide), g16 94 (by decide), s15]
    · show P76 94 9 = some 98
      rw [f76 9 (by decide), g71 94 (by decide), g69 94 (by decide), g68 94 (by decide), g66 94 (by decide), g65 94 (by decide), g63 94 (by decide), g62 94 (by decide), g60 94 (by decide), g58 94 (by decide), f57 9 (by decide), g56 94 (by decide), g54 94 (by decide), g53 94 (by decide), g51 94 (by decide), g48 94 (by decide), f47 9 (by decide), g46 94 (by decide), g44 94 (by decide), g43 94 (by decide), g41 94 (by decide), g40 94 (by decide), g38 94 (by decide), g34 94 (by decide), f33 9 (by decide), g31 94 (by decide), f30 9 (by decide), g28 94 (by decide), f27 9 (by decide), g25 94 (by decide), f24 9 (by decide), g22 94 (by decide), f21 9 (by decide), g19 94 (by decide), s18]
    · show P76 94 10 = some 99
      rw [f76 10 (by decide), g71 94 (by decide), g69 94 (by decide), g68 94 (by decide), g66 94 (by decide), g65 94 (by decide), g63 94 (by decide), g62 94 (by decide), g60 94 (by decide), g58 94 (by decide), f57 10 (by decide), g56 94 (by decide), g54 94 (by decide), g53 94 (by decide), g51 94 (by decide), g48 94 (by decide), f47 10 (by decide), g46 94 (by decide), g44 94 (by decide), g43 94 (by decide), g41 94 (by decide), g40 94 (by decide), g38 94 (by decide), g34 94 (by decide), f33 10 (by decide), g31 94 (by decide), f30 10 (by decide), g28 94 (by decide), f27 10 (by decide), g25 94 (by decide), f24 10 (by decide), g22 94 (by decide), s21]
    · show P76 94 11 = some 100
      rw [f76 11 (by decide), g71 94 (by decide), g69 94 (by decide), g68 94 (by decide), g66 94 (by decide), g65 94 (by decide), g63 94 (by decide), g62 94 (by decide), g60 94 (by decide), g58 94 (by decide), f57 11 (by decide), g56 94 (by decide), g54 94 (by decide), g53 94 (by decide), g51 94 (by decide), g48 94 (by decide), f47 11 (by decide), g46 94 (by decide), g44 94 (by decide), g43 94 (by decide), g41 94 (by decide), g40 94 (by decide), g38 94 (by decide), g34 94 (by decide), f33 11 (by decide), g31 94 (by decide), f30 11 (by decide), g28 94 (by decide), f27 11 (by decide), g25 94 (by decide), s24]
    · show P76 94 12 = some 101
      rw [f76 12 (by decide), g71 94 (by decide), g69 94 (by decide), g68 94 (by decide), g66 94 (by decide), g65 94 (by decide), g63 94 (by decide), g62 94 (by decide), g60 94 (by decide), g58 94 (by decide), f57 12 (by decide), g56 94 (by decide), g54 94 (by decide), g53 94 (by decide), g51 94 (by decide), g48 94 (by decide), f47 12 (by decide), g46 94 (by decide), g44 94 (by decide), g43 94 (by decide), g41 94 (by decide), g40 94 (by decide), g38 94 (by decide), g34 94 (by decide), f33 12 (by decide), g31 94 (by decide), f30 12 (by decide), g28 94 (by decide), s27]
    · show P76 94 13 = some 102
      rw [f76 13 (by decide), g71 94 (by decide), g69 94 (by decide), g68 94 (by decide), g66 94 (by decide), g65 94 (by decide), g63 94 (by decide), g62 94 (by decide), g60 94 (by decide), g58 94 (by decide), f57 13 (by decide), g56 94 (by decide), g54 94 (by decide), g53 94 (by decide), g51 94 (by decide), g48 94 (by decide), f47 13 (by decide), g46 94 (by decide), g44 94 (by decide), g43 94 (by decide), g41 94 (by decide), g40 94 (by decide), g38 94 (by decide), g34 94 (by decide), f33 13 (by decide), g31 94 (by decide), s30]
    · show P76 94 14 = some 103
      rw [f76 14 (by decide), g71 94 (by decide), g69 94 (by decide), g68 94 (by decide), g66 94 (by decide), g65 94 (by decide), g63 94 (by decide), g62 94 (by decide), g60 94 (by decide), g58 94 (by decide), f57 14 (by decide), g56 94 (by decide), g54 94 (by decide), g53 94 (by decide), g51 94 (by decide), g48 94 (by decide), f47 14 (by decide), g46 94 (by decide), g44 94 (by decide), g43 94 (by decide), g41 94 (by decide), g40 94 (by decide), g38 94 (by decide), g34 94 (by decide), s33]
    · show P76 104 2 = some 105
      rw [g76 104 (by decide), g71 104 (by decide), g69 104 (by decide), g68 104 (by decide), g66 104 (by decide), g65 104 (by decide), g63 104 (by decide), g62 104 (by decide), g60 104 (by decide), g58 104 (by decide), g57 104 (by decide), g56 104 (by decide), g54 104 (by decide), g53 104 (by decide), g51 104 (by decide), g48 104 (by decide), g47 104 (by decide), f46 2 (by decide), g44 104 (by decide), f43 2 (by decide), g41 104 (by decide), s40]
    · show P76 104 3 = some 106
      rw [g76 104 (by decide), g71 104 (by decide), g69 104 (by decide), g68 104 (by decide), g66 104 (by decide), g65 104 (by decide), g63 104 (by decide), g62 104 (by decide), g60 104 (by decide), g58 104 (by decide), g57 104 (by decide), g56 104 (by decide), g54 104 (by decide), g53 104 (by decide), g51 104 (by decide), g48 104 (by decide), g47 104 (by decide), f46 3 (by decide), g44 104 (by decide), s43]
    · show P76 104 4 = some 107
      rw [g76 104 (by decide), g71 104 (by decide), g69 104 (by decide), g68 104 (by decide), g66 104 (by decide), g65 104 (by decide), g63 104 (by decide), g62 104 (by decide), g60 104 (by decide), g58 104 (by decide), g57 104 (by decide), g56 104 (by decide), g54 104 (by decide), g53 104 (by decide), g51 104 (by decide), g48 104 (by decide), g47 104 (by decide), s46]
    · show P76 94 15 = some 104
      rw [f76 15 (by decide), g71 94 (by decide), g69 94 (by decide), g68 94 (by decide), g66 94 (by decide), g65 94 (by decide), g63 94 (by decide), g62 94 (by decide), g60 94 (by decide), g58 94 (by decide), f57 15 (by decide), g56 94 (by decide), g54 94 (by decide), g53 94 (by decide), g51 94 (by decide), g48 94 (by decide), s47]
    · show P76 108 1 = some 109
      rw [g76 108 (by decide), g71 108 (by decide), g69 108 (by decide), g68 108 (by decide), g66 108 (by decide), g65 108 (by decide), g63 108 (by decide), g62 108 (by decide), g60 108 (by decide), g58 108 (by decide), g57 108 (by decide), f56 1 (by decide), g54 108 (by decide), s53]
    · show P76 108 2 = some 110
      rw [g76 108 (by decide), g71 108 (by decide), g69 108 (by decide), g68 108 (by decide), g66 108 (by decide), g65 108 (by decide), g63 108 (by decide), g62 108 (by decide), g60 108 (by decide), g58 108 (by decide), g57 108 (by decide), s56]
    · show P76 94 16 = some 108
      rw [f76 16 (by decide), g71 94 (by decide), g69 94 (by decide), g68 94 (by decide), g66 94 (by decide), g65 94 (by decide), g63 94 (by decide), g62 94 (by decide), g60 94 (by decide), g58 94 (by decide), s57]
    · show P76 111 0 = some 112
      rw [g76 111 (by decide), f71 0 (by decide), g69 111 (by decide), f68 0 (by decide), g66 111 (by decide), f65 0 (by decide), g63 111 (by decide), s62]
    · show P76 111 1 = some 113
      rw [g76 111 (by decide), f71 1 (by decide), g69 111 (by decide), f68 1 (by decide), g66 111 (by decide), s65]
    · show P76 111 2 = some 114
      rw [g76 111 (by decide), f71 2 (by decide), g69 111 (by decide), s68]
    · show P76 111 3 = some 115
      rw [g76 111 (by decide), s71]
    · show P76 94 17 = some 111
      rw [s76]
theorem pLs_ok : ∀ k, k < 116 → 94 ≤ k → ∀ j, j < (am_pt.getD k []).length → (match am_P1 k j with
  | none => true
  | some r => pLs.contains (k, j, r)) = true := by decide +kernel
theorem plb_up {P P' : am_PT} (h0 : am_plb 94 P = true) (h1 : ∀ k, k < 94 → ∀ j r, am_P1 k j = some r → P' k j = P k j) (h2 : ∀ q, q ∈ pLs → P' q.1 q.2.1 = some q.2.2) : am_plb 116 P' = true := by
  refine List.all_eq_true.mpr (fun k hk => List.all_eq_true.mpr (fun j hj => ?_))
  have hk' := List.mem_range.mp hk
  have hj' := List.mem_range.mp hj
  cases hr : am_P1 k j with
  | none => rfl
  | some r =>
    show (P' k j == some r) = true
    by_cases z : k < 94
    · have hl := am_plb_use h0 (Nat.le_refl 94)
      rw [h1 k z j r hr, hl.2 k j r z hr]
      exact beq_self_eq_true (some r)
    · have hq := pLs_ok k hk' (by omega) j hj'
      rw [hr] at hq
      have hm : (k, j, r) ∈ pLs := List.contains_iff_mem.mp hq
      rw [h2 (k, j, r) hm]
      exact beq_self_eq_true (some r)
theorem P1_12 : am_P1 0 12 = none := by decide +kernel
theorem P1_0 : am_P1 0 0 = some 1 := by decide +kernel
theorem op_32 : am_op32 RI := by
  refine ⟨?_, ?_⟩
  · rintro P I a1 ha ⟨hPl, -, p12, pb⟩ hR
    have p0 : P 0 0 = some 1 := hPl.get (by decide) P1_0
    rcases ha with rfl | rfl
    · obtain ⟨K, eK, k1, k2⟩ := e_cpB I
      obtain ⟨L, eL, hL⟩ := im_g hR (fun q hq j hj => by
        have h := k1 q hq j hj
        rw [show 1 - 1 + q.1 = q.1 by omega, show 94 - 1 + q.1 = 93 + q.1 by omega] at h
        exact h) (fun a h => k2 a (by simp only [List.mem_cons, List.not_mem_nil, or_false]; omega))
      refine ⟨1, P, K, L, ?_, eL, ⟨hPl, rfl, p12, pb⟩, hL⟩
      unfold F_X11_image_0_116
      rw [if_pos rfl, if_pos p12, if_pos p0, if_pos p12, if_pos pb, eK, am_b1_s]
    · obtain ⟨K, eK, k1, k2⟩ := e_cpK I
      obtain ⟨L, eL, hL⟩ := im_k hR (fun q hq j hj => by
        have h := k1 q hq j hj
        rw [show 1 - 1 + q.1 = q.1 by omega, show 94 - 1 + q.1 = 93 + q.1 by omega] at h
        exact h) (fun a h => k2 a (by simp only [List.mem_cons, List.not_mem_nil, or_false]; omega))
      refine ⟨1, P, K, L, ?_, eL, ⟨hPl, rfl, p12, pb⟩, hL⟩
      unfold F_X11_image_0_116
      rw [if_neg (by decide), if_pos p12, if_pos p12, if_pos p0, if_pos pb, eK, am_b1_s]
  · rintro P I a1 ha ⟨hPl, -, p12, pb⟩ hR
    have p0 : P 0 0 = some 1 := hPl.get (by decide) P1_0
    rcases ha with rfl | rfl
    · have h65 : (up2 I 55 0 0) 55 65 = 0 := by
        obtain ⟨-, -, -, -, -, -, -, -, -, -, rmi, -⟩ := hR
        rw [up2_j _ _ (by decide), rmi.2.2.1]
        decide
      refine ⟨0, false, 94, P, I, up2 I 55 0 0, ?_, ?_, ⟨hPl, rfl, p12, pb⟩, RI_sm (sm_u 0 rfl) hR⟩
      · unfold F_X11_image_0_94
        rw [if_pos rfl, if_pos p12]
      · unfold F_X12_image_55
        rw [am_let_s, if_pos rfl, if_pos h65]
    · obtain ⟨P7, I8, e1, q1, q2, q3⟩ := e_in94 (zr P 94 none) (zr I 94 0)
      obtain ⟨K, eK, k1, k2⟩ := e_cpK I8
      have i8 : ∀ a, a < 94 → I8 a = I a := fun a h => by rw [q2 a h, zr_k _ _ (by omega)]
      have p7 : ∀ a, a < 94 → P7 a = P a := fun a h => by rw [q1 a h, zr_k _ _ (by omega)]
      obtain ⟨L, eL, hL⟩ := im_k (K := K) hR (fun q hq j hj => by
        have h := k1 q hq j hj
        rw [show 1 - 1 + q.1 = q.1 by omega, show 94 - 1 + q.1 = 93 + q.1 by omega] at h
        have hk := kT_m q hq
        rw [h, i8 q.1 (by omega)]) (fun a h => by rw [k2 a (by simp only [List.mem_cons, List.not_mem_nil, or_false]; omega), i8 a h])
      have r12 : (up2 P7 0 12 (some 94)) 0 12 = some 94 := up2_s _ _ _ _
      have r0 : (up2 P7 0 12 (some 94)) 0 0 = some 1 := by rw [up2_j _ _ (by decide), p7 0 (by decide)]; exact p0
      have same : ∀ k, k < 94 → ∀ j r, am_P1 k j = some r → (up2 P7 0 12 (some 94)) k j = P k j := by
        intro k hk j r hr
        have hne : ¬ (k = 0 ∧ j = 12) := by
          rintro ⟨rfl, rfl⟩
          rw [P1_12] at hr; cases hr
        unfold up2
        rw [if_neg hne, p7 k hk]
      have rb : am_plb 116 (up2 P7 0 12 (some 94)) = true := plb_up pb same (fun q hq => by
        have h94 : q.1 ≠ 0 := (by decide : ∀ q, q ∈ pLs → q.1 ≠ 0) q hq
        rw [up2_k _ _ h94]; exact q3 q hq)
      refine ⟨1, true, 116, up2 P7 0 12 (some 94), K, L, ?_, eL, ⟨?_, rfl, r12, rb⟩, hL⟩
      · unfold F_X11_image_0_94
        rw [if_neg (by decide), if_pos p12, am_let_s, am_let_s, e1, am_b2_s, am_let_s, if_pos r12, if_pos r0, if_pos rb, eK, am_b1_s]
      · exact (am_plb_use rb (Nat.le_refl 116)).down (by decide)
