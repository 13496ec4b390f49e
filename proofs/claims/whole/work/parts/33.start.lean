set_option maxRecDepth 100000 in
set_option maxHeartbeats 4000000 in
theorem whole_start' {RI : Bool → am_IT → Prop} (oI : am_oI RI) (o0 : am_op0 RI) (o1 : am_op1 RI) (o2 : am_op2 RI) (o3 : am_op3 RI) (o4 : am_op4 RI) (o5 : am_op5 RI) (o6 : am_op6 RI) (o7 : am_op7 RI) (o8 : am_op8 RI) (o9 : am_op9 RI) (o10 : am_op10 RI) (o11 : am_op11 RI) (o12 : am_op12 RI) (o13 : am_op13 RI) (o14 : am_op14 RI) (o15 : am_op15 RI) (o16 : am_op16 RI) (o17 : am_op17 RI) (o18 : am_op18 RI) (o19 : am_op19 RI) (o20 : am_op20 RI) (o21 : am_op21 RI) (o22 : am_op22 RI) (o23 : am_op23 RI) (o24 : am_op24 RI) (o25 : am_op25 RI) (o26 : am_op26 RI) (o27 : am_op27 RI) (o28 : am_op28 RI) (o29 : am_op29 RI) (o30 : am_op30 RI) (o31 : am_op31 RI) (o32 : am_op32 RI) (o33 : am_op33 RI) {p : Program} {e : Env} {s : State} {m : MethodId} {below : List Frame} {meth : Method} {c : Code} (l : Launch) {b L : Nat} {xs : Nat → Int32} (hL : L ≤ 3072) (hb0 : c.code = code) (hx : p.tables.exec = Jvm.exec) (hr : meth.sig.returnType = ret) (hml : c.maxLocals = 4) (hown : s.vm.findClass "PaintedByOthersLaw" = some m.cls) (hts : ∀ w ∈ lw_tbl, w.before #[Value.ref b] s = true) (hX : va_X b L xs s s.heap) (hbl : b < s.heap.size) (hlocks : meth.locks = false) (hname : meth.name = "law") (hgv : (Jvm.Cond.and given_1 narrow_1).before #[Value.ref b] s = true) : W p l e room_1 s m #[Value.ref b] below meth c s.heap [] 0 0 (fun t => ∃ o, t.status = .running ∧ Ended t below o ∧ o = .returned (some (.int 1)) ∧ Framed s o t [] 600000 7302250) (entryFrame m ([Value.ref b] : List Value).toArray 4) := by
  have htg : ∀ w ∈ lwg, w.before #[Value.ref b] s = true := fun w hw => hts w (List.mem_filter.mp hw).1
  obtain ⟨c0, iS0, hKn0⟩ := u_known (C := RX0) (T := TX0) (N := 8) (n := 8) htg (kw_X0).2.2.1 (htg _ (mem_lwg (mem_t2 (List.mem_of_getElem? (i := 31) (by decide +kernel))) rfl))
  obtain ⟨c1, iS1, hKn1⟩ := u_known (C := RX1) (T := TX1) (N := 3) (n := 3) htg (kw_X1).2.2.1 (htg _ (mem_lwg (mem_t1 (List.mem_of_getElem? (i := 66) (by decide +kernel))) rfl))
  obtain ⟨c2, iS2, hKn2⟩ := u_known (C := RX2) (T := TX2) (N := 8) (n := 8) htg (kw_X2).2.2.1 (htg _ (mem_lwg (mem_t1 (List.mem_of_getElem? (i := 237) (by decide +kernel))) rfl))
  obtain ⟨c3, iS3, hKn3⟩ := u_known (C := RX3) (T := TX3) (N := 5) (n := 5) htg (kw_X3).2.2.1 (htg _ (mem_lwg (mem_t2 (List.mem_of_getElem? (i := 112) (by decide +kernel))) rfl))
  obtain ⟨c4, iS4, hKn4⟩ := u_known (C := RX4) (T := TX4) (N := 6) (n := 6) htg (kw_X4).2.2.1 (htg _ (mem_lwg (mem_t2 (List.mem_of_getElem? (i := 85) (by decide +kernel))) rfl))
  obtain ⟨c5, iS5, hKn5⟩ := u_known (C := RX5) (T := TX5) (N := 8) (n := 8) htg (kw_X5).2.2.1 (htg _ (mem_lwg (mem_t1 (List.mem_of_getElem? (i := 83) (by decide +kernel))) rfl))
  obtain ⟨c6, iS6, hKn6⟩ := u_known (C := RX6) (T := TX6) (N := 5) (n := 5) htg (kw_X6).2.2.1 (htg _ (mem_lwg (mem_t1 (List.mem_of_getElem? (i := 38) (by decide +kernel))) rfl))
  obtain ⟨c7, iS7, hKn7⟩ := u_known (C := RX7) (T := TX7) (N := 8) (n := 8) htg (kw_X7).2.2.1 (htg _ (mem_lwg (mem_t2 (List.mem_of_getElem? (i := 135) (by decide +kernel))) rfl))
  obtain ⟨c8, iS8, hKn8⟩ := u_known (C := RX8) (T := TX8) (N := 2) (n := 2) htg (kw_X8).2.2.1 (htg _ (mem_lwg (mem_t1 (List.mem_of_getElem? (i := 224) (by decide +kernel))) rfl))
  obtain ⟨c9, iS9, hKn9⟩ := u_known (C := RX9) (T := TX9) (N := 18) (n := 18) htg (kw_X9).2.2.1 (htg _ (mem_lwg (mem_t1 (List.mem_of_getElem? (i := 32) (by decide +kernel))) rfl))
  obtain ⟨c10, iS10, hKn10⟩ := u_known (C := RX10) (T := TX10) (N := 5) (n := 5) htg (kw_X10).2.2.1 (htg _ (mem_lwg (mem_t2 (List.mem_of_getElem? (i := 63) (by decide +kernel))) rfl))
  obtain ⟨c11, iS11, hKn11⟩ := u_known (C := RX11) (T := TX11) (N := 13) (n := 13) htg (kw_X11).2.2.1 (htg _ (mem_lwg (mem_t1 (List.mem_of_getElem? (i := 24) (by decide +kernel))) rfl))
  obtain ⟨c12, iS12, hKn12⟩ := u_known (C := RX12) (T := TX12) (N := 68) (n := 68) htg (kw_X12).2.2.1 (htg _ (mem_lwg (mem_t5 (List.mem_of_getElem? (i := 186) (by decide +kernel))) rfl))
  obtain ⟨dC, dI, hKc⟩ : ∃ (dC : Nat → ClassId) (dI : Nat → Nat → Nat), ∀ (k : Nat) (q : vw_C), vwCl[k]? = some q → u_Kn s q.1 q.2.1 q.2.2 (dC k) (dI k) := by
    refine ⟨fun k => if k = 0 then c0 else if k = 1 then c1 else if k = 2 then c2 else if k = 3 then c3 else if k = 4 then c4 else if k = 5 then c5 else if k = 6 then c6 else if k = 7 then c7 else if k = 8 then c8 else if k = 9 then c9 else if k = 10 then c10 else if k = 11 then c11 else c12, fun k => if k = 0 then iS0 else if k = 1 then iS1 else if k = 2 then iS2 else if k = 3 then iS3 else if k = 4 then iS4 else if k = 5 then iS5 else if k = 6 then iS6 else if k = 7 then iS7 else if k = 8 then iS8 else if k = 9 then iS9 else if k = 10 then iS10 else if k = 11 then iS11 else iS12, ?_⟩
    intro k q hq
    match k, hq with
    | 0, hq => cases hq; exact hKn0
    | 1, hq => cases hq; exact hKn1
    | 2, hq => cases hq; exact hKn2
    | 3, hq => cases hq; exact hKn3
    | 4, hq => cases hq; exact hKn4
    | 5, hq => cases hq; exact hKn5
    | 6, hq => cases hq; exact hKn6
    | 7, hq => cases hq; exact hKn7
    | 8, hq => cases hq; exact hKn8
    | 9, hq => cases hq; exact hKn9
    | 10, hq => cases hq; exact hKn10
    | 11, hq => cases hq; exact hKn11
    | 12, hq => cases hq; exact hKn12
    | k + 13, hq => simp [vwCl] at hq
  have hnw : am_nw s := by
    intro w hw
    simp only [am_nest, List.mem_cons, List.not_mem_nil, or_false] at hw
    rcases hw with rfl | rfl | rfl | rfl | rfl | rfl
    · exact va_Nw.of rfl (hts _ (mem_t1 (List.mem_of_getElem? (i := 33) (by decide +kernel))))
    · exact va_Nw.of rfl (hts _ (mem_t1 (List.mem_of_getElem? (i := 39) (by decide +kernel))))
    · exact va_Nw.of rfl (hts _ (mem_t1 (List.mem_of_getElem? (i := 67) (by decide +kernel))))
    · exact va_Nw.of rfl (hts _ (mem_t1 (List.mem_of_getElem? (i := 84) (by decide +kernel))))
    · exact va_Nw.of rfl (hts _ (mem_t2 (List.mem_of_getElem? (i := 136) (by decide +kernel))))
    · exact va_Nw.of rfl (hts _ (mem_t2 (List.mem_of_getElem? (i := 141) (by decide +kernel))))
  obtain ⟨ad, hSX, hadb⟩ := am_SX_start (A := fun q => s.heap.size ≤ q) hts hgv (fun a h1 h2 => by omega)
  obtain ⟨cA, kA, comp, hcA1, hcA2, hcA3⟩ : ∃ (cA : ClassId) (kA : Class) (comp : ClassId), s.vm.findClass ("[" ++ (FieldType.int).toString) = some cA ∧ s.vm.classes[cA]? = some kA ∧ kA.kind = .array comp .int := Cond.arrayClass_spec (htg _ kz_arr)
  have hK : va_K (dC, dI) vwCl [(cA, .int)] s := ⟨hKc, fun k q h => by
    have hk : k = 0 := by
      have := (List.getElem?_eq_some_iff.mp h).1
      simp at this
      omega
    subst hk
    cases h
    exact ⟨fun n z => ⟨fun k h => (by cases h), kA, hcA2, comp, hcA3⟩, hcA1⟩⟩
  have hl := lv_entry ([.ref b]) (n := 4) (Nat.le_of_ble_eq_true rfl)
  rw [lg_entry_eq]
  generalize (lg_sl ([.ref b]) ++ List.replicate (4 - (lg_sl ([.ref b])).length) Slot.unset).toArray = lsA at hl ⊢
  have key := law_start (sc := (L, xs)) (l := l) oI o0 o1 o2 o3 o4 o5 o6 o7 o8 o9 o10 o11 o12 o13 o14 o15 o16 o17 o18 o19 o20 o21 o22 o23 o24 o25 o26 o27 o28 o29 o30 o31 o32 o33 hL p e s m #[Value.ref b] below meth c dC dI cA ad (fun q => s.heap.size ≤ q) s.heap [] lsA ad 0 ⟨⟨hx, hb0, hml, hr, hlocks, hname, hown, htg, hnw⟩, ⟨⟨fun k q h => by simp [am_w] at h, ⟨fun i j p q h => by simp [am_w] at h, fun k q h => by simp [am_w] at h⟩, ⟨by decide, fun k j r h => absurd h (Nat.not_lt_zero _)⟩⟩, hK, va_S.rf, fun q h => h, hSX, fun _ => ⟨by rw [hadb]; exact hX, by rw [hadb]; exact hbl, by rw [hadb]; exact Nat.not_le.mpr hbl⟩⟩, ?_, ?_, ?_⟩ (Nat.le_refl _) (fun _ _ => rfl)
  · refine W.mono2 key ?_
    rintro t ⟨o, g1, g2, ⟨⟨v, N', P', I', ad', hv, hq, -⟩, -⟩, Ls, ⟨f1, f2, f3⟩, hLs⟩
    have ho : o = .returned (some (.int 1)) := by
      rw [hv, show v = some (.int 1) from hq]
      rfl
    refine ⟨o, g1, g2, ho, f1, f2, ?_⟩
    obtain ⟨k1, k2, k3, k4, k5, k6⟩ := f3
    refine ⟨k1, k2, k3, k4, k5, fun a c hc => ?_⟩
    obtain ⟨c', q1, q2, q3, q4⟩ := k6 a c hc
    refine ⟨c', q1, q2, q3, fun i _ => q4 i (fun hm => ?_)⟩
    have h1 := hLs _ hm
    have h2 : a < s.heap.size := (Array.getElem?_eq_some_iff.mp hc).1
    exact absurd h1 (Nat.not_le.mpr h2)
  · intro v hv
    rcases List.mem_cons.mp hv with h | h
    · rw [h]; exact Or.inr (by decide)
    · rw [show v = .null by simpa using h]; exact trivial
  · intro v hv
    exact absurd hv List.not_mem_nil
  · refine ⟨⟨hl.1, hl.2.1, fun q hq => ?_⟩, rfl⟩
    obtain ⟨v, h1, h2, h3⟩ := am_ll_mem.mp hq
    have hq0 : q.1 = 0 := by
      by_cases h : q.1 = 0
      · exact h
      · have h9 : q.1 < 4 := (List.getElem?_eq_some_iff.mp h1).1
        rcases (show q.1 = 1 ∨ q.1 = 2 ∨ q.1 = 3 by omega) with h8 | h8 | h8 <;> rw [h8] at h1 <;> cases h1 <;> exact absurd rfl h2
    rw [hq0] at h1
    cases h1
    have := hl.2.2 (0, .ref b) (by simp [lv_args])
    rw [hq0, h3]
    rw [show cv ad (.ref 1000030) = .ref b from congrArg Value.ref hadb]
    exact this
