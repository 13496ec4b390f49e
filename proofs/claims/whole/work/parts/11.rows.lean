section GR
variable {sc : am_ST} {l : Launch} {d mc ms : Nat} {mi : am_M} {Q : Option Value → Nat → am_PT → am_IT → Prop} {pc : Nat} {ls st : List Value} {N : Nat} {P : am_PT} {I : am_IT} {nc ns : Nat}

theorem am_H.stk {sc : am_ST} {mi : am_M} {p : Program} {s : State} {m : MethodId} {args : Array Value} {meth : Method} {c : Code} {dC : Nat → ClassId} {dI : Nat → Nat → Nat} {ca : ClassId} {ad : Nat → Nat} {A : Nat → Prop} {H : Heap} {locs : List Loc} {lsA : Array Slot} {ls st st' : List Value} {N : Nat} {P : am_PT} {I : am_IT}
    (X : am_H sc mi p s m args meth c dC dI ca ad A H locs lsA ls st N P I) (hb : ∀ v ∈ st', am_bv N v) : am_H sc mi p s m args meth c dC dI ca ad A H locs lsA ls st' N P I := ⟨X.1, X.2.1, X.2.2.1, hb, X.2.2.2.2⟩
theorem am_H.loc {sc : am_ST} {mi : am_M} {p : Program} {s : State} {m : MethodId} {args : Array Value} {meth : Method} {c : Code} {dC : Nat → ClassId} {dI : Nat → Nat → Nat} {ca : ClassId} {ad : Nat → Nat} {A : Nat → Prop} {H : Heap} {locs : List Loc} {lsA lsA' : Array Slot} {ls ls' st st' : List Value} {N : Nat} {P : am_PT} {I : am_IT}
    (X : am_H sc mi p s m args meth c dC dI ca ad A H locs lsA ls st N P I) (hb : ∀ v ∈ st', am_bv N v) (hl : ∀ v ∈ ls', am_bv N v) (hL : am_L ad mi.2.2.1 ls' lsA') : am_H sc mi p s m args meth c dC dI ca ad A H locs lsA' ls' st' N P I := ⟨X.1, X.2.1, hl, hb, hL⟩
theorem g_iconst {n : Int} {v : Int32} (hdg : decode mi.2.1 pc = .ok (.iconst n, 1)) (hv : Int32.ofInt n = v)
    (kk : G sc l d mc ms mi Q (pc + 1) ls (.int v :: st) N P I nc ns) : G sc l d mc ms mi Q pc ls st N P I nc ns := by
  intro p e s m args below meth c dC dI ca ad A H locs lsA ad0 N0 X hN h0
  obtain ⟨⟨hx, hb, hml, hr, hlk, hnm, hown, hts, hnw⟩, ⟨⟨hP, hD, hPB⟩, hK, hS, hA, hSX, hSC⟩, ⟨hbl, hbs, hL⟩⟩ := id X
  exact lv_iconst hx hb hdg hv (kk p e s m args below meth c dC dI ca ad A H locs lsA ad0 N0 (X.stk (bdd_cons trivial hbs)) hN h0)
theorem g_bipush {n : Int} {v : Int32} (hdg : decode mi.2.1 pc = .ok (.bipush n, 2)) (hv : (Int8.ofInt n).toInt32 = v)
    (kk : G sc l d mc ms mi Q (pc + 2) ls (.int v :: st) N P I nc ns) : G sc l d mc ms mi Q pc ls st N P I nc ns := by
  intro p e s m args below meth c dC dI ca ad A H locs lsA ad0 N0 X hN h0
  obtain ⟨⟨hx, hb, hml, hr, hlk, hnm, hown, hts, hnw⟩, ⟨⟨hP, hD, hPB⟩, hK, hS, hA, hSX, hSC⟩, ⟨hbl, hbs, hL⟩⟩ := id X
  exact lv_bipush hx hb hdg hv (kk p e s m args below meth c dC dI ca ad A H locs lsA ad0 N0 (X.stk (bdd_cons trivial hbs)) hN h0)
theorem g_sipush {n : Int} {v : Int32} (hdg : decode mi.2.1 pc = .ok (.sipush n, 3)) (hv : (Int16.ofInt n).toInt32 = v)
    (kk : G sc l d mc ms mi Q (pc + 3) ls (.int v :: st) N P I nc ns) : G sc l d mc ms mi Q pc ls st N P I nc ns := by
  intro p e s m args below meth c dC dI ca ad A H locs lsA ad0 N0 X hN h0
  obtain ⟨⟨hx, hb, hml, hr, hlk, hnm, hown, hts, hnw⟩, ⟨⟨hP, hD, hPB⟩, hK, hS, hA, hSX, hSC⟩, ⟨hbl, hbs, hL⟩⟩ := id X
  exact lv_sipush hx hb hdg hv (kk p e s m args below meth c dC dI ca ad A H locs lsA ad0 N0 (X.stk (bdd_cons trivial hbs)) hN h0)
theorem g_ldc {n : Nat} {v : Int32} (hdg : decode mi.2.1 pc = .ok (.ldc n, 2)) (hk : Cond.constant mi.1.cls n v ∈ lwg)
    (kk : G sc l d mc ms mi Q (pc + 2) ls (.int v :: st) N P I nc ns) : G sc l d mc ms mi Q pc ls st N P I nc ns := by
  intro p e s m args below meth c dC dI ca ad A H locs lsA ad0 N0 X hN h0
  obtain ⟨⟨hx, hb, hml, hr, hlk, hnm, hown, hts, hnw⟩, ⟨⟨hP, hD, hPB⟩, hK, hS, hA, hSX, hSC⟩, ⟨hbl, hbs, hL⟩⟩ := id X
  exact lv_ldc hx hb hown (hts _ hk) hdg (kk p e s m args below meth c dC dI ca ad A H locs lsA ad0 N0 (X.stk (bdd_cons trivial hbs)) hN h0)
theorem g_ldcw {n : Nat} {v : Int32} (hdg : decode mi.2.1 pc = .ok (.ldc_w n, 3)) (hk : Cond.constant mi.1.cls n v ∈ lwg)
    (kk : G sc l d mc ms mi Q (pc + 3) ls (.int v :: st) N P I nc ns) : G sc l d mc ms mi Q pc ls st N P I nc ns := by
  intro p e s m args below meth c dC dI ca ad A H locs lsA ad0 N0 X hN h0
  obtain ⟨⟨hx, hb, hml, hr, hlk, hnm, hown, hts, hnw⟩, ⟨⟨hP, hD, hPB⟩, hK, hS, hA, hSX, hSC⟩, ⟨hbl, hbs, hL⟩⟩ := id X
  exact lv_ldcw hx hb hown (hts _ hk) hdg (kk p e s m args below meth c dC dI ca ad A H locs lsA ad0 N0 (X.stk (bdd_cons trivial hbs)) hN h0)
theorem g_null  (hdg : decode mi.2.1 pc = .ok (.aconst_null, 1))
    (kk : G sc l d mc ms mi Q (pc + 1) ls (.null :: st) N P I nc ns) : G sc l d mc ms mi Q pc ls st N P I nc ns := by
  intro p e s m args below meth c dC dI ca ad A H locs lsA ad0 N0 X hN h0
  obtain ⟨⟨hx, hb, hml, hr, hlk, hnm, hown, hts, hnw⟩, ⟨⟨hP, hD, hPB⟩, hK, hS, hA, hSX, hSC⟩, ⟨hbl, hbs, hL⟩⟩ := id X
  exact lv_null hx hb hdg (kk p e s m args below meth c dC dI ca ad A H locs lsA ad0 N0 (X.stk (bdd_cons trivial hbs)) hN h0)
theorem g_iload_n {k : Fin 4} {i : Nat} {x : Int32} (hdg : decode mi.2.1 pc = .ok (.iload_n k, 1)) (hi : (k : Nat) = i) (hl : ls[i]? = some (.int x))
    (kk : G sc l d mc ms mi Q (pc + 1) ls (.int x :: st) N P I nc ns) : G sc l d mc ms mi Q pc ls st N P I nc ns := by
  intro p e s m args below meth c dC dI ca ad A H locs lsA ad0 N0 X hN h0
  obtain ⟨⟨hx, hb, hml, hr, hlk, hnm, hown, hts, hnw⟩, ⟨⟨hP, hD, hPB⟩, hK, hS, hA, hSX, hSC⟩, ⟨hbl, hbs, hL⟩⟩ := id X
  exact lv_iload_n hx hb hdg hi (hL.get hl (fun z => Value.noConfusion z)) (kk p e s m args below meth c dC dI ca ad A H locs lsA ad0 N0 (X.stk (bdd_cons trivial hbs)) hN h0)
theorem g_iload {i : Nat} {x : Int32} (hdg : decode mi.2.1 pc = .ok (.iload i, 2)) (hl : ls[i]? = some (.int x))
    (kk : G sc l d mc ms mi Q (pc + 2) ls (.int x :: st) N P I nc ns) : G sc l d mc ms mi Q pc ls st N P I nc ns := by
  intro p e s m args below meth c dC dI ca ad A H locs lsA ad0 N0 X hN h0
  obtain ⟨⟨hx, hb, hml, hr, hlk, hnm, hown, hts, hnw⟩, ⟨⟨hP, hD, hPB⟩, hK, hS, hA, hSX, hSC⟩, ⟨hbl, hbs, hL⟩⟩ := id X
  exact lv_iload hx hb hdg (hL.get hl (fun z => Value.noConfusion z)) (kk p e s m args below meth c dC dI ca ad A H locs lsA ad0 N0 (X.stk (bdd_cons trivial hbs)) hN h0)
theorem g_aload_n {k : Fin 4} {i : Nat} {x : Nat} (hdg : decode mi.2.1 pc = .ok (.aload_n k, 1)) (hi : (k : Nat) = i) (hl : ls[i]? = some (.ref x))
    (kk : G sc l d mc ms mi Q (pc + 1) ls (.ref x :: st) N P I nc ns) : G sc l d mc ms mi Q pc ls st N P I nc ns := by
  intro p e s m args below meth c dC dI ca ad A H locs lsA ad0 N0 X hN h0
  obtain ⟨⟨hx, hb, hml, hr, hlk, hnm, hown, hts, hnw⟩, ⟨⟨hP, hD, hPB⟩, hK, hS, hA, hSX, hSC⟩, ⟨hbl, hbs, hL⟩⟩ := id X
  exact lv_aload_n hx hb hdg hi (hL.get hl (fun z => Value.noConfusion z)) (kk p e s m args below meth c dC dI ca ad A H locs lsA ad0 N0 (X.stk (bdd_cons (hbl _ (List.mem_of_getElem? hl)) hbs)) hN h0)
theorem g_aload {i : Nat} {x : Nat} (hdg : decode mi.2.1 pc = .ok (.aload i, 2)) (hl : ls[i]? = some (.ref x))
    (kk : G sc l d mc ms mi Q (pc + 2) ls (.ref x :: st) N P I nc ns) : G sc l d mc ms mi Q pc ls st N P I nc ns := by
  intro p e s m args below meth c dC dI ca ad A H locs lsA ad0 N0 X hN h0
  obtain ⟨⟨hx, hb, hml, hr, hlk, hnm, hown, hts, hnw⟩, ⟨⟨hP, hD, hPB⟩, hK, hS, hA, hSX, hSC⟩, ⟨hbl, hbs, hL⟩⟩ := id X
  exact lv_aload hx hb hdg (hL.get hl (fun z => Value.noConfusion z)) (kk p e s m args below meth c dC dI ca ad A H locs lsA ad0 N0 (X.stk (bdd_cons (hbl _ (List.mem_of_getElem? hl)) hbs)) hN h0)
theorem g_iadd {x y : Int32} (hdg : decode mi.2.1 pc = .ok (.iadd, 1))
    (kk : G sc l d mc ms mi Q (pc + 1) ls (.int (x + y) :: st) N P I nc ns) : G sc l d mc ms mi Q pc ls (.int y :: .int x :: st) N P I nc ns := by
  intro p e s m args below meth c dC dI ca ad A H locs lsA ad0 N0 X hN h0
  obtain ⟨⟨hx, hb, hml, hr, hlk, hnm, hown, hts, hnw⟩, ⟨⟨hP, hD, hPB⟩, hK, hS, hA, hSX, hSC⟩, ⟨hbl, hbs, hL⟩⟩ := id X
  exact lv_iadd hx hb hdg (kk p e s m args below meth c dC dI ca ad A H locs lsA ad0 N0 (X.stk (bdd_cons trivial (bdd_tl (bdd_tl hbs)))) hN h0)
theorem g_isub {x y : Int32} (hdg : decode mi.2.1 pc = .ok (.isub, 1))
    (kk : G sc l d mc ms mi Q (pc + 1) ls (.int (x - y) :: st) N P I nc ns) : G sc l d mc ms mi Q pc ls (.int y :: .int x :: st) N P I nc ns := by
  intro p e s m args below meth c dC dI ca ad A H locs lsA ad0 N0 X hN h0
  obtain ⟨⟨hx, hb, hml, hr, hlk, hnm, hown, hts, hnw⟩, ⟨⟨hP, hD, hPB⟩, hK, hS, hA, hSX, hSC⟩, ⟨hbl, hbs, hL⟩⟩ := id X
  exact lv_isub hx hb hdg (kk p e s m args below meth c dC dI ca ad A H locs lsA ad0 N0 (X.stk (bdd_cons trivial (bdd_tl (bdd_tl hbs)))) hN h0)
theorem g_imul {x y : Int32} (hdg : decode mi.2.1 pc = .ok (.imul, 1))
    (kk : G sc l d mc ms mi Q (pc + 1) ls (.int (x * y) :: st) N P I nc ns) : G sc l d mc ms mi Q pc ls (.int y :: .int x :: st) N P I nc ns := by
  intro p e s m args below meth c dC dI ca ad A H locs lsA ad0 N0 X hN h0
  obtain ⟨⟨hx, hb, hml, hr, hlk, hnm, hown, hts, hnw⟩, ⟨⟨hP, hD, hPB⟩, hK, hS, hA, hSX, hSC⟩, ⟨hbl, hbs, hL⟩⟩ := id X
  exact lv_imul hx hb hdg (kk p e s m args below meth c dC dI ca ad A H locs lsA ad0 N0 (X.stk (bdd_cons trivial (bdd_tl (bdd_tl hbs)))) hN h0)
theorem g_iand {x y : Int32} (hdg : decode mi.2.1 pc = .ok (.iand, 1))
    (kk : G sc l d mc ms mi Q (pc + 1) ls (.int (x &&& y) :: st) N P I nc ns) : G sc l d mc ms mi Q pc ls (.int y :: .int x :: st) N P I nc ns := by
  intro p e s m args below meth c dC dI ca ad A H locs lsA ad0 N0 X hN h0
  obtain ⟨⟨hx, hb, hml, hr, hlk, hnm, hown, hts, hnw⟩, ⟨⟨hP, hD, hPB⟩, hK, hS, hA, hSX, hSC⟩, ⟨hbl, hbs, hL⟩⟩ := id X
  exact lv_iand hx hb hdg (kk p e s m args below meth c dC dI ca ad A H locs lsA ad0 N0 (X.stk (bdd_cons trivial (bdd_tl (bdd_tl hbs)))) hN h0)
theorem g_ior {x y : Int32} (hdg : decode mi.2.1 pc = .ok (.ior, 1))
    (kk : G sc l d mc ms mi Q (pc + 1) ls (.int (x ||| y) :: st) N P I nc ns) : G sc l d mc ms mi Q pc ls (.int y :: .int x :: st) N P I nc ns := by
  intro p e s m args below meth c dC dI ca ad A H locs lsA ad0 N0 X hN h0
  obtain ⟨⟨hx, hb, hml, hr, hlk, hnm, hown, hts, hnw⟩, ⟨⟨hP, hD, hPB⟩, hK, hS, hA, hSX, hSC⟩, ⟨hbl, hbs, hL⟩⟩ := id X
  exact lv_ior hx hb hdg (kk p e s m args below meth c dC dI ca ad A H locs lsA ad0 N0 (X.stk (bdd_cons trivial (bdd_tl (bdd_tl hbs)))) hN h0)
theorem g_ixor {x y : Int32} (hdg : decode mi.2.1 pc = .ok (.ixor, 1))
    (kk : G sc l d mc ms mi Q (pc + 1) ls (.int (x ^^^ y) :: st) N P I nc ns) : G sc l d mc ms mi Q pc ls (.int y :: .int x :: st) N P I nc ns := by
  intro p e s m args below meth c dC dI ca ad A H locs lsA ad0 N0 X hN h0
  obtain ⟨⟨hx, hb, hml, hr, hlk, hnm, hown, hts, hnw⟩, ⟨⟨hP, hD, hPB⟩, hK, hS, hA, hSX, hSC⟩, ⟨hbl, hbs, hL⟩⟩ := id X
  exact lv_ixor hx hb hdg (kk p e s m args below meth c dC dI ca ad A H locs lsA ad0 N0 (X.stk (bdd_cons trivial (bdd_tl (bdd_tl hbs)))) hN h0)
theorem g_ishl {x y : Int32} (hdg : decode mi.2.1 pc = .ok (.ishl, 1))
    (kk : G sc l d mc ms mi Q (pc + 1) ls (.int (x <<< (y &&& 31)) :: st) N P I nc ns) : G sc l d mc ms mi Q pc ls (.int y :: .int x :: st) N P I nc ns := by
  intro p e s m args below meth c dC dI ca ad A H locs lsA ad0 N0 X hN h0
  obtain ⟨⟨hx, hb, hml, hr, hlk, hnm, hown, hts, hnw⟩, ⟨⟨hP, hD, hPB⟩, hK, hS, hA, hSX, hSC⟩, ⟨hbl, hbs, hL⟩⟩ := id X
  exact lv_ishl hx hb hdg (kk p e s m args below meth c dC dI ca ad A H locs lsA ad0 N0 (X.stk (bdd_cons trivial (bdd_tl (bdd_tl hbs)))) hN h0)
theorem g_ishr {x y : Int32} (hdg : decode mi.2.1 pc = .ok (.ishr, 1))
    (kk : G sc l d mc ms mi Q (pc + 1) ls (.int (x >>> (y &&& 31)) :: st) N P I nc ns) : G sc l d mc ms mi Q pc ls (.int y :: .int x :: st) N P I nc ns := by
  intro p e s m args below meth c dC dI ca ad A H locs lsA ad0 N0 X hN h0
  obtain ⟨⟨hx, hb, hml, hr, hlk, hnm, hown, hts, hnw⟩, ⟨⟨hP, hD, hPB⟩, hK, hS, hA, hSX, hSC⟩, ⟨hbl, hbs, hL⟩⟩ := id X
  exact lv_ishr hx hb hdg (kk p e s m args below meth c dC dI ca ad A H locs lsA ad0 N0 (X.stk (bdd_cons trivial (bdd_tl (bdd_tl hbs)))) hN h0)
theorem g_iushr {x y : Int32} (hdg : decode mi.2.1 pc = .ok (.iushr, 1))
    (kk : G sc l d mc ms mi Q (pc + 1) ls (.int (x.toUInt32 >>> (y.toUInt32 &&& Int32.toUInt32 31)).toInt32 :: st) N P I nc ns) : G sc l d mc ms mi Q pc ls (.int y :: .int x :: st) N P I nc ns := by
  intro p e s m args below meth c dC dI ca ad A H locs lsA ad0 N0 X hN h0
  obtain ⟨⟨hx, hb, hml, hr, hlk, hnm, hown, hts, hnw⟩, ⟨⟨hP, hD, hPB⟩, hK, hS, hA, hSX, hSC⟩, ⟨hbl, hbs, hL⟩⟩ := id X
  exact lv_iushr hx hb hdg rfl (kk p e s m args below meth c dC dI ca ad A H locs lsA ad0 N0 (X.stk (bdd_cons trivial (bdd_tl (bdd_tl hbs)))) hN h0)
theorem g_idiv {x y : Int32} (hdg : decode mi.2.1 pc = .ok (.idiv, 1)) (hne : ¬ y = 0)
    (kk : G sc l d mc ms mi Q (pc + 1) ls (.int (x / y) :: st) N P I nc ns) : G sc l d mc ms mi Q pc ls (.int y :: .int x :: st) N P I nc ns := by
  intro p e s m args below meth c dC dI ca ad A H locs lsA ad0 N0 X hN h0
  obtain ⟨⟨hx, hb, hml, hr, hlk, hnm, hown, hts, hnw⟩, ⟨⟨hP, hD, hPB⟩, hK, hS, hA, hSX, hSC⟩, ⟨hbl, hbs, hL⟩⟩ := id X
  exact lv_idiv hx hb hdg hne (kk p e s m args below meth c dC dI ca ad A H locs lsA ad0 N0 (X.stk (bdd_cons trivial (bdd_tl (bdd_tl hbs)))) hN h0)
theorem g_irem {x y : Int32} (hdg : decode mi.2.1 pc = .ok (.irem, 1)) (hne : ¬ y = 0)
    (kk : G sc l d mc ms mi Q (pc + 1) ls (.int (x - x / y * y) :: st) N P I nc ns) : G sc l d mc ms mi Q pc ls (.int y :: .int x :: st) N P I nc ns := by
  intro p e s m args below meth c dC dI ca ad A H locs lsA ad0 N0 X hN h0
  obtain ⟨⟨hx, hb, hml, hr, hlk, hnm, hown, hts, hnw⟩, ⟨⟨hP, hD, hPB⟩, hK, hS, hA, hSX, hSC⟩, ⟨hbl, hbs, hL⟩⟩ := id X
  exact lv_irem hx hb hdg hne (kk p e s m args below meth c dC dI ca ad A H locs lsA ad0 N0 (X.stk (bdd_cons trivial (bdd_tl (bdd_tl hbs)))) hN h0)
theorem g_ineg {x : Int32} (hdg : decode mi.2.1 pc = .ok (.ineg, 1))
    (kk : G sc l d mc ms mi Q (pc + 1) ls (.int (-x) :: st) N P I nc ns) : G sc l d mc ms mi Q pc ls (.int x :: st) N P I nc ns := by
  intro p e s m args below meth c dC dI ca ad A H locs lsA ad0 N0 X hN h0
  obtain ⟨⟨hx, hb, hml, hr, hlk, hnm, hown, hts, hnw⟩, ⟨⟨hP, hD, hPB⟩, hK, hS, hA, hSX, hSC⟩, ⟨hbl, hbs, hL⟩⟩ := id X
  exact lv_ineg hx hb hdg (kk p e s m args below meth c dC dI ca ad A H locs lsA ad0 N0 (X.stk (bdd_cons trivial (bdd_tl hbs))) hN h0)
theorem g_i2c {x : Int32} (hdg : decode mi.2.1 pc = .ok (.i2c, 1))
    (kk : G sc l d mc ms mi Q (pc + 1) ls (.int (x.toUInt32 % 65536).toInt32 :: st) N P I nc ns) : G sc l d mc ms mi Q pc ls (.int x :: st) N P I nc ns := by
  intro p e s m args below meth c dC dI ca ad A H locs lsA ad0 N0 X hN h0
  obtain ⟨⟨hx, hb, hml, hr, hlk, hnm, hown, hts, hnw⟩, ⟨⟨hP, hD, hPB⟩, hK, hS, hA, hSX, hSC⟩, ⟨hbl, hbs, hL⟩⟩ := id X
  exact lv_i2c hx hb hdg rfl (kk p e s m args below meth c dC dI ca ad A H locs lsA ad0 N0 (X.stk (bdd_cons trivial (bdd_tl hbs))) hN h0)
theorem g_dup {v : Value} (hdg : decode mi.2.1 pc = .ok (.dup, 1))
    (kk : G sc l d mc ms mi Q (pc + 1) ls (v :: v :: st) N P I nc ns) : G sc l d mc ms mi Q pc ls (v :: st) N P I nc ns := by
  intro p e s m args below meth c dC dI ca ad A H locs lsA ad0 N0 X hN h0
  obtain ⟨⟨hx, hb, hml, hr, hlk, hnm, hown, hts, hnw⟩, ⟨⟨hP, hD, hPB⟩, hK, hS, hA, hSX, hSC⟩, ⟨hbl, hbs, hL⟩⟩ := id X
  exact lv_dup hx hb hdg (cv_cat.trans (bdd_hd hbs).cat) (kk p e s m args below meth c dC dI ca ad A H locs lsA ad0 N0 (X.stk (bdd_cons (bdd_hd hbs) hbs)) hN h0)
theorem g_pop {v : Value} (hdg : decode mi.2.1 pc = .ok (.pop, 1))
    (kk : G sc l d mc ms mi Q (pc + 1) ls st N P I nc ns) : G sc l d mc ms mi Q pc ls (v :: st) N P I nc ns := by
  intro p e s m args below meth c dC dI ca ad A H locs lsA ad0 N0 X hN h0
  obtain ⟨⟨hx, hb, hml, hr, hlk, hnm, hown, hts, hnw⟩, ⟨⟨hP, hD, hPB⟩, hK, hS, hA, hSX, hSC⟩, ⟨hbl, hbs, hL⟩⟩ := id X
  exact lv_pop hx hb hdg (cv_cat.trans (bdd_hd hbs).cat) (kk p e s m args below meth c dC dI ca ad A H locs lsA ad0 N0 (X.stk (bdd_tl hbs)) hN h0)
theorem g_dup2 {v w : Value} (hdg : decode mi.2.1 pc = .ok (.dup2, 1))
    (kk : G sc l d mc ms mi Q (pc + 1) ls (v :: w :: v :: w :: st) N P I nc ns) : G sc l d mc ms mi Q pc ls (v :: w :: st) N P I nc ns := by
  intro p e s m args below meth c dC dI ca ad A H locs lsA ad0 N0 X hN h0
  obtain ⟨⟨hx, hb, hml, hr, hlk, hnm, hown, hts, hnw⟩, ⟨⟨hP, hD, hPB⟩, hK, hS, hA, hSX, hSC⟩, ⟨hbl, hbs, hL⟩⟩ := id X
  exact lv_dup2_11 hx hb hdg (cv_cat.trans (bdd_hd hbs).cat) (cv_cat.trans (bdd_hd (bdd_tl hbs)).cat) (kk p e s m args below meth c dC dI ca ad A H locs lsA ad0 N0 (X.stk (bdd_cons (bdd_hd hbs) (bdd_cons (bdd_hd (bdd_tl hbs)) hbs))) hN h0)
theorem g_istore_n {k : Fin 4} {i : Nat} {x : Int32} (hdg : decode mi.2.1 pc = .ok (.istore_n k, 1)) (hi : (k : Nat) = i) (hn : i < mi.2.2.1)
    (kk : G sc l d mc ms mi Q (pc + 1) (ls.set i (.int x)) st N P I nc ns) : G sc l d mc ms mi Q pc ls (.int x :: st) N P I nc ns := by
  intro p e s m args below meth c dC dI ca ad A H locs lsA ad0 N0 X hN h0
  obtain ⟨⟨hx, hb, hml, hr, hlk, hnm, hown, hts, hnw⟩, ⟨⟨hP, hD, hPB⟩, hK, hS, hA, hSX, hSC⟩, ⟨hbl, hbs, hL⟩⟩ := id X
  refine lv_istore_n hx hb hdg hi hL.1 hn rfl (fun ls2 h2 => ?_)
  exact kk p e s m args below meth c dC dI ca ad A H locs ls2 ad0 N0 (X.loc (bdd_tl hbs) (bdd_set hbl (bdd_hd hbs)) (hL.set hbl (bdd_hd hbs) h2)) hN h0
theorem g_istore {i : Nat} {x : Int32} (hdg : decode mi.2.1 pc = .ok (.istore i, 2)) (hn : i < mi.2.2.1)
    (kk : G sc l d mc ms mi Q (pc + 2) (ls.set i (.int x)) st N P I nc ns) : G sc l d mc ms mi Q pc ls (.int x :: st) N P I nc ns := by
  intro p e s m args below meth c dC dI ca ad A H locs lsA ad0 N0 X hN h0
  obtain ⟨⟨hx, hb, hml, hr, hlk, hnm, hown, hts, hnw⟩, ⟨⟨hP, hD, hPB⟩, hK, hS, hA, hSX, hSC⟩, ⟨hbl, hbs, hL⟩⟩ := id X
  refine lv_istore hx hb hdg hL.1 hn rfl (fun ls2 h2 => ?_)
  exact kk p e s m args below meth c dC dI ca ad A H locs ls2 ad0 N0 (X.loc (bdd_tl hbs) (bdd_set hbl (bdd_hd hbs)) (hL.set hbl (bdd_hd hbs) h2)) hN h0
theorem g_astore_n {k : Fin 4} {i : Nat} {x : Nat} (hdg : decode mi.2.1 pc = .ok (.astore_n k, 1)) (hi : (k : Nat) = i) (hn : i < mi.2.2.1)
    (kk : G sc l d mc ms mi Q (pc + 1) (ls.set i (.ref x)) st N P I nc ns) : G sc l d mc ms mi Q pc ls (.ref x :: st) N P I nc ns := by
  intro p e s m args below meth c dC dI ca ad A H locs lsA ad0 N0 X hN h0
  obtain ⟨⟨hx, hb, hml, hr, hlk, hnm, hown, hts, hnw⟩, ⟨⟨hP, hD, hPB⟩, hK, hS, hA, hSX, hSC⟩, ⟨hbl, hbs, hL⟩⟩ := id X
  refine lv_astore_n hx hb hdg hi hL.1 hn rfl (fun ls2 h2 => ?_)
  exact kk p e s m args below meth c dC dI ca ad A H locs ls2 ad0 N0 (X.loc (bdd_tl hbs) (bdd_set hbl (bdd_hd hbs)) (hL.set hbl (bdd_hd hbs) h2)) hN h0
theorem g_astore {i : Nat} {x : Nat} (hdg : decode mi.2.1 pc = .ok (.astore i, 2)) (hn : i < mi.2.2.1)
    (kk : G sc l d mc ms mi Q (pc + 2) (ls.set i (.ref x)) st N P I nc ns) : G sc l d mc ms mi Q pc ls (.ref x :: st) N P I nc ns := by
  intro p e s m args below meth c dC dI ca ad A H locs lsA ad0 N0 X hN h0
  obtain ⟨⟨hx, hb, hml, hr, hlk, hnm, hown, hts, hnw⟩, ⟨⟨hP, hD, hPB⟩, hK, hS, hA, hSX, hSC⟩, ⟨hbl, hbs, hL⟩⟩ := id X
  refine lv_astore hx hb hdg hL.1 hn rfl (fun ls2 h2 => ?_)
  exact kk p e s m args below meth c dC dI ca ad A H locs ls2 ad0 N0 (X.loc (bdd_tl hbs) (bdd_set hbl (bdd_hd hbs)) (hL.set hbl (bdd_hd hbs) h2)) hN h0
theorem g_iinc {i : Nat} {n : Int} {x v : Int32} (hdg : decode mi.2.1 pc = .ok (.iinc i n, 3)) (hl : ls[i]? = some (.int x)) (hv : x + Int32.ofInt n = v) (hn : i < mi.2.2.1)
    (kk : G sc l d mc ms mi Q (pc + 3) (ls.set i (.int v)) st N P I nc ns) : G sc l d mc ms mi Q pc ls st N P I nc ns := by
  intro p e s m args below meth c dC dI ca ad A H locs lsA ad0 N0 X hN h0
  obtain ⟨⟨hx, hb, hml, hr, hlk, hnm, hown, hts, hnw⟩, ⟨⟨hP, hD, hPB⟩, hK, hS, hA, hSX, hSC⟩, ⟨hbl, hbs, hL⟩⟩ := id X
  obtain ⟨k, hk⟩ := List.getElem?_of_mem (am_ll_mem.mpr ⟨_, hl, fun z => Value.noConfusion z, rfl⟩ : (i, cv ad (.int x)) ∈ am_ll ad ls)
  refine lv_iinc hx hb hdg hL.1 hk hv hn rfl (fun ls2 h2 => ?_)
  exact kk p e s m args below meth c dC dI ca ad A H locs ls2 ad0 N0 (X.loc hbs (bdd_set hbl trivial) (hL.set hbl (v := .int v) trivial h2)) hN h0
theorem g_if_eq {x : Int32} {off : Int} {tgt : Nat} (hdg : decode mi.2.1 pc = .ok (.ifCond .eq off, 3)) (ht : (pc : Int) + off = (tgt : Int))
    (kt : x = 0 → G sc l d mc ms mi Q tgt ls st N P I nc ns) (kf : ¬ x = 0 → G sc l d mc ms mi Q (pc + 3) ls st N P I nc ns) : G sc l d mc ms mi Q pc ls (.int x :: st) N P I nc ns := by
  intro p e s m args below meth c dC dI ca ad A H locs lsA ad0 N0 X hN h0
  obtain ⟨⟨hx, hb, hml, hr, hlk, hnm, hown, hts, hnw⟩, ⟨⟨hP, hD, hPB⟩, hK, hS, hA, hSX, hSC⟩, ⟨hbl, hbs, hL⟩⟩ := id X
  exact lv_if_eq hx hb hdg ht (fun z => kt z p e s m args below meth c dC dI ca ad A H locs lsA ad0 N0 (X.stk (bdd_tl hbs)) hN h0) (fun z => kf z p e s m args below meth c dC dI ca ad A H locs lsA ad0 N0 (X.stk (bdd_tl hbs)) hN h0)
theorem g_icmp_eq {x y : Int32} {off : Int} {tgt : Nat} (hdg : decode mi.2.1 pc = .ok (.if_icmp .eq off, 3)) (ht : (pc : Int) + off = (tgt : Int))
    (kt : x = y → G sc l d mc ms mi Q tgt ls st N P I nc ns) (kf : ¬ x = y → G sc l d mc ms mi Q (pc + 3) ls st N P I nc ns) : G sc l d mc ms mi Q pc ls (.int y :: .int x :: st) N P I nc ns := by
  intro p e s m args below meth c dC dI ca ad A H locs lsA ad0 N0 X hN h0
  obtain ⟨⟨hx, hb, hml, hr, hlk, hnm, hown, hts, hnw⟩, ⟨⟨hP, hD, hPB⟩, hK, hS, hA, hSX, hSC⟩, ⟨hbl, hbs, hL⟩⟩ := id X
  exact lv_icmp_eq hx hb hdg ht (fun z => kt z p e s m args below meth c dC dI ca ad A H locs lsA ad0 N0 (X.stk (bdd_tl (bdd_tl hbs))) hN h0) (fun z => kf z p e s m args below meth c dC dI ca ad A H locs lsA ad0 N0 (X.stk (bdd_tl (bdd_tl hbs))) hN h0)
theorem g_if_ne {x : Int32} {off : Int} {tgt : Nat} (hdg : decode mi.2.1 pc = .ok (.ifCond .ne off, 3)) (ht : (pc : Int) + off = (tgt : Int))
    (kt : ¬ x = 0 → G sc l d mc ms mi Q tgt ls st N P I nc ns) (kf : x = 0 → G sc l d mc ms mi Q (pc + 3) ls st N P I nc ns) : G sc l d mc ms mi Q pc ls (.int x :: st) N P I nc ns := by
  intro p e s m args below meth c dC dI ca ad A H locs lsA ad0 N0 X hN h0
  obtain ⟨⟨hx, hb, hml, hr, hlk, hnm, hown, hts, hnw⟩, ⟨⟨hP, hD, hPB⟩, hK, hS, hA, hSX, hSC⟩, ⟨hbl, hbs, hL⟩⟩ := id X
  exact lv_if_ne hx hb hdg ht (fun z => kt z p e s m args below meth c dC dI ca ad A H locs lsA ad0 N0 (X.stk (bdd_tl hbs)) hN h0) (fun z => kf z p e s m args below meth c dC dI ca ad A H locs lsA ad0 N0 (X.stk (bdd_tl hbs)) hN h0)
theorem g_icmp_ne {x y : Int32} {off : Int} {tgt : Nat} (hdg : decode mi.2.1 pc = .ok (.if_icmp .ne off, 3)) (ht : (pc : Int) + off = (tgt : Int))
    (kt : ¬ x = y → G sc l d mc ms mi Q tgt ls st N P I nc ns) (kf : x = y → G sc l d mc ms mi Q (pc + 3) ls st N P I nc ns) : G sc l d mc ms mi Q pc ls (.int y :: .int x :: st) N P I nc ns := by
  intro p e s m args below meth c dC dI ca ad A H locs lsA ad0 N0 X hN h0
  obtain ⟨⟨hx, hb, hml, hr, hlk, hnm, hown, hts, hnw⟩, ⟨⟨hP, hD, hPB⟩, hK, hS, hA, hSX, hSC⟩, ⟨hbl, hbs, hL⟩⟩ := id X
  exact lv_icmp_ne hx hb hdg ht (fun z => kt z p e s m args below meth c dC dI ca ad A H locs lsA ad0 N0 (X.stk (bdd_tl (bdd_tl hbs))) hN h0) (fun z => kf z p e s m args below meth c dC dI ca ad A H locs lsA ad0 N0 (X.stk (bdd_tl (bdd_tl hbs))) hN h0)
theorem g_if_lt {x : Int32} {off : Int} {tgt : Nat} (hdg : decode mi.2.1 pc = .ok (.ifCond .lt off, 3)) (ht : (pc : Int) + off = (tgt : Int))
    (kt : x < 0 → G sc l d mc ms mi Q tgt ls st N P I nc ns) (kf : ¬ x < 0 → G sc l d mc ms mi Q (pc + 3) ls st N P I nc ns) : G sc l d mc ms mi Q pc ls (.int x :: st) N P I nc ns := by
  intro p e s m args below meth c dC dI ca ad A H locs lsA ad0 N0 X hN h0
  obtain ⟨⟨hx, hb, hml, hr, hlk, hnm, hown, hts, hnw⟩, ⟨⟨hP, hD, hPB⟩, hK, hS, hA, hSX, hSC⟩, ⟨hbl, hbs, hL⟩⟩ := id X
  exact lv_if_lt hx hb hdg ht (fun z => kt z p e s m args below meth c dC dI ca ad A H locs lsA ad0 N0 (X.stk (bdd_tl hbs)) hN h0) (fun z => kf z p e s m args below meth c dC dI ca ad A H locs lsA ad0 N0 (X.stk (bdd_tl hbs)) hN h0)
theorem g_icmp_lt {x y : Int32} {off : Int} {tgt : Nat} (hdg : decode mi.2.1 pc = .ok (.if_icmp .lt off, 3)) (ht : (pc : Int) + off = (tgt : Int))
    (kt : x < y → G sc l d mc ms mi Q tgt ls st N P I nc ns) (kf : ¬ x < y → G sc l d mc ms mi Q (pc + 3) ls st N P I nc ns) : G sc l d mc ms mi Q pc ls (.int y :: .int x :: st) N P I nc ns := by
  intro p e s m args below meth c dC dI ca ad A H locs lsA ad0 N0 X hN h0
  obtain ⟨⟨hx, hb, hml, hr, hlk, hnm, hown, hts, hnw⟩, ⟨⟨hP, hD, hPB⟩, hK, hS, hA, hSX, hSC⟩, ⟨hbl, hbs, hL⟩⟩ := id X
  exact lv_icmp_lt hx hb hdg ht (fun z => kt z p e s m args below meth c dC dI ca ad A H locs lsA ad0 N0 (X.stk (bdd_tl (bdd_tl hbs))) hN h0) (fun z => kf z p e s m args below meth c dC dI ca ad A H locs lsA ad0 N0 (X.stk (bdd_tl (bdd_tl hbs))) hN h0)
theorem g_if_ge {x : Int32} {off : Int} {tgt : Nat} (hdg : decode mi.2.1 pc = .ok (.ifCond .ge off, 3)) (ht : (pc : Int) + off = (tgt : Int))
    (kt : 0 ≤ x → G sc l d mc ms mi Q tgt ls st N P I nc ns) (kf : ¬ 0 ≤ x → G sc l d mc ms mi Q (pc + 3) ls st N P I nc ns) : G sc l d mc ms mi Q pc ls (.int x :: st) N P I nc ns := by
  intro p e s m args below meth c dC dI ca ad A H locs lsA ad0 N0 X hN h0
  obtain ⟨⟨hx, hb, hml, hr, hlk, hnm, hown, hts, hnw⟩, ⟨⟨hP, hD, hPB⟩, hK, hS, hA, hSX, hSC⟩, ⟨hbl, hbs, hL⟩⟩ := id X
  exact lv_if_ge hx hb hdg ht (fun z => kt z p e s m args below meth c dC dI ca ad A H locs lsA ad0 N0 (X.stk (bdd_tl hbs)) hN h0) (fun z => kf z p e s m args below meth c dC dI ca ad A H locs lsA ad0 N0 (X.stk (bdd_tl hbs)) hN h0)
theorem g_icmp_ge {x y : Int32} {off : Int} {tgt : Nat} (hdg : decode mi.2.1 pc = .ok (.if_icmp .ge off, 3)) (ht : (pc : Int) + off = (tgt : Int))
    (kt : y ≤ x → G sc l d mc ms mi Q tgt ls st N P I nc ns) (kf : ¬ y ≤ x → G sc l d mc ms mi Q (pc + 3) ls st N P I nc ns) : G sc l d mc ms mi Q pc ls (.int y :: .int x :: st) N P I nc ns := by
  intro p e s m args below meth c dC dI ca ad A H locs lsA ad0 N0 X hN h0
  obtain ⟨⟨hx, hb, hml, hr, hlk, hnm, hown, hts, hnw⟩, ⟨⟨hP, hD, hPB⟩, hK, hS, hA, hSX, hSC⟩, ⟨hbl, hbs, hL⟩⟩ := id X
  exact lv_icmp_ge hx hb hdg ht (fun z => kt z p e s m args below meth c dC dI ca ad A H locs lsA ad0 N0 (X.stk (bdd_tl (bdd_tl hbs))) hN h0) (fun z => kf z p e s m args below meth c dC dI ca ad A H locs lsA ad0 N0 (X.stk (bdd_tl (bdd_tl hbs))) hN h0)
theorem g_if_gt {x : Int32} {off : Int} {tgt : Nat} (hdg : decode mi.2.1 pc = .ok (.ifCond .gt off, 3)) (ht : (pc : Int) + off = (tgt : Int))
    (kt : 0 < x → G sc l d mc ms mi Q tgt ls st N P I nc ns) (kf : ¬ 0 < x → G sc l d mc ms mi Q (pc + 3) ls st N P I nc ns) : G sc l d mc ms mi Q pc ls (.int x :: st) N P I nc ns := by
  intro p e s m args below meth c dC dI ca ad A H locs lsA ad0 N0 X hN h0
  obtain ⟨⟨hx, hb, hml, hr, hlk, hnm, hown, hts, hnw⟩, ⟨⟨hP, hD, hPB⟩, hK, hS, hA, hSX, hSC⟩, ⟨hbl, hbs, hL⟩⟩ := id X
  exact lv_if_gt hx hb hdg ht (fun z => kt z p e s m args below meth c dC dI ca ad A H locs lsA ad0 N0 (X.stk (bdd_tl hbs)) hN h0) (fun z => kf z p e s m args below meth c dC dI ca ad A H locs lsA ad0 N0 (X.stk (bdd_tl hbs)) hN h0)
theorem g_icmp_gt {x y : Int32} {off : Int} {tgt : Nat} (hdg : decode mi.2.1 pc = .ok (.if_icmp .gt off, 3)) (ht : (pc : Int) + off = (tgt : Int))
    (kt : y < x → G sc l d mc ms mi Q tgt ls st N P I nc ns) (kf : ¬ y < x → G sc l d mc ms mi Q (pc + 3) ls st N P I nc ns) : G sc l d mc ms mi Q pc ls (.int y :: .int x :: st) N P I nc ns := by
  intro p e s m args below meth c dC dI ca ad A H locs lsA ad0 N0 X hN h0
  obtain ⟨⟨hx, hb, hml, hr, hlk, hnm, hown, hts, hnw⟩, ⟨⟨hP, hD, hPB⟩, hK, hS, hA, hSX, hSC⟩, ⟨hbl, hbs, hL⟩⟩ := id X
  exact lv_icmp_gt hx hb hdg ht (fun z => kt z p e s m args below meth c dC dI ca ad A H locs lsA ad0 N0 (X.stk (bdd_tl (bdd_tl hbs))) hN h0) (fun z => kf z p e s m args below meth c dC dI ca ad A H locs lsA ad0 N0 (X.stk (bdd_tl (bdd_tl hbs))) hN h0)
theorem g_if_le {x : Int32} {off : Int} {tgt : Nat} (hdg : decode mi.2.1 pc = .ok (.ifCond .le off, 3)) (ht : (pc : Int) + off = (tgt : Int))
    (kt : x ≤ 0 → G sc l d mc ms mi Q tgt ls st N P I nc ns) (kf : ¬ x ≤ 0 → G sc l d mc ms mi Q (pc + 3) ls st N P I nc ns) : G sc l d mc ms mi Q pc ls (.int x :: st) N P I nc ns := by
  intro p e s m args below meth c dC dI ca ad A H locs lsA ad0 N0 X hN h0
  obtain ⟨⟨hx, hb, hml, hr, hlk, hnm, hown, hts, hnw⟩, ⟨⟨hP, hD, hPB⟩, hK, hS, hA, hSX, hSC⟩, ⟨hbl, hbs, hL⟩⟩ := id X
  exact lv_if_le hx hb hdg ht (fun z => kt z p e s m args below meth c dC dI ca ad A H locs lsA ad0 N0 (X.stk (bdd_tl hbs)) hN h0) (fun z => kf z p e s m args below meth c dC dI ca ad A H locs lsA ad0 N0 (X.stk (bdd_tl hbs)) hN h0)
theorem g_icmp_le {x y : Int32} {off : Int} {tgt : Nat} (hdg : decode mi.2.1 pc = .ok (.if_icmp .le off, 3)) (ht : (pc : Int) + off = (tgt : Int))
    (kt : x ≤ y → G sc l d mc ms mi Q tgt ls st N P I nc ns) (kf : ¬ x ≤ y → G sc l d mc ms mi Q (pc + 3) ls st N P I nc ns) : G sc l d mc ms mi Q pc ls (.int y :: .int x :: st) N P I nc ns := by
  intro p e s m args below meth c dC dI ca ad A H locs lsA ad0 N0 X hN h0
  obtain ⟨⟨hx, hb, hml, hr, hlk, hnm, hown, hts, hnw⟩, ⟨⟨hP, hD, hPB⟩, hK, hS, hA, hSX, hSC⟩, ⟨hbl, hbs, hL⟩⟩ := id X
  exact lv_icmp_le hx hb hdg ht (fun z => kt z p e s m args below meth c dC dI ca ad A H locs lsA ad0 N0 (X.stk (bdd_tl (bdd_tl hbs))) hN h0) (fun z => kf z p e s m args below meth c dC dI ca ad A H locs lsA ad0 N0 (X.stk (bdd_tl (bdd_tl hbs))) hN h0)
theorem g_goto {off : Int} {tgt : Nat} (hdg : decode mi.2.1 pc = .ok (.goto off, 3)) (ht : (pc : Int) + off = (tgt : Int))
    (kk : G sc l d mc ms mi Q tgt ls st N P I nc ns) : G sc l d mc ms mi Q pc ls st N P I nc ns := by
  intro p e s m args below meth c dC dI ca ad A H locs lsA ad0 N0 X hN h0
  obtain ⟨⟨hx, hb, hml, hr, hlk, hnm, hown, hts, hnw⟩, ⟨⟨hP, hD, hPB⟩, hK, hS, hA, hSX, hSC⟩, ⟨hbl, hbs, hL⟩⟩ := id X
  exact lv_goto hx hb hdg ht (kk p e s m args below meth c dC dI ca ad A H locs lsA ad0 N0 X hN h0)
theorem g_ifnonnull {x : Nat} {off : Int} {tgt : Nat} (hdg : decode mi.2.1 pc = .ok (.ifnonnull off, 3)) (ht : (pc : Int) + off = (tgt : Int))
    (kk : G sc l d mc ms mi Q tgt ls st N P I nc ns) : G sc l d mc ms mi Q pc ls (.ref x :: st) N P I nc ns := by
  intro p e s m args below meth c dC dI ca ad A H locs lsA ad0 N0 X hN h0
  obtain ⟨⟨hx, hb, hml, hr, hlk, hnm, hown, hts, hnw⟩, ⟨⟨hP, hD, hPB⟩, hK, hS, hA, hSX, hSC⟩, ⟨hbl, hbs, hL⟩⟩ := id X
  exact lv_ifnonnull hx hb hdg ht (kk p e s m args below meth c dC dI ca ad A H locs lsA ad0 N0 (X.stk (bdd_tl hbs)) hN h0)
theorem g_ifnonnullN {off : Int} (hdg : decode mi.2.1 pc = .ok (.ifnonnull off, 3))
    (kk : G sc l d mc ms mi Q (pc + 3) ls st N P I nc ns) : G sc l d mc ms mi Q pc ls (.null :: st) N P I nc ns := by
  intro p e s m args below meth c dC dI ca ad A H locs lsA ad0 N0 X hN h0
  obtain ⟨⟨hx, hb, hml, hr, hlk, hnm, hown, hts, hnw⟩, ⟨⟨hP, hD, hPB⟩, hK, hS, hA, hSX, hSC⟩, ⟨hbl, hbs, hL⟩⟩ := id X
  exact lv_ifnonnullN hx hb hdg (kk p e s m args below meth c dC dI ca ad A H locs lsA ad0 N0 (X.stk (bdd_tl hbs)) hN h0)
theorem g_tableOut {dflt lo hi : Int} {offs : Array Int} {len : Nat} {x : Int32} {tgt : Nat} (hdg : decode mi.2.1 pc = .ok (.tableswitch dflt lo hi offs, len)) (h : x.toInt < lo ∨ hi < x.toInt) (ht : (pc : Int) + dflt = (tgt : Int))
    (kk : G sc l d mc ms mi Q tgt ls st N P I nc ns) : G sc l d mc ms mi Q pc ls (.int x :: st) N P I nc ns := by
  intro p e s m args below meth c dC dI ca ad A H locs lsA ad0 N0 X hN h0
  obtain ⟨⟨hx, hb, hml, hr, hlk, hnm, hown, hts, hnw⟩, ⟨⟨hP, hD, hPB⟩, hK, hS, hA, hSX, hSC⟩, ⟨hbl, hbs, hL⟩⟩ := id X
  exact lv_tableOut hx hb hdg h ht (kk p e s m args below meth c dC dI ca ad A H locs lsA ad0 N0 (X.stk (bdd_tl hbs)) hN h0)
theorem g_tableIn {dflt lo hi : Int} {offs : Array Int} {len : Nat} {x : Int32} {off : Int} {tgt : Nat} (hdg : decode mi.2.1 pc = .ok (.tableswitch dflt lo hi offs, len)) (h1 : ¬ x.toInt < lo) (h2 : ¬ hi < x.toInt) (ho : offs[(x.toInt - lo).toNat]? = some off) (ht : (pc : Int) + off = (tgt : Int))
    (kk : G sc l d mc ms mi Q tgt ls st N P I nc ns) : G sc l d mc ms mi Q pc ls (.int x :: st) N P I nc ns := by
  intro p e s m args below meth c dC dI ca ad A H locs lsA ad0 N0 X hN h0
  obtain ⟨⟨hx, hb, hml, hr, hlk, hnm, hown, hts, hnw⟩, ⟨⟨hP, hD, hPB⟩, hK, hS, hA, hSX, hSC⟩, ⟨hbl, hbs, hL⟩⟩ := id X
  exact lv_tableIn hx hb hdg h1 h2 ho ht (kk p e s m args below meth c dC dI ca ad A H locs lsA ad0 N0 (X.stk (bdd_tl hbs)) hN h0)
end GR
/-! fields -/
def am_cls (ci : Nat) (C : String) (T : u_T) (n : Nat) (ty : Nat → FieldType) : Prop :=
  vwCl[ci]? = some (C, T, n) ∧ am_nf.getD ci 0 = n ∧ (∀ w ∈ u_ws C T n, w ∈ lwg) ∧ (∀ k, k < n → parseFieldDescriptor (T k).2.2.1 = some (ty k)) ∧ (∀ a, a < n → ∀ b, b < n → a ≠ b → (T a).2.1 ≠ (T b).2.1) ∧
  (∀ k, k < n → (am_R ci k = true → (∃ x, ty k = .object x) ∨ (∃ x, ty k = .array x)) ∧ (am_R ci k = false → ty k = .int ∨ ty k = .boolean))
/-- a field: place j of class ci; its type, whether it's final -/
def am_fl (own : String) (idx ci j : Nat) (tj : FieldType) (fin : Bool) : Prop :=
  ∃ (C : String) (T : u_T) (n : Nat) (ty : Nat → FieldType), am_cls ci C T n ty ∧ j < n ∧ ty j = tj ∧ (T j).2.2.2 = fin ∧ (fin = true → (T j).1 = own) ∧ Cond.fieldLink own idx (T j).1 (T j).2.1 (T j).2.2.1 ∈ lwg
/-- the same for reads alone -/
def am_flr (own : String) (idx ci j : Nat) (tj : FieldType) : Prop :=
  ∃ (C : String) (T : u_T) (n : Nat) (ty : Nat → FieldType), am_cls ci C T n ty ∧ j < n ∧ ty j = tj ∧ Cond.fieldLink own idx (T j).1 (T j).2.1 (T j).2.2.1 ∈ lwg
theorem am_fl.r {own : String} {idx ci j : Nat} {tj : FieldType} {fin : Bool} (h : am_fl own idx ci j tj fin) : am_flr own idx ci j tj := by
  obtain ⟨C, T, n, ty, h1, h2, h3, h4, h5, h6⟩ := h
  exact ⟨C, T, n, ty, h1, h2, h3, h6⟩
theorem am_fs_get {ad : Nat → Nat} {ci k : Nat} {P : am_PT} {I : am_IT} {j : Nat} (h : j < am_nf.getD ci 0) : (am_fs ad ci k P I)[j]? = some (am_fv ad ci k P I j) := by
  unfold am_fs
  rw [List.getElem?_map, List.getElem?_range h]
  rfl
theorem am_fs_len {ad : Nat → Nat} {ci k : Nat} {P : am_PT} {I : am_IT} : (am_fs ad ci k P I).length = am_nf.getD ci 0 := by simp [am_fs]
theorem am_fs_set {ad : Nat → Nat} {ci k : Nat} {P P' : am_PT} {I I' : am_IT} {j : Nat} {v : Value} (hv : v = am_fv ad ci k P' I' j) (ho : ∀ i, i ≠ j → am_fv ad ci k P' I' i = am_fv ad ci k P I i) : (am_fs ad ci k P I).set j v = am_fs ad ci k P' I' := by
  subst hv
  apply List.ext_getElem?
  intro i
  rw [List.getElem?_set]
  by_cases hi : i < am_nf.getD ci 0
  · rw [am_fs_get hi, am_fs_get hi, am_fs_len]
    by_cases hj : j = i
    · subst hj
      rw [if_pos rfl, if_pos hi]
    · rw [if_neg hj, ho i (fun h => hj h.symm)]
  · have h1 : (am_fs ad ci k P I)[i]? = none := List.getElem?_eq_none (by rw [am_fs_len]; omega)
    have h2 : (am_fs ad ci k P' I')[i]? = none := List.getElem?_eq_none (by rw [am_fs_len]; omega)
    rw [h1, h2, am_fs_len]
    by_cases hj : j = i
    · subst hj
      rw [if_pos rfl, if_neg hi]
    · rw [if_neg hj]
theorem am_fv_int {ad : Nat → Nat} {ci k : Nat} {P : am_PT} {I : am_IT} {j : Nat} (h : am_R ci j = false) : am_fv ad ci k P I j = .int (I k j) := by simp [am_fv, h]
theorem am_fv_ref {ad : Nat → Nat} {ci k : Nat} {P : am_PT} {I : am_IT} {j r : Nat} (h : am_R ci j = true) (hp : P k j = some r) : am_fv ad ci k P I j = .ref (ad r) := by simp [am_fv, h, hp, va_rf]
theorem am_fv_null {ad : Nat → Nat} {ci k : Nat} {P : am_PT} {I : am_IT} {j : Nat} (h : am_R ci j = true) (hp : P k j = none) : am_fv ad ci k P I j = .null := by simp [am_fv, h, hp, va_rf]
theorem am_O.I {dC : Nat → ClassId} {dI : Nat → Nat → Nat} {ca : ClassId} {A : Nat → Prop} {ad : Nat → Nat} {N : Nat} {P : am_PT} {H : Heap} {w : va_W} (h : am_PB N P) (hP : va_P (dC, dI) vwCl w H) (hD : va_D A w) {I : am_IT} (e : w = am_w ad ca N P I) : am_O dC dI ca A ad N P I H := by
  subst e; exact ⟨hP, hD, h⟩
section GF
variable {sc : am_ST} {l : Launch} {d mc ms : Nat} {mi : am_M} {Q : Option Value → Nat → am_PT → am_IT → Prop} {pc : Nat} {ls st : List Value} {N : Nat} {P : am_PT} {I : am_IT} {nc ns : Nat}
theorem g_getI {idx ci j k : Nat} {tj : FieldType} (hf : am_flr mi.1.cls idx ci j tj) (hT : am_T k = .inr ci) (hR : am_R ci j = false) (hkN : k < N) (hdg : decode mi.2.1 pc = .ok (.getfield idx, 3))
    (kk : G sc l d mc ms mi Q (pc + 3) ls (.int (I k j) :: st) N P I nc ns) : G sc l d mc ms mi Q pc ls (.ref k :: st) N P I nc ns := by
  intro p e s m args below meth c dC dI ca ad A H locs lsA ad0 N0 X hN h0
  obtain ⟨⟨hx, hb, hml, hr, hlk, hnm, hown, hts, hnw⟩, ⟨⟨hP, hD, hPB⟩, hK, hS, hA, hSX, hSC⟩, ⟨hbl, hbs, hL⟩⟩ := id X
  obtain ⟨C, T, n, ty, ⟨hc, hnf, hin, hty, hap, hre⟩, hj, htj, hlink⟩ := hf
  refine va_get (D := (dC, dI)) hx hb hts hin hown hK hP k (by rw [am_w_get hkN, am_e_obj hT]) hc j hj (hts _ hlink) (fun _ h => h) (by rw [am_fs_get (by rw [hnf]; exact hj), am_fv_int hR]) hdg ?_
  exact kk p e s m args below meth c dC dI ca ad A H locs lsA ad0 N0 (X.stk (bdd_cons trivial (bdd_tl hbs))) hN h0
theorem g_getR {idx ci j k r : Nat} {tj : FieldType} (hf : am_flr mi.1.cls idx ci j tj) (hT : am_T k = .inr ci) (hR : am_R ci j = true) (hp : P k j = some r) (hkN : k < N) (hdg : decode mi.2.1 pc = .ok (.getfield idx, 3))
    (kk : G sc l d mc ms mi Q (pc + 3) ls (.ref r :: st) N P I nc ns) : G sc l d mc ms mi Q pc ls (.ref k :: st) N P I nc ns := by
  intro p e s m args below meth c dC dI ca ad A H locs lsA ad0 N0 X hN h0
  obtain ⟨⟨hx, hb, hml, hr, hlk, hnm, hown, hts, hnw⟩, ⟨⟨hP, hD, hPB⟩, hK, hS, hA, hSX, hSC⟩, ⟨hbl, hbs, hL⟩⟩ := id X
  obtain ⟨C, T, n, ty, ⟨hc, hnf, hin, hty, hap, hre⟩, hj, htj, hlink⟩ := hf
  refine va_get (D := (dC, dI)) hx hb hts hin hown hK hP k (by rw [am_w_get hkN, am_e_obj hT]) hc j hj (hts _ hlink) (fun _ h => h) (by rw [am_fs_get (by rw [hnf]; exact hj), am_fv_ref hR hp]) hdg ?_
  exact kk p e s m args below meth c dC dI ca ad A H locs lsA ad0 N0 (X.stk (bdd_cons (hPB.2 k j r hkN hp) (bdd_tl hbs))) hN h0
theorem g_getN {idx ci j k : Nat} {tj : FieldType} (hf : am_flr mi.1.cls idx ci j tj) (hT : am_T k = .inr ci) (hR : am_R ci j = true) (hp : P k j = none) (hkN : k < N) (hdg : decode mi.2.1 pc = .ok (.getfield idx, 3))
    (kk : G sc l d mc ms mi Q (pc + 3) ls (.null :: st) N P I nc ns) : G sc l d mc ms mi Q pc ls (.ref k :: st) N P I nc ns := by
  intro p e s m args below meth c dC dI ca ad A H locs lsA ad0 N0 X hN h0
  obtain ⟨⟨hx, hb, hml, hr, hlk, hnm, hown, hts, hnw⟩, ⟨⟨hP, hD, hPB⟩, hK, hS, hA, hSX, hSC⟩, ⟨hbl, hbs, hL⟩⟩ := id X
  obtain ⟨C, T, n, ty, ⟨hc, hnf, hin, hty, hap, hre⟩, hj, htj, hlink⟩ := hf
  refine va_get (D := (dC, dI)) hx hb hts hin hown hK hP k (by rw [am_w_get hkN, am_e_obj hT]) hc j hj (hts _ hlink) (fun _ h => h) (by rw [am_fs_get (by rw [hnf]; exact hj), am_fv_null hR hp]) hdg ?_
  exact kk p e s m args below meth c dC dI ca ad A H locs lsA ad0 N0 (X.stk (bdd_cons trivial (bdd_tl hbs))) hN h0
theorem am_setI {ad : Nat → Nat} {ca : ClassId} {N : Nat} {P : am_PT} {I : am_IT} {k ci j : Nat} {x : Int32} (hT : am_T k = .inr ci) (hR : am_R ci j = false) : (am_w ad ca N P I).set k (ad k, .inr (ci, (am_fs ad ci k P I).set j (.int x))) = am_w ad ca N P (up2 I k j x) := by
  rw [am_fs_set (P' := P) (I' := up2 I k j x) (by rw [am_fv_int hR]; simp [up2]) (fun i hi => by unfold am_fv; simp [up2, hi]), ← am_e_obj (ca := ca) hT]
  exact am_w_set (fun q hq => am_e_congr rfl (up2_ne hq))
theorem am_setR {ad : Nat → Nat} {ca : ClassId} {N : Nat} {P : am_PT} {I : am_IT} {k ci j r : Nat} (hT : am_T k = .inr ci) (hR : am_R ci j = true) : (am_w ad ca N P I).set k (ad k, .inr (ci, (am_fs ad ci k P I).set j (.ref (ad r)))) = am_w ad ca N (up2 P k j (some r)) I := by
  rw [am_fs_set (P' := up2 P k j (some r)) (I' := I) (by rw [am_fv_ref hR (r := r)]; simp [up2]) (fun i hi => by unfold am_fv; simp [up2, hi]), ← am_e_obj (ca := ca) hT]
  exact am_w_set (fun q hq => am_e_congr (up2_ne hq) rfl)
theorem am_setN {ad : Nat → Nat} {ca : ClassId} {N : Nat} {P : am_PT} {I : am_IT} {k ci j : Nat} (hT : am_T k = .inr ci) (hR : am_R ci j = true) : (am_w ad ca N P I).set k (ad k, .inr (ci, (am_fs ad ci k P I).set j .null)) = am_w ad ca N (up2 P k j none) I := by
  rw [am_fs_set (P' := up2 P k j none) (I' := I) (by rw [am_fv_null hR]; simp [up2]) (fun i hi => by unfold am_fv; simp [up2, hi]), ← am_e_obj (ca := ca) hT]
  exact am_w_set (fun q hq => am_e_congr (up2_ne hq) rfl)
theorem am_PB.set {N : Nat} {P : am_PT} {k j : Nat} {o : Option Nat} (h : am_PB N P) (ho : ∀ r, o = some r → am_b N r) : am_PB N (up2 P k j o) := by
  refine ⟨h.1, fun k' j' r hk hr => ?_⟩
  unfold up2 at hr
  split at hr
  · exact ho r hr
  · exact h.2 k' j' r hk hr
theorem g_putI {idx ci j k : Nat} {x : Int32} (hf : am_fl mi.1.cls idx ci j .int false) (hT : am_T k = .inr ci) (hR : am_R ci j = false) (hkN : k < N) (hdg : decode mi.2.1 pc = .ok (.putfield idx, 3))
    (kk : G sc l d mc ms mi Q (pc + 3) ls st N P (up2 I k j x) nc ns) : G sc l d mc ms mi Q pc ls (.int x :: .ref k :: st) N P I nc ns := by
  intro p e s m args below meth c dC dI ca ad A H locs lsA ad0 N0 X hN h0
  obtain ⟨⟨hx, hb, hml, hr, hlk, hnm, hown, hts, hnw⟩, ⟨⟨hP, hD, hPB⟩, hK, hS, hA, hSX, hSC⟩, ⟨hbl, hbs, hL⟩⟩ := id X
  obtain ⟨C, T, n, ty, ⟨hc, hnf, hin, hty, hap, hre⟩, hj, htj, hfi, hde, hlink⟩ := hf
  refine va_put (D := (dC, dI)) hx hb hts hin ty hty hap hown hK hP hD hS k (by rw [am_w_get hkN, am_e_obj hT]) hc j hj (hts _ hlink) (fun _ h => h) hfi (by rw [hty j hj, htj]) (vp_nar_int x) rfl (by rw [am_fs_len, hnf]; exact hj) hdg (fun H1 locs1 hP hD hS => ?_)
  have e1 := am_setI (ad := ad) (ca := ca) (N := N) (P := P) (I := I) (x := x) hT hR
  exact kk p e s m args below meth c dC dI ca ad A H1 locs1 lsA ad0 N0 ⟨X.1, ⟨am_O.I hPB hP hD e1, hK, hS, hA, hSX, hSC⟩, hbl, bdd_tl (bdd_tl hbs), hL⟩ hN h0
theorem g_putZ {idx ci j k : Nat} {x : Int32} (hf : am_fl mi.1.cls idx ci j .boolean false) (hT : am_T k = .inr ci) (hR : am_R ci j = false) (hkN : k < N) (h01 : x = 0 ∨ x = 1) (hdg : decode mi.2.1 pc = .ok (.putfield idx, 3))
    (kk : G sc l d mc ms mi Q (pc + 3) ls st N P (up2 I k j x) nc ns) : G sc l d mc ms mi Q pc ls (.int x :: .ref k :: st) N P I nc ns := by
  intro p e s m args below meth c dC dI ca ad A H locs lsA ad0 N0 X hN h0
  obtain ⟨⟨hx, hb, hml, hr, hlk, hnm, hown, hts, hnw⟩, ⟨⟨hP, hD, hPB⟩, hK, hS, hA, hSX, hSC⟩, ⟨hbl, hbs, hL⟩⟩ := id X
  obtain ⟨C, T, n, ty, ⟨hc, hnf, hin, hty, hap, hre⟩, hj, htj, hfi, hde, hlink⟩ := hf
  refine va_put (D := (dC, dI)) hx hb hts hin ty hty hap hown hK hP hD hS k (by rw [am_w_get hkN, am_e_obj hT]) hc j hj (hts _ hlink) (fun _ h => h) hfi (by rw [hty j hj, htj]) (show narrow .boolean (.int x) = .int x by rcases h01 with rfl | rfl <;> decide) (show fits .boolean (.int x) = true by rcases h01 with rfl | rfl <;> decide) (by rw [am_fs_len, hnf]; exact hj) hdg (fun H1 locs1 hP hD hS => ?_)
  have e1 := am_setI (ad := ad) (ca := ca) (N := N) (P := P) (I := I) (x := x) hT hR
  exact kk p e s m args below meth c dC dI ca ad A H1 locs1 lsA ad0 N0 ⟨X.1, ⟨am_O.I hPB hP hD e1, hK, hS, hA, hSX, hSC⟩, hbl, bdd_tl (bdd_tl hbs), hL⟩ hN h0
theorem am_reft {t : FieldType} {a : Nat} (h : (∃ x, t = .object x) ∨ (∃ x, t = .array x)) : (narrow t (.ref a) = .ref a ∧ fits t (.ref a) = true) ∧ (narrow t .null = .null ∧ fits t .null = true) := by
  rcases h with ⟨x, rfl⟩ | ⟨x, rfl⟩ <;> exact ⟨⟨rfl, rfl⟩, ⟨rfl, rfl⟩⟩
theorem g_putR {idx ci j k r : Nat} {tj : FieldType} {fin : Bool} (hf : am_fl mi.1.cls idx ci j tj fin) (hT : am_T k = .inr ci) (hR : am_R ci j = true) (hkN : k < N) (hin2 : fin = true → mi.1.name = "<init>") (hdg : decode mi.2.1 pc = .ok (.putfield idx, 3))
    (kk : G sc l d mc ms mi Q (pc + 3) ls st N (up2 P k j (some r)) I nc ns) : G sc l d mc ms mi Q pc ls (.ref r :: .ref k :: st) N P I nc ns := by
  intro p e s m args below meth c dC dI ca ad A H locs lsA ad0 N0 X hN h0
  obtain ⟨⟨hx, hb, hml, hr, hlk, hnm, hown, hts, hnw⟩, ⟨⟨hP, hD, hPB⟩, hK, hS, hA, hSX, hSC⟩, ⟨hbl, hbs, hL⟩⟩ := id X
  obtain ⟨C, T, n, ty, ⟨hc, hnf, hin, hty, hap, hre⟩, hj, htj, hfi, hde, hlink⟩ := hf
  have hrr := am_reft (a := ad r) ((hre j hj).1 hR)
  have e1 := am_setR (ad := ad) (ca := ca) (N := N) (P := P) (I := I) (r := r) hT hR
  have hPB2 : am_PB N (up2 P k j (some r)) := hPB.set (fun r' hr' => by cases hr'; exact bdd_hd hbs)
  cases fin with
  | false =>
    refine va_put (D := (dC, dI)) hx hb hts hin ty hty hap hown hK hP hD hS k (by rw [am_w_get hkN, am_e_obj hT]) hc j hj (hts _ hlink) (fun _ h => h) hfi (hty j hj) hrr.1.1 hrr.1.2 (by rw [am_fs_len, hnf]; exact hj) hdg (fun H1 locs1 hP hD hS => ?_)
    exact kk p e s m args below meth c dC dI ca ad A H1 locs1 lsA ad0 N0 ⟨X.1, ⟨am_O.I hPB2 hP hD e1, hK, hS, hA, hSX, hSC⟩, hbl, bdd_tl (bdd_tl hbs), hL⟩ hN h0
  | true =>
    refine va_putF (D := (dC, dI)) hx hb hts hin ty hty hap hown hK hP hD hS k (by rw [am_w_get hkN, am_e_obj hT]) hc j hj (hts _ hlink) (fun _ h => h) hfi (hnm.trans (hin2 rfl)) (hde rfl) (hty j hj) hrr.1.1 hrr.1.2 (by rw [am_fs_len, hnf]; exact hj) hdg (fun H1 locs1 hP hD hS => ?_)
    exact kk p e s m args below meth c dC dI ca ad A H1 locs1 lsA ad0 N0 ⟨X.1, ⟨am_O.I hPB2 hP hD e1, hK, hS, hA, hSX, hSC⟩, hbl, bdd_tl (bdd_tl hbs), hL⟩ hN h0
theorem g_putN {idx ci j k : Nat} {tj : FieldType} (hf : am_fl mi.1.cls idx ci j tj false) (hT : am_T k = .inr ci) (hR : am_R ci j = true) (hkN : k < N) (hdg : decode mi.2.1 pc = .ok (.putfield idx, 3))
    (kk : G sc l d mc ms mi Q (pc + 3) ls st N (up2 P k j none) I nc ns) : G sc l d mc ms mi Q pc ls (.null :: .ref k :: st) N P I nc ns := by
  intro p e s m args below meth c dC dI ca ad A H locs lsA ad0 N0 X hN h0
  obtain ⟨⟨hx, hb, hml, hr, hlk, hnm, hown, hts, hnw⟩, ⟨⟨hP, hD, hPB⟩, hK, hS, hA, hSX, hSC⟩, ⟨hbl, hbs, hL⟩⟩ := id X
  obtain ⟨C, T, n, ty, ⟨hc, hnf, hin, hty, hap, hre⟩, hj, htj, hfi, hde, hlink⟩ := hf
  have hrr := am_reft (a := 0) ((hre j hj).1 hR)
  have e1 := am_setN (ad := ad) (ca := ca) (N := N) (P := P) (I := I) hT hR
  have hPB2 : am_PB N (up2 P k j none) := hPB.set (fun r' hr' => by cases hr')
  refine va_put (D := (dC, dI)) hx hb hts hin ty hty hap hown hK hP hD hS k (by rw [am_w_get hkN, am_e_obj hT]) hc j hj (hts _ hlink) (fun _ h => h) hfi (hty j hj) hrr.2.1 hrr.2.2 (by rw [am_fs_len, hnf]; exact hj) hdg (fun H1 locs1 hP hD hS => ?_)
  exact kk p e s m args below meth c dC dI ca ad A H1 locs1 lsA ad0 N0 ⟨X.1, ⟨am_O.I hPB2 hP hD e1, hK, hS, hA, hSX, hSC⟩, hbl, bdd_tl (bdd_tl hbs), hL⟩ hN h0
/-! arrays -/
theorem g_iald {k n : Nat} {i : Int32} (hT : am_T k = .inl n) (hkN : k < N) (hin : vp_in i n) (hdg : decode mi.2.1 pc = .ok (.iaload, 1))
    (kk : G sc l d mc ms mi Q (pc + 1) ls (.int (I k i.toNatClampNeg) :: st) N P I nc ns) : G sc l d mc ms mi Q pc ls (.int i :: .ref k :: st) N P I nc ns := by
  intro p e s m args below meth c dC dI ca ad A H locs lsA ad0 N0 X hN h0
  obtain ⟨⟨hx, hb, hml, hr, hlk, hnm, hown, hts, hnw⟩, ⟨⟨hP, hD, hPB⟩, hK, hS, hA, hSX, hSC⟩, ⟨hbl, hbs, hL⟩⟩ := id X
  refine va_iald hx hb hK hP k 0 (by rw [am_w_get hkN, am_e_arr hT]) rfl hin hdg ?_
  exact kk p e s m args below meth c dC dI ca ad A H locs lsA ad0 N0 (X.stk (bdd_cons trivial (bdd_tl (bdd_tl hbs)))) hN h0
theorem am_setA {ad : Nat → Nat} {ca : ClassId} {N : Nat} {P : am_PT} {I I' : am_IT} {k n : Nat} {f : Nat → Int32} (hT : am_T k = .inl n) (hf : f = I' k) (ho : ∀ q, q ≠ k → I' q = I q) : (am_w ad ca N P I).set k (ad k, .inl (ca, n, .inl f)) = am_w ad ca N P I' := by
  subst hf
  rw [← am_e_arr (ad := ad) (ca := ca) (P := P) hT]
  exact am_w_set (fun q hq => am_e_congr rfl (ho q hq))
theorem g_iast {k n : Nat} {i x : Int32} (hT : am_T k = .inl n) (hkN : k < N) (hin : vp_in i n) (hdg : decode mi.2.1 pc = .ok (.iastore, 1))
    (kk : G sc l d mc ms mi Q (pc + 1) ls st N P (up2 I k i.toNatClampNeg x) nc ns) : G sc l d mc ms mi Q pc ls (.int x :: .int i :: .ref k :: st) N P I nc ns := by
  intro p e s m args below meth c dC dI ca ad A H locs lsA ad0 N0 X hN h0
  obtain ⟨⟨hx, hb, hml, hr, hlk, hnm, hown, hts, hnw⟩, ⟨⟨hP, hD, hPB⟩, hK, hS, hA, hSX, hSC⟩, ⟨hbl, hbs, hL⟩⟩ := id X
  refine va_iast hx hb hK hP hD hS k 0 (by rw [am_w_get hkN, am_e_arr hT]) rfl hin hdg (fun H1 locs1 hP hD hS => ?_)
  exact kk p e s m args below meth c dC dI ca ad A H1 locs1 lsA ad0 N0 ⟨X.1, ⟨am_O.I hPB hP hD (am_setA hT up2_row.symm (fun q hq => up2_ne hq)), hK, hS, hA, hSX, hSC⟩, hbl, bdd_tl (bdd_tl (bdd_tl hbs)), hL⟩ hN h0
theorem g_alen {k n : Nat} {v : Int32} (hT : am_T k = .inl n) (hkN : k < N) (hv : Int32.ofNat n = v) (hdg : decode mi.2.1 pc = .ok (.arraylength, 1))
    (kk : G sc l d mc ms mi Q (pc + 1) ls (.int v :: st) N P I nc ns) : G sc l d mc ms mi Q pc ls (.ref k :: st) N P I nc ns := by
  intro p e s m args below meth c dC dI ca ad A H locs lsA ad0 N0 X hN h0
  obtain ⟨⟨hx, hb, hml, hr, hlk, hnm, hown, hts, hnw⟩, ⟨⟨hP, hD, hPB⟩, hK, hS, hA, hSX, hSC⟩, ⟨hbl, hbs, hL⟩⟩ := id X
  refine va_alen hx hb hK hP k 0 (by rw [am_w_get hkN, am_e_arr hT]) rfl hv hdg ?_
  exact kk p e s m args below meth c dC dI ca ad A H locs lsA ad0 N0 (X.stk (bdd_cons trivial (bdd_tl hbs))) hN h0
/-- a row of cells copied -/
def cpy2 (I : am_IT) (a b sp dp n : Nat) : am_IT := fun k j => if k = b ∧ dp ≤ j ∧ j < dp + n then I a (sp + (j - dp)) else I k j
theorem g_acopy {idx a b na nb : Nat} {sp dp n : Int32} (hlink : Cond.methodLink mi.1.cls idx arraycopyName ∈ lwg) (hTa : am_T a = .inl na) (hTb : am_T b = .inl nb) (haN : a < N) (hbN : b < N) (h1 : ¬ sp < 0) (h2 : ¬ dp < 0) (h3 : ¬ n < 0) (h4 : sp.toNatClampNeg + n.toNatClampNeg ≤ na) (h5 : dp.toNatClampNeg + n.toNatClampNeg ≤ nb)
    (hq1 : Cond.native arraycopyName ∈ lwg) (hq2 : Cond.static arraycopyName ∈ lwg) (hq3 : Cond.initialized "java/lang/System" ∈ lwg) (hd : 2 ≤ d) (hst : st.length ≤ 8) (hdg : decode mi.2.1 pc = .ok (.invokestatic idx, 3))
    (kk : G sc l d mc ms mi Q (pc + 3) ls st N P (cpy2 I a b sp.toNatClampNeg dp.toNatClampNeg n.toNatClampNeg) nc ns) : G sc l d mc ms mi Q pc ls (.int n :: .int dp :: .ref b :: .int sp :: .ref a :: st) N P I nc ns := by
  intro p e s m args below meth c dC dI ca ad A H locs lsA ad0 N0 X hN h0
  obtain ⟨⟨hx, hb, hml, hr, hlk, hnm, hown, hts, hnw⟩, ⟨⟨hP, hD, hPB⟩, hK, hS, hA, hSX, hSC⟩, ⟨hbl, hbs, hL⟩⟩ := id X
  have hbs5 := bdd_tl (bdd_tl (bdd_tl (bdd_tl (bdd_tl hbs))))
  have hlo : ((st.map (cv ad)).map fun v => v.category).sum + (nativeFrameWords "java/lang/System" "arraycopy" 5 + 11) ≤ (rmd d mc ms).locals := by
    rw [bdd_cat hbs5]
    have h9 : nativeFrameWords "java/lang/System" "arraycopy" 5 + 11 ≤ 60 := by decide +kernel
    show _ ≤ 41 * d + _
    omega
  refine va_copyi (R := rmd d mc ms) hx hb (hml.trans hL.1.1.symm) hown (hts _ hlink) (hts _ hq1) (hts _ hq2) (hts _ hq3) hK hP hD hS a b 0 0 (by rw [am_w_get haN, am_e_arr hTa]) (by rw [am_w_get hbN, am_e_arr hTb]) (ty := .int) rfl rfl rfl h1 h2 h3 h4 h5 (fun _ _ => rfl) (Nat.le_trans (by decide) hd) hlo hdg (fun H1 locs1 hP hD hS => ?_)
  refine kk p e s m args below meth c dC dI ca ad A H1 locs1 lsA ad0 N0 ⟨X.1, ⟨am_O.I hPB hP hD (am_setA hTb ?_ (fun q hq => ?_)), hK, hS, hA, hSX, hSC⟩, hbl, hbs5, hL⟩ hN h0
  · funext j
    simp [va_cpy, cpy2]
  · funext j
    simp [cpy2, hq]
end GF
/-! new cells -/
def zr {α : Type} (f : Nat → Nat → α) (n : Nat) (v : α) : Nat → Nat → α := fun k j => if k = n then v else f k j
def ad1 (ad : Nat → Nat) (n q : Nat) : Nat → Nat := fun k => if k = n then q else ad k
theorem am_w_push {ad : Nat → Nat} {ca : ClassId} {N q : Nat} {P : am_PT} {I : am_IT} (hPB : am_PB N P) (hN : N < 1000000) : am_w (ad1 ad N q) ca (N + 1) (zr P N none) (zr I N 0) = am_w ad ca N P I ++ [(q, am_e (ad1 ad N q) ca (zr P N none) (zr I N 0) N)] := by
  unfold am_w
  rw [List.range_succ, List.map_append]
  congr 1
  · apply List.map_congr_left
    intro k hk
    have hkN := List.mem_range.mp hk
    have hne : k ≠ N := by omega
    have e1 : ad1 ad N q k = ad k := by simp [ad1, hne]
    rw [e1]
    congr 1
    have e2 : zr I N 0 k = I k := by funext j; simp [zr, hne]
    have e3 : zr P N none k = P k := by funext j; simp [zr, hne]
    unfold am_e
    cases am_T k with
    | inl n => dsimp only; rw [e2]
    | inr ci =>
      dsimp only
      congr 2
      unfold am_fs
      apply List.map_congr_left
      intro j hj
      unfold am_fv
      rw [e2, e3]
      cases hp : P k j with
      | none => rfl
      | some r =>
        have hr := hPB.2 k j r hkN hp
        have : ad1 ad N q r = ad r := by
          unfold ad1
          rw [if_neg]
          rcases hr with h | h <;> omega
        simp [this]
  · simp [ad1]
theorem ad1_old {ad : Nat → Nat} {N q : Nat} (hN : N < 1000000) : ∀ k, am_b N k → ad1 ad N q k = ad k := fun k hk => by
  unfold ad1
  rw [if_neg]
  rcases hk with h | h <;> omega
theorem am_PB.push {N : Nat} {P : am_PT} (h : am_PB N P) (hN : N < 1000000) : am_PB (N + 1) (zr P N none) := by
  refine ⟨by omega, fun k j r hk hr => ?_⟩
  unfold zr at hr
  split at hr
  · cases hr
  · exact am_b.mono (h.2 k j r (by omega) hr) (by omega)
theorem zr_self {α : Type} {f : Nat → Nat → α} {n : Nat} {v : α} : zr f n v n = fun _ => v := by funext j; simp [zr]
section GN
variable {sc : am_ST} {l : Launch} {d mc ms : Nat} {mi : am_M} {Q : Option Value → Nat → am_PT → am_IT → Prop} {pc : Nat} {ls st : List Value} {N : Nat} {P : am_PT} {I : am_IT} {nc ns : Nat}
theorem g_newa {n : Nat} {x : Int32} (hT : am_T N = .inl n) (hN1 : N < 1000000) (hx0 : ¬ x < 0) (hxn : x.toNatClampNeg = n) (hn : n ≤ 4096) (hc1 : nc + 1 ≤ mc) (hc2 : ns + n ≤ ms) (hk : Cond.arrayClass .int ∈ lwg) (hdg : decode mi.2.1 pc = .ok (.newarray .int, 2))
    (kk : G sc l d mc ms mi Q (pc + 2) ls (.ref N :: st) (N + 1) (zr P N none) (zr I N 0) (nc + 1) (ns + n)) : G sc l d mc ms mi Q pc ls (.int x :: st) N P I nc ns := by
  intro p e s m args below meth c dC dI ca ad A H locs lsA ad0 N0 X hN h0
  obtain ⟨⟨hx, hb, hml, hr, hlk, hnm, hown, hts, hnw⟩, ⟨⟨hP, hD, hPB⟩, hK, hS, hA, hSX, hSC⟩, ⟨hbl, hbs, hL⟩⟩ := id X
  refine va_newa (atype := .int) (ty := .int) (a0 := (n, .inl (fun _ => 0))) hx hb (hts _ hk) rfl hK hP hD hS hA (fun _ => rfl) hx0 hxn (by show n * 4 ≤ _; omega) hc1 hc2 hdg (fun q cA H1 hK1 hP1 hD1 hS1 => ?_)
  have hca : cA = ca := by
    have h1 := (hK1.2 1 (cA, .int) rfl).2
    have h2 := (hK.2 0 (ca, .int) rfl).2
    exact Option.some.inj (h1.symm.trans h2)
  subst hca
  have e1 : am_w ad cA N P I ++ [(q, (.inl (cA, (n, .inl (fun _ => 0))) : va_E))] = am_w (ad1 ad N q) cA (N + 1) (zr P N none) (zr I N 0) := by
    rw [am_w_push hPB hN1, am_e_arr hT, zr_self]
  have hold := ad1_old (ad := ad) (q := q) hN1
  rw [show st.map (cv ad) = st.map (cv (ad1 ad N q)) from (cv_map_eq (bdd_tl hbs) hold).symm]
  have key := kk p e s m args below meth c dC dI cA (ad1 ad N q) A H1 locs lsA ad0 N0 ⟨X.1, ⟨am_O.I (hPB.push hN1) hP1 hD1 e1, hK, hS1, hA, hSX.cong (fun k hk => hold k (Or.inr hk)), fun z => by rw [hold 1000030 (Or.inr (by decide))]; exact hSC z⟩, fun v hv => (hbl v hv).mono (Nat.le_succ N), fun v hv => ?_, hL.move hbl hold⟩ (Nat.le_succ_of_le hN) (fun k hk => (hold k (hk.mono hN)).trans (h0 k hk))
  · rw [List.map_cons, show cv (ad1 ad N q) (.ref N) = .ref q by simp [cv, ad1]] at key
    exact key
  · rcases List.mem_cons.mp hv with h | h
    · rw [h]; exact Or.inl (Nat.lt_succ_self N)
    · exact (bdd_tl hbs v h).mono (Nat.le_succ N)
def am_nw1 (own : String) (idx ci : Nat) (n : Nat) : Prop := ∃ (C : String) (T : u_T) (ty : Nat → FieldType), am_cls ci C T n ty ∧ Cond.classLink own idx C ∈ lwg ∧ Cond.instantiable C n ∈ lwg ∧ Cond.initialized C ∈ lwg
theorem g_new {idx ci n : Nat} (hw : am_nw1 mi.1.cls idx ci n) (hT : am_T N = .inr ci) (hN1 : N < 1000000) (hc1 : nc + 1 ≤ mc) (hc2 : ns + n ≤ ms) (hdg : decode mi.2.1 pc = .ok (.new idx, 3))
    (kk : G sc l d mc ms mi Q (pc + 3) ls (.ref N :: st) (N + 1) (zr P N none) (zr I N 0) (nc + 1) (ns + n)) : G sc l d mc ms mi Q pc ls st N P I nc ns := by
  intro p e s m args below meth c dC dI ca ad A H locs lsA ad0 N0 X hN h0
  obtain ⟨⟨hx, hb, hml, hr, hlk, hnm, hown, hts, hnw⟩, ⟨⟨hP, hD, hPB⟩, hK, hS, hA, hSX, hSC⟩, ⟨hbl, hbs, hL⟩⟩ := id X
  obtain ⟨C, T, ty, ⟨hc, hnf, hin, hty, hap, hre⟩, hcl, hinst, hini⟩ := hw
  refine va_new (D := (dC, dI)) (fs := am_fs ad ci N (fun _ _ => none) (fun _ _ => 0)) hx hb hts hin ty hty hown (hts _ hcl) (hts _ hinst) (hts _ hini) hK hP hD hS hA hc (fun j hj => ?_) hc1 hc2 hdg (fun q H1 hP1 hD1 hS1 => ?_)
  · show _ = (am_fs ad ci N (fun _ _ => none) (fun _ _ => 0)).getD j .null
    rw [List.getD_eq_getElem?_getD, am_fs_get (by rw [hnf]; exact hj)]
    cases hR : am_R ci j with
    | true =>
      rw [am_fv_null hR rfl]
      rcases (hre j hj).1 hR with ⟨z, hz⟩ | ⟨z, hz⟩ <;> rw [hz] <;> rfl
    | false =>
      rw [am_fv_int hR]
      rcases (hre j hj).2 hR with hz | hz <;> rw [hz] <;> rfl
  have e1 : am_w ad ca N P I ++ [(q, (.inr (ci, am_fs ad ci N (fun _ _ => none) (fun _ _ => 0)) : va_E))] = am_w (ad1 ad N q) ca (N + 1) (zr P N none) (zr I N 0) := by
    rw [am_w_push hPB hN1, am_e_obj hT]
    congr 5
    unfold am_fs
    apply List.map_congr_left
    intro j _
    unfold am_fv
    rw [zr_self, zr_self]
    rfl
  have hold := ad1_old (ad := ad) (q := q) hN1
  rw [show st.map (cv ad) = st.map (cv (ad1 ad N q)) from (cv_map_eq hbs hold).symm]
  have key := kk p e s m args below meth c dC dI ca (ad1 ad N q) A H1 locs lsA ad0 N0 ⟨X.1, ⟨am_O.I (hPB.push hN1) hP1 hD1 e1, hK, hS1, hA, hSX.cong (fun k hk => hold k (Or.inr hk)), fun z => by rw [hold 1000030 (Or.inr (by decide))]; exact hSC z⟩, fun v hv => (hbl v hv).mono (Nat.le_succ N), fun v hv => ?_, hL.move hbl hold⟩ (Nat.le_succ_of_le hN) (fun k hk => (hold k (hk.mono hN)).trans (h0 k hk))
  · rw [List.map_cons, show cv (ad1 ad N q) (.ref N) = .ref q by simp [cv, ad1]] at key
    exact key
  · rcases List.mem_cons.mp hv with h | h
    · rw [h]; exact Or.inl (Nat.lt_succ_self N)
    · exact (hbs v h).mono (Nat.le_succ N)
/-! ends -/
theorem am_end {H : Heap} {p : Program} {s : State} {m : MethodId} {args : Array Value} {meth : Method} {c : Code} {dC : Nat → ClassId} {dI : Nat → Nat → Nat} {ca : ClassId} {ad : Nat → Nat} {A : Nat → Prop} {locs : List Loc} {lsA : Array Slot} {ad0 : Nat → Nat} {N0 : Nat} {v : Option Value}
    (X : am_H sc mi p s m args meth c dC dI ca ad A H locs lsA ls st N P I) (hN : N0 ≤ N) (h0 : ∀ k, am_b N0 k → ad k = ad0 k) (hq : Q v N P I) (hv : ∀ x, v = some x → am_bv N x) : ∀ t : State, t.heap = H → s.WarmedH t.vm → am_Q dC dI ca A ad0 N0 Q args s (.returned (v.map (cv ad))) t := by
  intro t ht hW
  exact ⟨⟨v, N, P, I, ad, rfl, hq, hN, h0, hv, by rw [ht]; exact X.2.1.1, va_K.moved hW.alike X.2.1.2.1⟩, X.2.1.2.2.1.F ht⟩
theorem g_iret {x : Int32} (hr : mi.2.2.2 = some .int) (hc : nc ≤ mc) (hs : ns ≤ ms) (hdg : decode mi.2.1 pc = .ok (.ireturn, 1)) (hq : Q (some (.int x)) N P I) : G sc l d mc ms mi Q pc ls [.int x] N P I nc ns := by
  intro p e s m args below meth c dC dI ca ad A H locs lsA ad0 N0 X hN h0
  have he := am_end X hN h0 hq (fun y hy => by cases hy; exact trivial)
  obtain ⟨⟨hx, hb, hml, hr2, hlk, hnm, hown, hts, hnw⟩, ⟨⟨hP, hD, hPB⟩, hK, hS, hA, hSX, hSC⟩, ⟨hbl, hbs, hL⟩⟩ := id X
  exact W.widen hc hs (W.iret hx hb (hr2.trans hr) he hS.2.2 hdg hlk)
theorem g_zret {x : Int32} (hr : mi.2.2.2 = some .boolean) (h01 : x = 0 ∨ x = 1) (hc : nc ≤ mc) (hs : ns ≤ ms) (hdg : decode mi.2.1 pc = .ok (.ireturn, 1)) (hq : Q (some (.int x)) N P I) : G sc l d mc ms mi Q pc ls [.int x] N P I nc ns := by
  intro p e s m args below meth c dC dI ca ad A H locs lsA ad0 N0 X hN h0
  have he := am_end X hN h0 hq (fun y hy => by cases hy; exact trivial)
  obtain ⟨⟨hx, hb, hml, hr2, hlk, hnm, hown, hts, hnw⟩, ⟨⟨hP, hD, hPB⟩, hK, hS, hA, hSX, hSC⟩, ⟨hbl, hbs, hL⟩⟩ := id X
  exact W.widen hc hs (W.zret hx hb (hr2.trans hr) (by rcases h01 with rfl | rfl <;> decide) he hS.2.2 hdg hlk)
theorem g_vret (hr : mi.2.2.2 = none) (hc : nc ≤ mc) (hs : ns ≤ ms) (hdg : decode mi.2.1 pc = .ok (.return_, 1)) (hq : Q none N P I) : G sc l d mc ms mi Q pc ls [] N P I nc ns := by
  intro p e s m args below meth c dC dI ca ad A H locs lsA ad0 N0 X hN h0
  have he := am_end X hN h0 hq (fun y hy => by cases hy)
  obtain ⟨⟨hx, hb, hml, hr2, hlk, hnm, hown, hts, hnw⟩, ⟨⟨hP, hD, hPB⟩, hK, hS, hA, hSX, hSC⟩, ⟨hbl, hbs, hL⟩⟩ := id X
  exact W.widen hc hs (W.vret hx hb (hr2.trans hr) he hS.2.2 hdg hlk)
theorem g_aret {x : Nat} {t : FieldType} (hr : mi.2.2.2 = some (.array t)) (hc : nc ≤ mc) (hs : ns ≤ ms) (hdg : decode mi.2.1 pc = .ok (.areturn, 1)) (hq : Q (some (.ref x)) N P I) : G sc l d mc ms mi Q pc ls [.ref x] N P I nc ns := by
  intro p e s m args below meth c dC dI ca ad A H locs lsA ad0 N0 X hN h0
  have he := am_end X hN h0 hq (fun y hy => by cases hy; exact X.2.2.2.1 _ List.mem_cons_self)
  obtain ⟨⟨hx, hb, hml, hr2, hlk, hnm, hown, hts, hnw⟩, ⟨⟨hP, hD, hPB⟩, hK, hS, hA, hSX, hSC⟩, ⟨hbl, hbs, hL⟩⟩ := id X
  exact W.widen hc hs (W.aret hx hb (hr2.trans hr) (Or.inr ⟨_, rfl⟩) (Or.inr ⟨_, rfl⟩) he hS.2.2 hdg hlk)
end GN
/-! calls -/
section GC
variable {sc : am_ST} {l : Launch} {d mc ms : Nat} {mi : am_M} {Q : Option Value → Nat → am_PT → am_IT → Prop} {pc : Nat} {ls st : List Value} {N : Nat} {P : am_PT} {I : am_IT} {nc ns : Nat}
theorem am_blind {dC : Nat → ClassId} {dI : Nat → Nat → Nat} {ca : ClassId} {ad : Nat → Nat} {sz : Nat} {av : List Value} : FrameBlind (va_Pc av (fun U => U.heap.size = sz ∧ am_O dC dI ca (fun _ => True) ad N P I U.heap ∧ va_K (dC, dI) vwCl [(ca, .int)] U ∧ am_nw U ∧ am_SX (va_A (am_w ad ca N P I) sz) ad U U.heap)) := by
  rintro a U g mk ⟨q0, q1, q2, q3, q4, q5⟩
  exact ⟨q0, q1, q2, va_K.moved (u := U) (U := U.calling g mk a) (Vm.Alike.refl U.vm) q3, fun w hw => va_Nw.same rfl (rfl : U.vm = (U.calling g mk a).vm) (q4 w hw), q5.1.moved (Vm.Alike.refl U.vm), q5.2.1.moved (Vm.Alike.refl U.vm), q5.2.2.1.imp (fun h => h.moved (Vm.Alike.refl U.vm)) (fun h => h.moved (Vm.Alike.refl U.vm)), q5.2.2.2.1.same rfl, q5.2.2.2.2.same rfl⟩
theorem am_pre {mi : am_M} {p : Program} {s : State} {m : MethodId} {args : Array Value} {meth : Method} {c : Code} {dC : Nat → ClassId} {dI : Nat → Nat → Nat} {ca : ClassId} {ad : Nat → Nat} {A : Nat → Prop} {H : Heap} {locs : List Loc} {lsA : Array Slot} {ls st : List Value} {N : Nat} {P : am_PT} {I : am_IT}
    (X : am_H sc mi p s m args meth c dC dI ca ad A H locs lsA ls st N P I) (av : List Value) : ∀ U : State, U.heap = H → s.WarmedH U.vm → va_Pc av (fun U => U.heap.size = H.size ∧ am_O dC dI ca (fun _ => True) ad N P I U.heap ∧ va_K (dC, dI) vwCl [(ca, .int)] U ∧ am_nw U ∧ am_SX (va_A (am_w ad ca N P I) H.size) ad U U.heap) av.toArray U := by
  intro U hU hW
  obtain ⟨⟨hx, hb, hml, hr, hlk, hnm, hown, hts, hnw⟩, ⟨⟨hP, hD, hPB⟩, hK, hS, hA, hSX, hSC⟩, ⟨hbl, hbs, hL⟩⟩ := X
  exact ⟨rfl, by rw [hU], by rw [hU]; exact ⟨hP, hD.weaken (fun _ _ _ _ => trivial), hPB⟩, va_K.moved hW.alike hK, fun w hw => va_Nw.warmM hW (hnw w hw), by rw [hU]; exact hSX.go hS.2.1 hW (fun q hq => by
    rcases hq with ⟨k, e3, h⟩ | h
    · exact hD.2 k (q, e3) h
    · exact hA q (Nat.le_trans hS.1 h))⟩
/-- what follows a call -/
theorem am_go {p : Program} {e : Env} {s : State} {m : MethodId} {args : Array Value} {below : List Frame} {meth : Method} {c : Code} {dC : Nat → ClassId} {dI : Nat → Nat → Nat} {ca : ClassId} {ad : Nat → Nat} {A : Nat → Prop} {H : Heap} {locs : List Loc} {lsA : Array Slot} {ad0 : Nat → Nat} {N0 : Nat} {stC : List Value} {mc' ms' : Nat} {Q' : Option Value → Nat → am_PT → am_IT → Prop} {a : Array Value}
    (X : am_H sc mi p s m args meth c dC dI ca ad A H locs lsA ls st N P I) (hN : N0 ≤ N) (h0 : ∀ k, am_b N0 k → ad k = ad0 k)
    (hr : va_Run p l e (rmd d mc ms) s m args below meth c H locs nc ns mc' ms' (F0 m pc lsA stC) (st.map (cv ad)) (am_Q dC dI ca (va_A (am_w ad ca N P I) H.size) ad N Q' a) (va_A (am_w ad ca N P I) H.size))
    (kk : ∀ (v : Option Value) (N' : Nat) (P' : am_PT) (I' : am_IT), Q' v N' P' I' → G sc l d mc ms mi Q (pc + 3) ls (v.toList ++ st) N' P' I' (nc + mc') (ns + ms')) :
    W p l e (rmd d mc ms) s m args below meth c H locs nc ns (MQ below (am_Q dC dI ca A ad0 N0 Q) args s mc ms A) (F0 m pc lsA stC) := by
  intro T hT XX
  obtain ⟨v, st₀, t, T', L, e0, X', hL, e1, e2, ⟨⟨v', N', P', I', ad', hv, hq, hNN, had, hbv, hO, hK'⟩, hz, hk⟩, stp⟩ := hr T hT XX
  obtain ⟨⟨hx, hb, hml, hr2, hlk, hnm, hown, hts, hnw⟩, ⟨⟨hP, hD, hPB⟩, hK, hS, hA, hSX, hSC⟩, ⟨hbl, hbs, hL1⟩⟩ := id X
  cases hv
  rw [e0] at hz hk
  have hA1 : ∀ q, va_A (am_w ad ca N P I) H.size q → A q := by
    rintro q (⟨k, e3, h⟩ | h)
    · exact hD.2 k (q, e3) h
    · exact hA q (Nat.le_trans hS.1 h)
  have hst : st.map (cv ad) = st.map (cv ad') := (cv_map_eq hbs had).symm
  have hS' : va_S A s.heap T'.heap (locs ++ L) := ⟨Nat.le_trans hS.1 (by rw [e1]; exact hz), fun q h1 h2 => by rw [e1, hk q (Nat.lt_of_lt_of_le h1 hS.1) (fun z => h2 (hA1 q z))]; exact hS.2.1 q h1 h2, fun q hq => by
    rcases List.mem_append.mp hq with h | h
    · exact hS.2.2 q h
    · exact hA1 _ (hL q h)⟩
  have key := kk v' N' P' I' hq p e s m args below meth c dC dI ca ad' A T'.heap (locs ++ L) lsA ad0 N0 ⟨X.1, ⟨by rw [e1]; exact ⟨hO.1, hO.2.1.weaken (fun k q _ h => hA1 _ h), hO.2.2⟩, hK, hS', hA, hSX.cong (fun k hk => had k (Or.inr hk)), fun z => by rw [had 1000030 (Or.inr (by decide))]; exact hSC z⟩, fun v hv => (hbl v hv).mono hNN, fun w hw => ?_, hL1.move hbl had⟩ (Nat.le_trans hN hNN) (fun k hk => (had k (hk.mono hN)).trans (h0 k hk))
  · obtain ⟨t2, a1, b1⟩ := key T' rfl X'
    refine ⟨t2, stp t2 ?_, b1⟩
    have e5 : (v'.toList ++ st).map (cv ad') = (v'.map (cv ad')).toList ++ st.map (cv ad) := by
      rw [hst, List.map_append]
      cases v' <;> rfl
    rw [e5] at a1
    exact a1
  · rcases List.mem_append.mp hw with h | h
    · exact hbv w (by cases v' <;> simp at h ⊢; exact h.symm)
    · exact (hbs w h).mono hNN
theorem am_room {d d' mc ms mc' ms' n : Nat} (hd : d' + 1 ≤ d) (hn : n ≤ 21) : (rmd d' mc' ms').frames + 1 ≤ (rmd d mc ms).frames ∧ 8 + (n + 11) + (rmd d' mc' ms').locals ≤ (rmd d mc ms).locals := ⟨hd, by show 8 + (n + 11) + (41 * d' + (if 2048 ≤ d' then 32 else 0)) ≤ 41 * d + (if 2048 ≤ d then 32 else 0); split <;> split <;> omega⟩
/-- what the tables say of a call: of the callee itself, and of the link -/
def am_y (mi' : am_M) (n : Nat) : Prop := Cond.code mi'.1 mi'.2.1 mi'.2.2.1 mi'.2.2.2 ∈ lwg ∧ Cond.initialized mi'.1.cls ∈ lwg ∧ (mi'.1.cls ≠ "java/lang/invoke/MethodHandle" ∧ mi'.1.cls ≠ "java/lang/invoke/VarHandle" ∧ (parseMethodDescriptor mi'.1.desc).map (fun d => d.parameters.length) = some n) ∧ mi'.2.2.1 ≤ 21
def am_yV (mi' : am_M) (n ci : Nat) : Prop := am_y mi' n ∧ Cond.instanceMethod mi'.1 ∈ lwg ∧ Cond.selects mi'.1.cls mi'.1 mi'.1 ∈ lwg ∧ ∃ (T : u_T) (nf : Nat), vwCl[ci]? = some (mi'.1.cls, T, nf)
def am_yS (mi' : am_M) (n : Nat) : Prop := am_y mi' n ∧ Cond.static mi'.1 ∈ lwg
def am_yI (mi' : am_M) (n : Nat) : Prop := am_y mi' n ∧ Cond.instanceMethod mi'.1 ∈ lwg ∧ mi'.1.name = "<init>" ∧ mi'.2.2.2 = none
theorem mws_good {mi' : am_M} {n : Nat} (h : am_y mi' n) : ∀ w ∈ mws mi', w ∈ lwg := fun w hw => by
  rcases List.mem_cons.mp hw with h1 | h1
  · rw [h1]; exact h.1
  · exact h1
theorem am_callB {R : Room} {s : State} {args : Array Value} {own : String} {idx n d' mc' ms' : Nat} {mi' : am_M} (hts : ∀ w ∈ lwg, w.before args s = true) (hy : am_y mi' n) (hl : Cond.methodLink own idx mi'.1 ∈ lwg) (hR : (rmd d' mc' ms').frames + 1 ≤ R.frames ∧ 8 + (mi'.2.2.1 + 11) + (rmd d' mc' ms').locals ≤ R.locals) :
    CallB R s args own idx mi'.1 mi'.2.1 mi'.2.2.1 mi'.2.2.2 (mws mi') (rmd d' mc' ms') mc' ms' n :=
  callB_of n hts (goodIn_lwg (mws_good hy)) rfl rfl rfl (hts _ hy.2.1) (hts _ hl) hy.2.2.1 hR
theorem g_callV {idx k n ci d' mc' ms' : Nat} {mi' : am_M} {As As' : List Value} {Q' : Option Value → Nat → am_PT → am_IT → Prop} (hy : am_yV mi' n ci) (hl : Cond.methodLink mi.1.cls idx mi'.1 ∈ lwg) (hC : am_C l d' mc' ms' mi' (.ref k :: As) N P I Q') (hAs : As' = As.reverse ++ .ref k :: st) (hn : As.length = n) (hT : am_T k = .inr ci) (hkN : k < N) (hd : d' + 1 ≤ d) (hst : st.length ≤ 8) (hc : nc + mc' ≤ mc) (hs : ns + ms' ≤ ms) (hdg : decode mi.2.1 pc = .ok (.invokevirtual idx, 3))
    (kk : ∀ (v : Option Value) (N' : Nat) (P' : am_PT) (I' : am_IT), Q' v N' P' I' → G sc l d mc ms mi Q (pc + 3) ls (v.toList ++ st) N' P' I' (nc + mc') (ns + ms')) : G sc l d mc ms mi Q pc ls As' N P I nc ns := by
  intro p e s m args below meth c dC dI ca ad A H locs lsA ad0 N0 X hN h0
  subst hAs
  have Xr := X.stk (st' := st) (fun v hv => X.2.2.2.1 v (List.mem_append_right _ (List.mem_cons_of_mem _ hv)))
  obtain ⟨⟨hx, hb, hml, hr, hlk, hnm, hown, hts, hnw⟩, ⟨⟨hP, hD, hPB⟩, hK, hS, hA, hSX, hSC⟩, ⟨hbl, hbs, hL⟩⟩ := id X
  obtain ⟨hy0, hin, hsel, T, nf, hci⟩ := hy
  have hbA : ∀ v ∈ Value.ref k :: As, am_bv N v := fun v hv => hbs v (by
    rcases List.mem_cons.mp hv with h | h
    · rw [h]; exact List.mem_append_right _ List.mem_cons_self
    · exact List.mem_append_left _ (List.mem_reverse.mpr h))
  have hst2 : (As.reverse ++ .ref k :: st).map (cv ad) = (As.map (cv ad)).reverse ++ .ref (ad k) :: st.map (cv ad) := by
    rw [List.map_append, List.map_reverse]; rfl
  rw [hst2]
  refine am_go Xr hN h0 (va_runV (As := As.map (cv ad)) (b := ad k) (n := n) ⟨hx, hb, hml, hown, hts⟩ (hC dC dI ca ad H.size hbA) ⟨am_callB hts hy0 hl (am_room hd hy0.2.2.2), hts _ hin, hts _ hsel⟩ ⟨am_blind, va_recv hK hP hci (by rw [am_w_get hkN, am_e_obj hT]), fun U hU hW => am_pre X _ U hU hW⟩ rfl (by rw [List.length_map]; exact hn) hL.1.1 rfl (by rw [bdd_cat Xr.2.2.2.1]; show 2 * 0 + _ ≤ 8; omega) hdg ⟨hc, hs⟩) kk
theorem g_callS {idx n d' mc' ms' : Nat} {mi' : am_M} {As As' : List Value} {Q' : Option Value → Nat → am_PT → am_IT → Prop} (hy : am_yS mi' n) (hl : Cond.methodLink mi.1.cls idx mi'.1 ∈ lwg) (hC : am_C l d' mc' ms' mi' As N P I Q') (hAs : As' = As.reverse ++ st) (hn : As.length = n) (hd : d' + 1 ≤ d) (hst : st.length ≤ 8) (hc : nc + mc' ≤ mc) (hs : ns + ms' ≤ ms) (hdg : decode mi.2.1 pc = .ok (.invokestatic idx, 3))
    (kk : ∀ (v : Option Value) (N' : Nat) (P' : am_PT) (I' : am_IT), Q' v N' P' I' → G sc l d mc ms mi Q (pc + 3) ls (v.toList ++ st) N' P' I' (nc + mc') (ns + ms')) : G sc l d mc ms mi Q pc ls As' N P I nc ns := by
  intro p e s m args below meth c dC dI ca ad A H locs lsA ad0 N0 X hN h0
  subst hAs
  have Xr := X.stk (st' := st) (fun v hv => X.2.2.2.1 v (List.mem_append_right _ hv))
  obtain ⟨⟨hx, hb, hml, hr, hlk, hnm, hown, hts, hnw⟩, ⟨⟨hP, hD, hPB⟩, hK, hS, hA, hSX, hSC⟩, ⟨hbl, hbs, hL⟩⟩ := id X
  obtain ⟨hy0, hstt⟩ := hy
  have hbA : ∀ v ∈ As, am_bv N v := fun v hv => hbs v (List.mem_append_left _ (List.mem_reverse.mpr hv))
  have hst2 : (As.reverse ++ st).map (cv ad) = (As.map (cv ad)).reverse ++ st.map (cv ad) := by
    rw [List.map_append, List.map_reverse]
  rw [hst2]
  refine am_go Xr hN h0 (va_runS (As := As.map (cv ad)) (n := n) ⟨hx, hb, hml, hown, hts⟩ (hC dC dI ca ad H.size hbA) ⟨am_callB hts hy0 hl (am_room hd hy0.2.2.2), hts _ hstt⟩ ⟨am_blind, fun U hU hW => am_pre X _ U hU hW⟩ rfl (by rw [List.length_map]; exact hn) hL.1.1 rfl (by rw [bdd_cat Xr.2.2.2.1]; show 2 * 0 + _ ≤ 8; omega) hdg ⟨hc, hs⟩) kk
theorem g_callI {idx k n d' mc' ms' : Nat} {y' : MethodName} {b' : ByteArray} {nL' : Nat} {As As' : List Value} {Q' : Option Value → Nat → am_PT → am_IT → Prop} (hy : am_yI (y', b', nL', none) n) (hl : Cond.methodLink mi.1.cls idx y' ∈ lwg) (hC : am_C l d' mc' ms' (y', b', nL', none) (.ref k :: As) N P I Q') (hAs : As' = As.reverse ++ .ref k :: st) (hn : As.length = n) (hd : d' + 1 ≤ d) (hst : st.length ≤ 8) (hc : nc + mc' ≤ mc) (hs : ns + ms' ≤ ms) (hdg : decode mi.2.1 pc = .ok (.invokespecial idx, 3))
    (kk : ∀ (v : Option Value) (N' : Nat) (P' : am_PT) (I' : am_IT), Q' v N' P' I' → G sc l d mc ms mi Q (pc + 3) ls (v.toList ++ st) N' P' I' (nc + mc') (ns + ms')) : G sc l d mc ms mi Q pc ls As' N P I nc ns := by
  intro p e s m args below meth c dC dI ca ad A H locs lsA ad0 N0 X hN h0
  subst hAs
  have Xr := X.stk (st' := st) (fun v hv => X.2.2.2.1 v (List.mem_append_right _ (List.mem_cons_of_mem _ hv)))
  obtain ⟨⟨hx, hb, hml, hr, hlk, hnm, hown, hts, hnw⟩, ⟨⟨hP, hD, hPB⟩, hK, hS, hA, hSX, hSC⟩, ⟨hbl, hbs, hL⟩⟩ := id X
  obtain ⟨hy0, hin, hnam, hret⟩ := hy
  have hbA : ∀ v ∈ Value.ref k :: As, am_bv N v := fun v hv => hbs v (by
    rcases List.mem_cons.mp hv with h | h
    · rw [h]; exact List.mem_append_right _ List.mem_cons_self
    · exact List.mem_append_left _ (List.mem_reverse.mpr h))
  have hst2 : (As.reverse ++ .ref k :: st).map (cv ad) = (As.map (cv ad)).reverse ++ .ref (ad k) :: st.map (cv ad) := by
    rw [List.map_append, List.map_reverse]; rfl
  rw [hst2]
  refine am_go Xr hN h0 (va_runI (As := As.map (cv ad)) (b := ad k) (n := n) ⟨hx, hb, hml, hown, hts⟩ (hC dC dI ca ad H.size hbA) ⟨am_callB hts hy0 hl (am_room hd hy0.2.2.2), hnam, hts _ hin⟩ ⟨am_blind, fun U hU hW => am_pre X _ U hU hW⟩ rfl (by rw [List.length_map]; exact hn) hL.1.1 rfl (by rw [bdd_cat Xr.2.2.2.1]; show 2 * 0 + _ ≤ 8; omega) hdg ⟨hc, hs⟩) kk
theorem g_callIN {idx k n d' mc' ms' : Nat} {y' : MethodName} {b' : ByteArray} {nL' : Nat} {host : String} {As As' : List Value} {Q' : Option Value → Nat → am_PT → am_IT → Prop} (hy : am_yI (y', b', nL', none) n) (hl : (mi.1.cls, idx, y', host) ∈ am_nest) (hC : am_C l d' mc' ms' (y', b', nL', none) (.ref k :: As) N P I Q') (hAs : As' = As.reverse ++ .ref k :: st) (hn : As.length = n) (hd : d' + 1 ≤ d) (hst : st.length ≤ 8) (hc : nc + mc' ≤ mc) (hs : ns + ms' ≤ ms) (hdg : decode mi.2.1 pc = .ok (.invokespecial idx, 3))
    (kk : ∀ (v : Option Value) (N' : Nat) (P' : am_PT) (I' : am_IT), Q' v N' P' I' → G sc l d mc ms mi Q (pc + 3) ls (v.toList ++ st) N' P' I' (nc + mc') (ns + ms')) : G sc l d mc ms mi Q pc ls As' N P I nc ns := by
  intro p e s m args below meth c dC dI ca ad A H locs lsA ad0 N0 X hN h0
  subst hAs
  have Xr := X.stk (st' := st) (fun v hv => X.2.2.2.1 v (List.mem_append_right _ (List.mem_cons_of_mem _ hv)))
  obtain ⟨⟨hx, hb, hml, hr, hlk, hnm, hown, hts, hnw⟩, ⟨⟨hP, hD, hPB⟩, hK, hS, hA, hSX, hSC⟩, ⟨hbl, hbs, hL⟩⟩ := id X
  obtain ⟨hy0, hin, hnam, hret⟩ := hy
  have hbA : ∀ v ∈ Value.ref k :: As, am_bv N v := fun v hv => hbs v (by
    rcases List.mem_cons.mp hv with h | h
    · rw [h]; exact List.mem_append_right _ List.mem_cons_self
    · exact List.mem_append_left _ (List.mem_reverse.mpr h))
  have hst2 : (As.reverse ++ .ref k :: st).map (cv ad) = (As.map (cv ad)).reverse ++ .ref (ad k) :: st.map (cv ad) := by
    rw [List.map_append, List.map_reverse]; rfl
  rw [hst2]
  refine am_go Xr hN h0 (va_runIN (As := As.map (cv ad)) (b := ad k) (n := n) ⟨hx, hb, hml, hown, hts⟩ (hC dC dI ca ad H.size hbA) ⟨va_cnB n hts (goodIn_lwg (mws_good hy0)) rfl rfl rfl (hnw _ hl) (hts _ hy0.2.1) hy0.2.2.1 (am_room hd hy0.2.2.2), hnam, hts _ hin⟩ ⟨am_blind, fun U hU hW => am_pre X _ U hU hW⟩ rfl (by rw [List.length_map]; exact hn) hL.1.1 rfl (by rw [bdd_cat Xr.2.2.2.1]; show 2 * 0 + _ ≤ 8; omega) hdg ⟨hc, hs⟩) kk
theorem g_objInit {idx k : Nat} (hl : Cond.methodLink mi.1.cls idx Lib.objectInit ∈ lwg) (hq1 : Cond.instanceMethod Lib.objectInit ∈ lwg) (hq2 : Cond.code Lib.objectInit ⟨#[0xb1]⟩ 1 none ∈ lwg) (hd : 1 ≤ d) (hst : st.length ≤ 8) (hdg : decode mi.2.1 pc = .ok (.invokespecial idx, 3))
    (kk : G sc l d mc ms mi Q (pc + 3) ls st N P I nc ns) : G sc l d mc ms mi Q pc ls (.ref k :: st) N P I nc ns := by
  intro p e s m args below meth c dC dI ca ad A H locs lsA ad0 N0 X hN h0
  obtain ⟨⟨hx, hb, hml, hr, hlk, hnm, hown, hts, hnw⟩, ⟨⟨hP, hD, hPB⟩, hK, hS, hA, hSX, hSC⟩, ⟨hbl, hbs, hL⟩⟩ := id X
  refine W.objInit hx hb hown (hts _ hl) (hts _ hq1) (hts _ hq2) (g := F0 m pc lsA (.ref (ad k) :: st.map (cv ad))) rfl (hL.1.1.trans hml.symm) rfl hdg hd ?_ ?_
  · rw [bdd_cat (bdd_tl hbs)]
    show 2 * 0 + _ + 12 ≤ 41 * d + _
    omega
  · exact kk p e s m args below meth c dC dI ca ad A H locs lsA ad0 N0 (X.stk (bdd_tl hbs)) hN h0
theorem g_mmax {idx : Nat} {x y : Int32} (hl : Cond.methodLink mi.1.cls idx Lib.Math.max.name ∈ lwg) (hq1 : Cond.static Lib.Math.max.name ∈ lwg) (hq2 : Cond.initialized "java/lang/Math" ∈ lwg) (hq3 : Cond.code Lib.Math.max.name Lib.Math.max.code 2 (some .int) ∈ lwg) (hd : 1 ≤ d) (hst : st.length ≤ 8) (hc : nc ≤ mc) (hs : ns ≤ ms) (hdg : decode mi.2.1 pc = .ok (.invokestatic idx, 3))
    (kk : G sc l d mc ms mi Q (pc + 3) ls (.int (if x < y then y else x) :: st) N P I nc ns) : G sc l d mc ms mi Q pc ls (.int y :: .int x :: st) N P I nc ns := by
  intro p e s m args below meth c dC dI ca ad A H locs lsA ad0 N0 X hN h0
  obtain ⟨⟨hx, hb, hml, hr, hlk, hnm, hown, hts, hnw⟩, ⟨⟨hP, hD, hPB⟩, hK, hS, hA, hSX, hSC⟩, ⟨hbl, hbs, hL⟩⟩ := id X
  have hlo : ((st.map (cv ad)).map fun v => v.category).sum + 13 ≤ (rmd d mc ms).locals := by
    rw [bdd_cat (bdd_tl (bdd_tl hbs))]
    show _ ≤ 41 * d + _
    omega
  exact va_mmax (R := rmd d mc ms) hx hb (hml.trans hL.1.1.symm) hown (hts _ hl) (hts _ hq1) (hts _ hq2) (hts _ hq3) hd hlo hc hs hdg (kk p e s m args below meth c dC dI ca ad A H locs lsA ad0 N0 (X.stk (bdd_cons trivial (bdd_tl (bdd_tl hbs)))) hN h0)
theorem g_mmin {idx : Nat} {x y : Int32} (hl : Cond.methodLink mi.1.cls idx Lib.Math.min.name ∈ lwg) (hq1 : Cond.static Lib.Math.min.name ∈ lwg) (hq2 : Cond.initialized "java/lang/Math" ∈ lwg) (hq3 : Cond.code Lib.Math.min.name Lib.Math.min.code 2 (some .int) ∈ lwg) (hd : 1 ≤ d) (hst : st.length ≤ 8) (hc : nc ≤ mc) (hs : ns ≤ ms) (hdg : decode mi.2.1 pc = .ok (.invokestatic idx, 3))
    (kk : G sc l d mc ms mi Q (pc + 3) ls (.int (if y < x then y else x) :: st) N P I nc ns) : G sc l d mc ms mi Q pc ls (.int y :: .int x :: st) N P I nc ns := by
  intro p e s m args below meth c dC dI ca ad A H locs lsA ad0 N0 X hN h0
  obtain ⟨⟨hx, hb, hml, hr, hlk, hnm, hown, hts, hnw⟩, ⟨⟨hP, hD, hPB⟩, hK, hS, hA, hSX, hSC⟩, ⟨hbl, hbs, hL⟩⟩ := id X
  have hlo : ((st.map (cv ad)).map fun v => v.category).sum + 13 ≤ (rmd d mc ms).locals := by
    rw [bdd_cat (bdd_tl (bdd_tl hbs))]
    show _ ≤ 41 * d + _
    omega
  exact va_mmin (R := rmd d mc ms) hx hb (hml.trans hL.1.1.symm) hown (hts _ hl) (hts _ hq1) (hts _ hq2) (hts _ hq3) hd hlo hc hs hdg (kk p e s m args below meth c dC dI ca ad A H locs lsA ad0 N0 (X.stk (bdd_cons trivial (bdd_tl (bdd_tl hbs)))) hN h0)
/-- from the body to the contract -/
theorem am_body {args : List Value} {n : Nat} (hlw : mi.1.name ≠ "law") (hpn : plainName mi.1.cls = true) (hlen : args.length + n = mi.2.2.1) (kk : G sc l d mc ms mi Q 0 (args ++ List.replicate n .null) [] N P I 0 0) : am_C l d mc ms mi args N P I Q := by
  intro dC dI ca ad sz hb
  refine Met.ofW (cc := mi.2.1) (maxL := mi.2.2.1) (ret := mi.2.2.2) hpn rfl ?_
  intro p e s m av below meth c s₁ B hml hv
  obtain ⟨rfl, hsz, ⟨hP, hD0, hPB⟩, hK, hnw, hSX⟩ := hv
  have hx := B.exec
  have hbb := B.bytes
  have hr := B.returns
  have hts := atoms_spec (ws := mws mi) B.pre
  have hown : s.vm.findClass mi.1.cls = some m.cls := findClass_of_methodNamed B.named
  have hlocks := B.notSynchronized
  have hnm : meth.name = mi.1.name := (name_of_methodNamed B.named B.method).1
  subst hsz
  have hD := hD0.self (sz := s.heap.size)
  have hA : ∀ q : Nat, s.heap.size ≤ q → va_A (am_w ad ca N P I) s.heap.size q := fun q h => Or.inr h
  have hsl : ∀ (vs : List Value), (∀ v ∈ vs, am_bv N v) → (lg_sl (vs.map (cv ad))).length = vs.length := by
    intro vs
    induction vs with
    | nil => intro _; rfl
    | cons v vs ih =>
      intro h
      have hc : ¬ (cv ad v).category = 2 := by rw [cv_cat, (bdd_hd h).cat]; decide
      show (List.flatMap _ _).length = _
      rw [List.map_cons, List.flatMap_cons, if_neg hc, List.length_append]
      have := ih (bdd_tl h)
      show 1 + (lg_sl (vs.map (cv ad))).length = _
      rw [this, List.length_cons]
      omega
  have hl := lv_entry (args.map (cv ad)) (n := mi.2.2.1) (by rw [hsl args hb]; omega)
  rw [lg_entry_eq]
  generalize (lg_sl (args.map (cv ad)) ++ List.replicate (mi.2.2.1 - (lg_sl (args.map (cv ad))).length) Slot.unset).toArray = lsA at hl ⊢
  have hga : ∀ (vs : List Value) (j i : Nat) (v : Value), (∀ w ∈ vs, am_bv N w) → vs[i]? = some v → (j + i, cv ad v) ∈ lv_args j (vs.map (cv ad)) := by
    intro vs
    induction vs with
    | nil => intro j i v _ h; simp at h
    | cons w vs ih =>
      intro j i v h hi
      have hc : ¬ (cv ad w).category = 2 := by rw [cv_cat, (bdd_hd h).cat]; decide
      rw [List.map_cons, lv_args, if_neg hc]
      cases i with
      | zero =>
        rw [List.getElem?_cons_zero] at hi
        cases hi
        exact List.mem_cons_self
      | succ i =>
        rw [List.getElem?_cons_succ] at hi
        have := ih (j + 1) i v (bdd_tl h) hi
        rw [show j + 1 + i = j + (i + 1) by omega] at this
        exact List.mem_cons_of_mem _ this
  have hL : am_L ad mi.2.2.1 (args ++ List.replicate n .null) lsA := by
    refine ⟨⟨hl.1, hl.2.1, fun q hq => ?_⟩, by simp; omega⟩
    obtain ⟨v, h1, h2, h3⟩ := am_ll_mem.mp hq
    by_cases hlt : q.1 < args.length
    · rw [List.getElem?_append_left hlt] at h1
      have := hga args 0 q.1 v hb h1
      rw [Nat.zero_add] at this
      rw [h3]
      exact hl.2.2 _ this
    · rw [List.getElem?_append_right (by omega)] at h1
      exact absurd (List.eq_of_mem_replicate (List.mem_of_getElem? h1)) h2
  exact kk p e s m _ below meth c dC dI ca ad _ s.heap [] lsA ad N ⟨⟨hx, hbb, hml, hr, hlocks, hnm, hown, fun w hw => hts w (List.mem_cons_of_mem _ hw), hnw⟩, ⟨⟨hP, hD, hPB⟩, hK, va_S.rf, hA, hSX, fun z => absurd z hlw⟩, fun v hv => by
    rcases List.mem_append.mp hv with h | h
    · exact hb v h
    · rw [List.eq_of_mem_replicate h]; exact trivial, fun v hv => absurd hv List.not_mem_nil, hL⟩ (Nat.le_refl _) (fun _ _ => rfl)
end GC
