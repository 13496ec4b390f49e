/-! AM: abstract cells by number; values of the machine with numbers in place of addresses -/
abbrev am_M : Type := MethodName × ByteArray × Nat × Option FieldType
abbrev am_PT : Type := Nat → Nat → Option Nat
abbrev am_IT : Type := Nat → Nat → Int32
def am_lt : List (Nat ⊕ Nat) := [.inr 11, .inr 9, .inl 4, .inl 7, .inl 7, .inl 56, .inl 60, .inl 28, .inl 28, .inl 7, .inl 49, .inr 6, .inl 16, .inl 16, .inl 400, .inr 1, .inl 112, .inl 16, .inr 5, .inl 9, .inl 81, .inl 9, .inl 9, .inr 8, .inl 56, .inr 2, .inl 7, .inl 28, .inl 6, .inl 32, .inr 0, .inl 7, .inl 28, .inl 49, .inl 7, .inl 7, .inr 10, .inl 7, .inl 28, .inl 28, .inr 4, .inl 7, .inl 7, .inr 3, .inl 7, .inl 56, .inl 256, .inr 7, .inr 6, .inl 16, .inl 16, .inl 400, .inl 401, .inl 401, .inl 400, .inr 12, .inl 4, .inl 7, .inl 56, .inl 20, .inl 20, .inl 20, .inl 20, .inl 28, .inl 28, .inl 7, .inl 49, .inl 40, .inl 40, .inl 40, .inl 9, .inl 9, .inl 35, .inl 400, .inl 85, .inl 32, .inl 32, .inl 32, .inl 800, .inl 800, .inl 40, .inl 6, .inl 420, .inl 56, .inl 4, .inl 7, .inl 7, .inl 7, .inl 2048, .inl 7, .inl 4, .inl 9, .inl 9, .inl 1450, .inr 9, .inl 4, .inl 7, .inl 7, .inl 56, .inl 60, .inl 28, .inl 28, .inl 7, .inl 49, .inr 6, .inl 16, .inl 16, .inl 400, .inr 1, .inl 112, .inl 16, .inr 5, .inl 9, .inl 81, .inl 9, .inl 9]
def am_T (k : Nat) : Nat ⊕ Nat := am_lt.getD k (.inl 0)
def am_nf : List Nat := [8, 3, 8, 5, 6, 8, 5, 8, 2, 18, 5, 13, 68]
def am_fr : List (List Bool) := [[true, true, true, true, true, true, true, false], [false, true, true], [true, false, false, true, true, true, true, true], [true, true, true, true, true], [false, false, true, true, true, true], [true, true, true, true, false, false, false, false], [false, false, true, true, true], [true, false, false, true, true, false, false, false], [true, true], [false, false, false, false, false, false, true, true, true, true, true, true, true, true, true, true, true, true], [true, true, true, true, true], [true, true, true, true, true, true, true, true, true, false, false, false, true], [false, false, false, true, false, false, true, true, false, true, true, true, true, false, true, true, true, true, false, true, true, true, true, true, true, true, false, false, false, false, false, true, false, true, true, true, true, true, false, false, true, false, false, false, false, false, true, true, true, false, false, true, false, false, true, true, true, true, true, true, true, true, false, false, false, false, false, true]]
def am_R (ci j : Nat) : Bool := (am_fr.getD ci []).getD j false
def am_nest : List (String × Nat × MethodName × String) := [("PaintedByOthers", 11, ⟨"PaintedByOthers$Town", "<init>", "()V"⟩, "PaintedByOthers"), ("PaintedByOthers$Town", 60, ⟨"PaintedByOthers$Rule", "<init>", "()V"⟩, "PaintedByOthers"), ("PaintedByOthers$Town", 67, ⟨"PaintedByOthers$Deeds", "<init>", "()V"⟩, "PaintedByOthers"), ("PaintedByOthers$Town", 74, ⟨"PaintedByOthers$Places", "<init>", "()V"⟩, "PaintedByOthers"), ("PaintedByOthers", 64, ⟨"PaintedByOthers$RuleReader", "<init>", "()V"⟩, "PaintedByOthers"), ("PaintedByOthers$RuleReader", 11, ⟨"PaintedByOthers$Rule", "<init>", "()V"⟩, "PaintedByOthers")]
def lwg : List Cond := lw_tbl.filter goodWord
theorem mem_lwg {w : Cond} (h : w ∈ lw_tbl) (hg : goodWord w = true) : w ∈ lwg := List.mem_filter.mpr ⟨h, hg⟩
theorem goodIn_lwg {ws : List Cond} (h : ∀ w ∈ ws, w ∈ lwg) : GoodIn lwg ws := fun w hw => ⟨h w hw, good_of_word (List.mem_filter.mp (h w hw)).2⟩
def up2 {α : Type} (f : Nat → Nat → α) (k j : Nat) (v : α) : Nat → Nat → α := fun k' j' => if k' = k ∧ j' = j then v else f k' j'
def am_fv (ad : Nat → Nat) (ci k : Nat) (P : am_PT) (I : am_IT) (j : Nat) : Value := if am_R ci j = true then va_rf ((P k j).map ad) else .int (I k j)
def am_fs (ad : Nat → Nat) (ci k : Nat) (P : am_PT) (I : am_IT) : List Value := (List.range (am_nf.getD ci 0)).map (am_fv ad ci k P I)
def am_e (ad : Nat → Nat) (ca : ClassId) (P : am_PT) (I : am_IT) (k : Nat) : va_E := match am_T k with
  | .inl n => .inl (ca, n, .inl (I k))
  | .inr ci => .inr (ci, am_fs ad ci k P I)
def am_w (ad : Nat → Nat) (ca : ClassId) (N : Nat) (P : am_PT) (I : am_IT) : va_W := (List.range N).map (fun k => (ad k, am_e ad ca P I k))
theorem am_w_get {ad : Nat → Nat} {ca : ClassId} {N : Nat} {P : am_PT} {I : am_IT} {k : Nat} (h : k < N) : (am_w ad ca N P I)[k]? = some (ad k, am_e ad ca P I k) := by simp [am_w, h]
theorem am_w_len {ad : Nat → Nat} {ca : ClassId} {N : Nat} {P : am_PT} {I : am_IT} : (am_w ad ca N P I).length = N := by simp [am_w]
theorem am_w_set {ad : Nat → Nat} {ca : ClassId} {N : Nat} {P P' : am_PT} {I I' : am_IT} {k : Nat} (he : ∀ j, j ≠ k → am_e ad ca P' I' j = am_e ad ca P I j) : (am_w ad ca N P I).set k (ad k, am_e ad ca P' I' k) = am_w ad ca N P' I' := by
  apply List.ext_getElem?
  intro i
  rw [List.getElem?_set]
  by_cases hik : k = i
  · subst hik
    by_cases hn : k < N
    · simp [am_w, hn]
    · simp [am_w, hn]
  · rw [if_neg hik]
    by_cases hn : i < N
    · rw [am_w_get hn, am_w_get hn, he i (fun h => hik h.symm)]
    · rw [List.getElem?_eq_none (by rw [am_w_len]; omega), List.getElem?_eq_none (by rw [am_w_len]; omega)]
theorem am_e_arr {ad : Nat → Nat} {ca : ClassId} {P : am_PT} {I : am_IT} {k n : Nat} (h : am_T k = .inl n) : am_e ad ca P I k = .inl (ca, n, .inl (I k)) := by unfold am_e; rw [h]
theorem am_e_obj {ad : Nat → Nat} {ca : ClassId} {P : am_PT} {I : am_IT} {k ci : Nat} (h : am_T k = .inr ci) : am_e ad ca P I k = .inr (ci, am_fs ad ci k P I) := by unfold am_e; rw [h]
theorem up2_row {I : am_IT} {k j : Nat} {v : Int32} : up2 I k j v k = upd (I k) j v := by
  funext q
  by_cases h : q = j
  · subst h; simp [up2, upd]
  · simp [up2, upd, h]
theorem up2_ne {α : Type} {I : Nat → Nat → α} {k j : Nat} {v : α} {q : Nat} (h : q ≠ k) : up2 I k j v q = I q := by
  funext i; simp [up2, h]
theorem am_e_congr {ad : Nat → Nat} {ca : ClassId} {P P' : am_PT} {I I' : am_IT} {k : Nat} (h1 : P' k = P k) (h2 : I' k = I k) : am_e ad ca P' I' k = am_e ad ca P I k := by
  unfold am_e am_fs am_fv
  rw [h1, h2]
/-- a number that stands for a cell, or for a text constant -/
def am_b (N k : Nat) : Prop := k < N ∨ 1000000 ≤ k
def am_bv (N : Nat) (v : Value) : Prop := match v with
  | .int _ => True
  | .ref k => am_b N k
  | .null => True
  | _ => False
def am_PB (N : Nat) (P : am_PT) : Prop := N ≤ 1000000 ∧ ∀ k j r : Nat, k < N → P k j = some r → am_b N r
def cv (ad : Nat → Nat) (v : Value) : Value := match v with
  | .ref k => .ref (ad k)
  | w => w
theorem am_b.mono {N N' k : Nat} (h : am_b N k) (hn : N ≤ N') : am_b N' k := h.elim (fun h => Or.inl (Nat.lt_of_lt_of_le h hn)) Or.inr
theorem am_bv.mono {N N' : Nat} {v : Value} (h : am_bv N v) (hn : N ≤ N') : am_bv N' v := by
  cases v <;> first | exact h | exact am_b.mono h hn
theorem am_bv.cat {N : Nat} {v : Value} (h : am_bv N v) : v.category = 1 := by
  cases v <;> first | rfl | exact h.elim
theorem cv_cat {ad : Nat → Nat} {v : Value} : (cv ad v).category = v.category := by
  cases v <;> rfl
theorem cv_eq {ad ad' : Nat → Nat} {N : Nat} {v : Value} (h : am_bv N v) (ha : ∀ k, am_b N k → ad' k = ad k) : cv ad' v = cv ad v := by
  cases v <;> first | rfl | exact congrArg Value.ref (ha _ h)
theorem cv_map_eq {ad ad' : Nat → Nat} {N : Nat} : ∀ {l : List Value}, (∀ v ∈ l, am_bv N v) → (∀ k, am_b N k → ad' k = ad k) → l.map (cv ad') = l.map (cv ad)
  | [], _, _ => rfl
  | v :: l, h, ha => by rw [List.map_cons, List.map_cons, cv_eq (h v List.mem_cons_self) ha, cv_map_eq (fun w hw => h w (List.mem_cons_of_mem _ hw)) ha]
/-- the locals -/
def am_ll (ad : Nat → Nat) (ls : List Value) : List (Nat × Value) := (List.range ls.length).filterMap (fun i => match ls[i]? with
  | some Value.null => none
  | some v => some (i, cv ad v)
  | none => none)
theorem am_ll_mem {ad : Nat → Nat} {ls : List Value} {q : Nat × Value} : q ∈ am_ll ad ls ↔ ∃ v, ls[q.1]? = some v ∧ v ≠ .null ∧ q.2 = cv ad v := by
  unfold am_ll
  rw [List.mem_filterMap]
  constructor
  · rintro ⟨i, hi, h⟩
    cases hv : ls[i]? with
    | none => rw [hv] at h; cases h
    | some v =>
      rw [hv] at h
      cases v <;> first | (cases h; done) | (cases h; exact ⟨_, hv, fun z => Value.noConfusion z, rfl⟩)
  · rintro ⟨v, hv, hn, hq⟩
    have hl := (List.getElem?_eq_some_iff.mp hv).1
    refine ⟨q.1, List.mem_range.mpr hl, ?_⟩
    rw [hv]
    obtain ⟨i, w⟩ := q
    dsimp only at hq ⊢
    subst hq
    cases v <;> first | (exact absurd rfl hn) | rfl
def am_L (ad : Nat → Nat) (nL : Nat) (ls : List Value) (lsA : Array Slot) : Prop := lv_has lsA nL (am_ll ad ls) ∧ ls.length = nL
theorem am_L.get {ad : Nat → Nat} {nL : Nat} {ls : List Value} {lsA : Array Slot} (h : am_L ad nL ls lsA) {i : Nat} {v : Value} (hv : ls[i]? = some v) (hn : v ≠ .null) : lsA[i]? = some (.val (cv ad v)) :=
  h.1.2.2 (i, cv ad v) (am_ll_mem.mpr ⟨v, hv, hn, rfl⟩)
theorem am_L.move {ad ad' : Nat → Nat} {nL N : Nat} {ls : List Value} {lsA : Array Slot} (h : am_L ad nL ls lsA) (hb : ∀ v ∈ ls, am_bv N v) (ha : ∀ k, am_b N k → ad' k = ad k) : am_L ad' nL ls lsA :=
  ⟨⟨h.1.1, h.1.2.1, fun q hq => by
    obtain ⟨v, h1, h2, h3⟩ := am_ll_mem.mp hq
    exact h.1.2.2 q (am_ll_mem.mpr ⟨v, h1, h2, by rw [h3, cv_eq (hb v (List.mem_of_getElem? h1)) ha]⟩)⟩, h.2⟩
theorem am_L.set {ad : Nat → Nat} {nL N : Nat} {ls : List Value} {lsA ls' : Array Slot} {i : Nat} {v : Value} (h : am_L ad nL ls lsA) (hb : ∀ w ∈ ls, am_bv N w) (hv : am_bv N v)
    (h' : lv_has ls' nL ((i, cv ad v) :: (am_ll ad ls).filter (fun q => !(q.1 == i) && !(q.1 + 1 == i && q.2.category == 2)))) : am_L ad nL (ls.set i v) ls' := by
  refine ⟨⟨h'.1, h'.2.1, fun q hq => ?_⟩, by rw [List.length_set]; exact h.2⟩
  obtain ⟨w, h1, h2, h3⟩ := am_ll_mem.mp hq
  rw [List.getElem?_set] at h1
  by_cases hi : i = q.1
  · rw [if_pos hi] at h1
    split at h1
    · cases h1
      have := h'.2.2 (i, cv ad v) List.mem_cons_self
      rw [← hi, h3]
      exact this
    · cases h1
  · rw [if_neg hi] at h1
    refine h'.2.2 q (List.mem_cons_of_mem _ (List.mem_filter.mpr ⟨am_ll_mem.mpr ⟨w, h1, h2, h3⟩, ?_⟩))
    have hc : q.2.category = 1 := by rw [h3, cv_cat]; exact (hb w (List.mem_of_getElem? h1)).cat
    simp [hc]
    exact fun z => hi z.symm
theorem bdd_set {N : Nat} {ls : List Value} {i : Nat} {v : Value} (hb : ∀ w ∈ ls, am_bv N w) (hv : am_bv N v) : ∀ w ∈ ls.set i v, am_bv N w := fun w hw => by
  rcases List.mem_or_eq_of_mem_set hw with h | h
  · exact hb w h
  · rw [h]; exact hv
theorem bdd_cons {N : Nat} {st : List Value} {v : Value} (hv : am_bv N v) (hb : ∀ w ∈ st, am_bv N w) : ∀ w ∈ v :: st, am_bv N w := fun w hw => by
  rcases List.mem_cons.mp hw with h | h
  · rw [h]; exact hv
  · exact hb w h
theorem bdd_tl {N : Nat} {st : List Value} {v : Value} (hb : ∀ w ∈ v :: st, am_bv N w) : ∀ w ∈ st, am_bv N w := fun w hw => hb w (List.mem_cons_of_mem _ hw)
theorem bdd_hd {N : Nat} {st : List Value} {v : Value} (hb : ∀ w ∈ v :: st, am_bv N w) : am_bv N v := hb v List.mem_cons_self
theorem bdd_cat {N : Nat} {ad : Nat → Nat} : ∀ {l : List Value}, (∀ v ∈ l, am_bv N v) → ((l.map (cv ad)).map fun v => v.category).sum = l.length
  | [], _ => rfl
  | v :: l, h => by
    rw [List.map_cons, List.map_cons, List.sum_cons, bdd_cat (bdd_tl h), cv_cat, (bdd_hd h).cat, List.length_cons]
    omega
def rmd (d mc ms : Nat) : Room := { frames := d, cells := mc, slots := ms, locals := 41 * d + (if 2048 ≤ d then 32 else 0) }
def mws (mi : am_M) : List Cond := .code mi.1 mi.2.1 mi.2.2.1 mi.2.2.2 :: lwg
def am_nw (s : State) : Prop := ∀ w ∈ am_nest, va_Nw (.methodLinkNest w.1 w.2.1 w.2.2.1 w.2.2.2) s
/-! texts, statics, the script: what stands outside the world -/
def am_sl : List Nat := [84, 10]
def am_sb : List (List Int32) := [[98, 121, 32, 119, 104, 101, 110, 32, 111, 114, 32, 97, 110, 100, 32, 110, 111, 116, 32, 109, 111, 115, 116, 32, 119, 105, 110, 100, 111, 119, 32, 121, 97, 114, 100, 115, 32, 115, 117, 109, 32, 116, 117, 114, 110, 32, 107, 101, 101, 112, 32, 119, 97, 108, 108, 32, 115, 101, 101, 114, 115, 32, 97, 108, 108, 32, 103, 114, 101, 97, 116, 32, 99, 111, 108, 111, 117, 114, 32, 121, 101, 97, 114, 32], [59, 43, 45, 42, 47, 40, 41, 60, 61, 62]]
def am_SX (A : Nat → Prop) (ad : Nat → Nat) (U : State) (H : Heap) : Prop :=
  vk_S 2 am_sl am_sb (fun i => ad (1000000 + i)) (fun i => ad (1000010 + i)) A U H ∧ va_Z "java/lang/String" "COMPACT_STRINGS" "Z" (.int 1) A U H ∧
  (va_Z "jdk/internal/util/Preconditions" "SIOOBE_FORMATTER" "Ljava/util/function/BiFunction;" .null A U H ∨ va_Z "jdk/internal/util/Preconditions" "SIOOBE_FORMATTER" "Ljava/util/function/BiFunction;" (.ref (ad 1000020)) A U H) ∧
  vk_R "PaintedByOthers$RuleReader" 128 "by when or and not most window yards sum turn keep wall seers all great colour year " (ad 1000000) U ∧ vk_R "PaintedByOthers$RuleReader" 121 ";+-*/()<=>" (ad 1000001) U
theorem am_SX.cong {A : Nat → Prop} {ad ad' : Nat → Nat} {U : State} {H : Heap} (h : am_SX A ad U H) (ha : ∀ k, 1000000 ≤ k → ad' k = ad k) : am_SX A ad' U H := by
  have e1 : (fun i => ad' (1000000 + i)) = (fun i => ad (1000000 + i)) := funext fun i => ha _ (by omega)
  have e2 : (fun i => ad' (1000010 + i)) = (fun i => ad (1000010 + i)) := funext fun i => ha _ (by omega)
  unfold am_SX
  rw [e1, e2, ha 1000020 (by decide), ha 1000000 (by decide), ha 1000001 (by decide)]
  exact h
theorem am_SX.go {A B : Nat → Prop} {ad : Nat → Nat} {s U : State} {H : Heap} (h : am_SX A ad s s.heap) (hq : ∀ a : Nat, a < s.heap.size → ¬ A a → H[a]? = s.heap[a]?) (hW : s.WarmedH U.vm) (hAB : ∀ q, B q → A q) : am_SX B ad U H := by
  obtain ⟨h1, h2, h3, h4, h5⟩ := h
  refine ⟨((h1.kept hq).moved hW.alike).narrow hAB, ((h2.kept hq).moved hW.alike).narrow hAB, ?_, vk_R.warm hW h4, vk_R.warm hW h5⟩
  rcases h3 with h3 | h3
  · exact Or.inl (((h3.kept hq).moved hW.alike).narrow hAB)
  · exact Or.inr (((h3.kept hq).moved hW.alike).narrow hAB)
abbrev am_ST : Type := Nat × (Nat → Int32)
def am_scr (sc : am_ST) (mi : am_M) (A : Nat → Prop) (ad : Nat → Nat) (s : State) : Prop := mi.1.name = "law" → va_X (ad 1000030) sc.1 sc.2 s s.heap ∧ ad 1000030 < s.heap.size ∧ ¬ A (ad 1000030)
/-- the world of the abstract cells -/
def am_O (dC : Nat → ClassId) (dI : Nat → Nat → Nat) (ca : ClassId) (A : Nat → Prop) (ad : Nat → Nat) (N : Nat) (P : am_PT) (I : am_IT) (H : Heap) : Prop := va_P (dC, dI) vwCl (am_w ad ca N P I) H ∧ va_D A (am_w ad ca N P I) ∧ am_PB N P
def am_Q (dC : Nat → ClassId) (dI : Nat → Nat → Nat) (ca : ClassId) (A : Nat → Prop) (ad0 : Nat → Nat) (N0 : Nat) (Q : Option Value → Nat → am_PT → am_IT → Prop) : Array Value → State → Outcome → State → Prop := fun _ st oc t =>
  (∃ (v : Option Value) (N : Nat) (P : am_PT) (I : am_IT) (ad : Nat → Nat), oc = .returned (v.map (cv ad)) ∧ Q v N P I ∧ N0 ≤ N ∧ (∀ k, am_b N0 k → ad k = ad0 k) ∧ (∀ x, v = some x → am_bv N x) ∧ am_O dC dI ca A ad N P I t.heap ∧ va_K (dC, dI) vwCl [(ca, .int)] t) ∧ va_F A st t
/-- what holds of a frame of method mi -/
def am_H (sc : am_ST) (mi : am_M) (p : Program) (s : State) (m : MethodId) (args : Array Value) (meth : Method) (c : Code) (dC : Nat → ClassId) (dI : Nat → Nat → Nat) (ca : ClassId) (ad : Nat → Nat) (A : Nat → Prop) (H : Heap) (locs : List Loc) (lsA : Array Slot) (ls st : List Value) (N : Nat) (P : am_PT) (I : am_IT) : Prop :=
  (p.tables.exec = Jvm.exec ∧ c.code = mi.2.1 ∧ c.maxLocals = mi.2.2.1 ∧ meth.sig.returnType = mi.2.2.2 ∧ meth.locks = false ∧ meth.name = mi.1.name ∧ s.vm.findClass mi.1.cls = some m.cls ∧ (∀ w ∈ lwg, w.before args s = true) ∧ am_nw s) ∧
  (am_O dC dI ca A ad N P I H ∧ va_K (dC, dI) vwCl [(ca, .int)] s ∧ va_S A s.heap H locs ∧ (∀ q, s.heap.size ≤ q → A q) ∧ am_SX A ad s s.heap ∧ am_scr sc mi A ad s) ∧
  ((∀ v ∈ ls, am_bv N v) ∧ (∀ v ∈ st, am_bv N v) ∧ am_L ad mi.2.2.1 ls lsA)
def G (sc : am_ST) (l : Launch) (d mc ms : Nat) (mi : am_M) (Q : Option Value → Nat → am_PT → am_IT → Prop) (pc : Nat) (ls st : List Value) (N : Nat) (P : am_PT) (I : am_IT) (nc ns : Nat) : Prop :=
  ∀ (p : Program) (e : Env) (s : State) (m : MethodId) (args : Array Value) (below : List Frame) (meth : Method) (c : Code) (dC : Nat → ClassId) (dI : Nat → Nat → Nat) (ca : ClassId) (ad : Nat → Nat) (A : Nat → Prop) (H : Heap) (locs : List Loc) (lsA : Array Slot) (ad0 : Nat → Nat) (N0 : Nat),
    am_H sc mi p s m args meth c dC dI ca ad A H locs lsA ls st N P I → N0 ≤ N → (∀ k, am_b N0 k → ad k = ad0 k) →
    W p l e (rmd d mc ms) s m args below meth c H locs nc ns (MQ below (am_Q dC dI ca A ad0 N0 Q) args s mc ms A) (F0 m pc lsA (st.map (cv ad)))
def am_C (l : Launch) (d mc ms : Nat) (mi : am_M) (args : List Value) (N : Nat) (P : am_PT) (I : am_IT) (Q : Option Value → Nat → am_PT → am_IT → Prop) : Prop :=
  ∀ (dC : Nat → ClassId) (dI : Nat → Nat → Nat) (ca : ClassId) (ad : Nat → Nat) (sz : Nat), (∀ v ∈ args, am_bv N v) →
    Met l mi.1 (mws mi) (rmd d mc ms) (va_Pc (args.map (cv ad)) (fun U => U.heap.size = sz ∧ am_O dC dI ca (fun _ => True) ad N P I U.heap ∧ va_K (dC, dI) vwCl [(ca, .int)] U ∧ am_nw U ∧ am_SX (va_A (am_w ad ca N P I) sz) ad U U.heap))
      (am_Q dC dI ca (va_A (am_w ad ca N P I) sz) ad N Q) mc ms (va_A (am_w ad ca N P I) sz)
theorem am_C_mono {l : Launch} {d mc ms : Nat} {mi : am_M} {args : List Value} {N : Nat} {P : am_PT} {I : am_IT} {Q Q' : Option Value → Nat → am_PT → am_IT → Prop} (h : am_C l d mc ms mi args N P I Q) (hq : ∀ v N P I, Q v N P I → Q' v N P I) : am_C l d mc ms mi args N P I Q' := by
  intro dC dI ca ad sz hb
  refine MetFree.mono (h dC dI ca ad sz hb) (fun _ _ h => h) (fun _ _ _ _ _ h => h) ?_
  rintro a st o t - ⟨⟨⟨v, N2, P2, I2, ad2, g1, g2, g3⟩, g4⟩, g5⟩
  exact ⟨⟨⟨v, N2, P2, I2, ad2, g1, hq _ _ _ _ g2, g3⟩, g4⟩, g5⟩
