def am_tm (i : Nat) : Term := Term.string "PaintedByOthers$RuleReader" (if i = 0 then 128 else 121)
set_option maxRecDepth 100000 in
theorem am_flat0 : ((flatC (Jvm.Cond.and given_1 narrow_1)).drop 13).take 84 = (List.range 84).map (fun j => Cond.eq (.elem (.field (am_tm 0) "java/lang/String" "value" "[B") (.int (Int32.ofNat j))) (.int ((am_sb.getD 0 []).getD j 0))) := by decide +kernel
set_option maxRecDepth 100000 in
theorem am_flat1 : ((flatC (Jvm.Cond.and given_1 narrow_1)).drop 101).take 10 = (List.range 10).map (fun j => Cond.eq (.elem (.field (am_tm 1) "java/lang/String" "value" "[B") (.int (Int32.ofNat j))) (.int ((am_sb.getD 1 []).getD j 0))) := by decide +kernel
theorem am_two {P : Nat → Prop} (h0 : P 0) (h1 : P 1) : ∀ i, i < 2 → P i := fun i hi => by
  rcases (show i = 0 ∨ i = 1 by omega) with rfl | rfl
  · exact h0
  · exact h1
def am_ads (adK adV : Nat → Nat) (tF b : Nat) : Nat → Nat := fun k => if k = 1000000 then adK 0 else if k = 1000001 then adK 1 else if k = 1000010 then adV 0 else if k = 1000011 then adV 1 else if k = 1000020 then tF else b
theorem W.mono2 {p : Program} {l : Launch} {e : Env} {R : Room} {s : State} {m : MethodId} {args : Array Value} {below : List Frame} {meth : Method} {c : Code} {H : Heap} {locs : List Loc} {cells slots : Nat} {Q Q' : State → Prop} {g : JFrame} (h : W p l e R s m args below meth c H locs cells slots Q g) (hq : ∀ t, Q t → Q' t) : W p l e R s m args below meth c H locs cells slots Q' g := fun T hT X => by
  obtain ⟨t, a, b⟩ := h T hT X
  exact ⟨t, a, hq t b⟩
set_option maxRecDepth 100000 in
set_option maxHeartbeats 4000000 in
theorem am_SX_start {s : State} {b : Addr} {A : Nat → Prop} (hts : ∀ w ∈ lw_tbl, w.before #[Value.ref b] s = true) (hg : (Jvm.Cond.and given_1 narrow_1).before #[Value.ref b] s = true) (hA : ∀ a : Nat, a < s.heap.size → ¬ A a) : ∃ (ad : Nat → Nat), am_SX A ad s s.heap ∧ ad 1000030 = b := by
  have hf := flat_of_before _ hg
  have pk : ∀ (k : Nat) {w : Cond}, (flatC (Jvm.Cond.and given_1 narrow_1))[k]? = some w → w.before #[Value.ref b] s = true := fun k w h => hf w (List.mem_of_getElem? h)
  have e0 : ∀ j : Nat, j < 84 → (Cond.eq (.elem (.field (am_tm 0) "java/lang/String" "value" "[B") (.int (Int32.ofNat j))) (.int ((am_sb.getD 0 []).getD j 0))).before #[Value.ref b] s = true := fun j hj => by
    refine pk (13 + j) ?_
    have h2 := congrArg (fun q => q[j]?) am_flat0
    rw [List.getElem?_take, if_pos hj, List.getElem?_drop, List.getElem?_map, List.getElem?_range hj] at h2
    exact h2
  have e1 : ∀ j : Nat, j < 10 → (Cond.eq (.elem (.field (am_tm 1) "java/lang/String" "value" "[B") (.int (Int32.ofNat j))) (.int ((am_sb.getD 1 []).getD j 0))).before #[Value.ref b] s = true := fun j hj => by
    refine pk (101 + j) ?_
    have h2 := congrArg (fun q => q[j]?) am_flat1
    rw [List.getElem?_take, if_pos hj, List.getElem?_drop, List.getElem?_map, List.getElem?_range hj] at h2
    exact h2
  have hne : ∀ i j : Nat, i < 2 → j < 2 → i ≠ j → (Cond.not (Cond.eq (am_tm i) (am_tm j))).before #[Value.ref b] s = true ∨ (Cond.not (Cond.eq (am_tm j) (am_tm i))).before #[Value.ref b] s = true := by
    intro i j hi hj hij
    rcases (show (i = 0 ∧ j = 1) ∨ (i = 1 ∧ j = 0) by omega) with ⟨rfl, rfl⟩ | ⟨rfl, rfl⟩
    · exact Or.inl (pk 111 rfl)
    · exact Or.inr (pk 111 rfl)
  obtain ⟨adK, adV, hK, hE⟩ := vk_Sof (args := #[Value.ref b]) (s := s) (N := 2) (tm := am_tm) (len := am_sl) (byt := am_sb) (A := A) (am_two (by decide) (by decide))
    (am_two (pk 9 rfl) (pk 97 rfl)) (am_two (pk 10 rfl) (pk 98 rfl)) (am_two (pk 11 rfl) (pk 99 rfl)) (am_two (pk 12 rfl) (pk 100 rfl)) (am_two e0 e1)
    hne hA
  · have hC : va_Z "java/lang/String" "COMPACT_STRINGS" "Z" (.int 1) A s s.heap := va_Zof (args := #[Value.ref b]) (hts _ (mem_t3 (List.mem_of_getElem? (i := 104) (by decide +kernel)))) (hts _ (mem_t1 (List.mem_of_getElem? (i := 16) (by decide +kernel)))) (va_eqi (pk 4 rfl)) hA
    have hF : va_Zq "jdk/internal/util/Preconditions" "SIOOBE_FORMATTER" "Ljava/util/function/BiFunction;" A s s.heap := va_Zqof (args := #[Value.ref b]) (hts _ (mem_t3 (List.mem_of_getElem? (i := 120) (by decide +kernel)))) (hts _ (mem_t1 (List.mem_of_getElem? (i := 18) (by decide +kernel)))) (pk 5 rfl) hA
    have hr0 : vk_R "PaintedByOthers$RuleReader" 128 "by when or and not most window yards sum turn keep wall seers all great colour year " (adK 0) s := vk_R.of (hts _ (mem_t3 (List.mem_of_getElem? (i := 94) (by decide +kernel)))) (hE 0 (by decide))
    have hr1 : vk_R "PaintedByOthers$RuleReader" 121 ";+-*/()<=>" (adK 1) s := vk_R.of (hts _ (mem_t3 (List.mem_of_getElem? (i := 149) (by decide +kernel)))) (hE 1 (by decide))
    have mk : ∀ tF : Nat, vk_S 2 am_sl am_sb (fun i => am_ads adK adV tF b (1000000 + i)) (fun i => am_ads adK adV tF b (1000010 + i)) A s s.heap := fun tF =>
      ⟨am_two (hK.1 0 (by decide)) (hK.1 1 (by decide)), fun i j hi hj => by
        have key := hK.2 i j hi hj
        intro h
        apply key
        rcases (show i = 0 ∨ i = 1 by omega) with rfl | rfl <;> rcases (show j = 0 ∨ j = 1 by omega) with rfl | rfl <;> exact h⟩
    rcases hF with hF | ⟨t, hF⟩
    · exact ⟨am_ads adK adV 0 b, ⟨mk 0, hC, Or.inl hF, hr0, hr1⟩, rfl⟩
    · exact ⟨am_ads adK adV t b, ⟨mk t, hC, Or.inr hF, hr0, hr1⟩, rfl⟩
