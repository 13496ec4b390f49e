theorem mem_t0 {w : Cond} (h : w ∈ k2_sels lw_privs) : w ∈ lw_tbl := List.mem_append_left _ h
theorem mem_t1 {w : Cond} (h : w ∈ tables_1_1) : w ∈ lw_tbl := List.mem_append_right _ (List.mem_append_left _ h)
theorem mem_t2 {w : Cond} (h : w ∈ tables_1_2) : w ∈ lw_tbl := List.mem_append_right _ (List.mem_append_right _ (List.mem_append_left _ h))
theorem mem_t3 {w : Cond} (h : w ∈ tables_1_3) : w ∈ lw_tbl := List.mem_append_right _ (List.mem_append_right _ (List.mem_append_right _ (List.mem_append_left _ h)))
theorem mem_t4 {w : Cond} (h : w ∈ tables_1_4) : w ∈ lw_tbl := List.mem_append_right _ (List.mem_append_right _ (List.mem_append_right _ (List.mem_append_right _ (List.mem_append_left _ h))))
theorem mem_t5 {w : Cond} (h : w ∈ tables_1_5) : w ∈ lw_tbl := List.mem_append_right _ (List.mem_append_right _ (List.mem_append_right _ (List.mem_append_right _ (List.mem_append_right _ (List.mem_append_left _ h)))))
theorem mem_t6 {w : Cond} (h : w ∈ tables_1_6) : w ∈ lw_tbl := List.mem_append_right _ (List.mem_append_right _ (List.mem_append_right _ (List.mem_append_right _ (List.mem_append_right _ (List.mem_append_right _ (List.mem_append_left _ h))))))
theorem mem_t7 {w : Cond} (h : w ∈ tables_1_7) : w ∈ lw_tbl := List.mem_append_right _ (List.mem_append_right _ (List.mem_append_right _ (List.mem_append_right _ (List.mem_append_right _ (List.mem_append_right _ (List.mem_append_right _ (List.mem_append_left _ h)))))))
theorem mem_t8 {w : Cond} (h : w ∈ tables_1_8) : w ∈ lw_tbl := List.mem_append_right _ (List.mem_append_right _ (List.mem_append_right _ (List.mem_append_right _ (List.mem_append_right _ (List.mem_append_right _ (List.mem_append_right _ (List.mem_append_right _ (h))))))))
def am_okt (t : FieldType) (r : Bool) : Bool := match t with
  | .object _ => r
  | .array _ => r
  | .int => !r
  | .boolean => !r
  | _ => false
theorem am_okt_use {t : FieldType} {r : Bool} (h : am_okt t r = true) : (r = true → (∃ x, t = .object x) ∨ (∃ x, t = .array x)) ∧ (r = false → t = .int ∨ t = .boolean) := by
  cases t <;> cases r <;> first | (exact Bool.noConfusion h) | (exact ⟨fun _ => Or.inl ⟨_, rfl⟩, fun h => Bool.noConfusion h⟩) | (exact ⟨fun _ => Or.inr ⟨_, rfl⟩, fun h => Bool.noConfusion h⟩) | (exact ⟨fun h => Bool.noConfusion h, fun _ => Or.inl rfl⟩) | (exact ⟨fun h => Bool.noConfusion h, fun _ => Or.inr rfl⟩)
theorem kw_X0 : am_cls 0 RX0 TX0 8 tyX0 := ⟨rfl, rfl, fun w hw => by
  obtain ⟨k, hk, rfl⟩ := List.mem_map.mp hw
  exact (show ∀ k, k < 8 → u_lay RX0 TX0 k ∈ lwg from by
    intro k hk
    match k, hk with
    | 0, _ => exact mem_lwg (mem_t2 (List.mem_of_getElem? (i := 45) (by decide +kernel))) rfl
    | 1, _ => exact mem_lwg (mem_t2 (List.mem_of_getElem? (i := 47) (by decide +kernel))) rfl
    | 2, _ => exact mem_lwg (mem_t2 (List.mem_of_getElem? (i := 49) (by decide +kernel))) rfl
    | 3, _ => exact mem_lwg (mem_t2 (List.mem_of_getElem? (i := 51) (by decide +kernel))) rfl
    | 4, _ => exact mem_lwg (mem_t2 (List.mem_of_getElem? (i := 53) (by decide +kernel))) rfl
    | 5, _ => exact mem_lwg (mem_t2 (List.mem_of_getElem? (i := 55) (by decide +kernel))) rfl
    | 6, _ => exact mem_lwg (mem_t2 (List.mem_of_getElem? (i := 57) (by decide +kernel))) rfl
    | 7, _ => exact mem_lwg (mem_t2 (List.mem_of_getElem? (i := 59) (by decide +kernel))) rfl
    | k + 8, h => exact absurd h (by omega)) k (List.mem_range.mp hk), tyX0_ok, nmX0, fun k hk => am_okt_use ((show ∀ k, k < 8 → am_okt (tyX0 k) (am_R 0 k) = true by decide +kernel) k hk)⟩
theorem kw_X1 : am_cls 1 RX1 TX1 3 tyX1 := ⟨rfl, rfl, fun w hw => by
  obtain ⟨k, hk, rfl⟩ := List.mem_map.mp hw
  exact (show ∀ k, k < 3 → u_lay RX1 TX1 k ∈ lwg from by
    intro k hk
    match k, hk with
    | 0, _ => exact mem_lwg (mem_t1 (List.mem_of_getElem? (i := 75) (by decide +kernel))) rfl
    | 1, _ => exact mem_lwg (mem_t1 (List.mem_of_getElem? (i := 77) (by decide +kernel))) rfl
    | 2, _ => exact mem_lwg (mem_t1 (List.mem_of_getElem? (i := 79) (by decide +kernel))) rfl
    | k + 3, h => exact absurd h (by omega)) k (List.mem_range.mp hk), tyX1_ok, nmX1, fun k hk => am_okt_use ((show ∀ k, k < 3 → am_okt (tyX1 k) (am_R 1 k) = true by decide +kernel) k hk)⟩
theorem kw_X2 : am_cls 2 RX2 TX2 8 tyX2 := ⟨rfl, rfl, fun w hw => by
  obtain ⟨k, hk, rfl⟩ := List.mem_map.mp hw
  exact (show ∀ k, k < 8 → u_lay RX2 TX2 k ∈ lwg from by
    intro k hk
    match k, hk with
    | 0, _ => exact mem_lwg (mem_t2 (List.mem_of_getElem? (i := 13) (by decide +kernel))) rfl
    | 1, _ => exact mem_lwg (mem_t2 (List.mem_of_getElem? (i := 15) (by decide +kernel))) rfl
    | 2, _ => exact mem_lwg (mem_t2 (List.mem_of_getElem? (i := 17) (by decide +kernel))) rfl
    | 3, _ => exact mem_lwg (mem_t2 (List.mem_of_getElem? (i := 19) (by decide +kernel))) rfl
    | 4, _ => exact mem_lwg (mem_t2 (List.mem_of_getElem? (i := 21) (by decide +kernel))) rfl
    | 5, _ => exact mem_lwg (mem_t2 (List.mem_of_getElem? (i := 23) (by decide +kernel))) rfl
    | 6, _ => exact mem_lwg (mem_t2 (List.mem_of_getElem? (i := 25) (by decide +kernel))) rfl
    | 7, _ => exact mem_lwg (mem_t2 (List.mem_of_getElem? (i := 27) (by decide +kernel))) rfl
    | k + 8, h => exact absurd h (by omega)) k (List.mem_range.mp hk), tyX2_ok, nmX2, fun k hk => am_okt_use ((show ∀ k, k < 8 → am_okt (tyX2 k) (am_R 2 k) = true by decide +kernel) k hk)⟩
theorem kw_X3 : am_cls 3 RX3 TX3 5 tyX3 := ⟨rfl, rfl, fun w hw => by
  obtain ⟨k, hk, rfl⟩ := List.mem_map.mp hw
  exact (show ∀ k, k < 5 → u_lay RX3 TX3 k ∈ lwg from by
    intro k hk
    match k, hk with
    | 0, _ => exact mem_lwg (mem_t2 (List.mem_of_getElem? (i := 123) (by decide +kernel))) rfl
    | 1, _ => exact mem_lwg (mem_t2 (List.mem_of_getElem? (i := 125) (by decide +kernel))) rfl
    | 2, _ => exact mem_lwg (mem_t2 (List.mem_of_getElem? (i := 127) (by decide +kernel))) rfl
    | 3, _ => exact mem_lwg (mem_t2 (List.mem_of_getElem? (i := 129) (by decide +kernel))) rfl
    | 4, _ => exact mem_lwg (mem_t2 (List.mem_of_getElem? (i := 131) (by decide +kernel))) rfl
    | k + 5, h => exact absurd h (by omega)) k (List.mem_range.mp hk), tyX3_ok, nmX3, fun k hk => am_okt_use ((show ∀ k, k < 5 → am_okt (tyX3 k) (am_R 3 k) = true by decide +kernel) k hk)⟩
theorem kw_X4 : am_cls 4 RX4 TX4 6 tyX4 := ⟨rfl, rfl, fun w hw => by
  obtain ⟨k, hk, rfl⟩ := List.mem_map.mp hw
  exact (show ∀ k, k < 6 → u_lay RX4 TX4 k ∈ lwg from by
    intro k hk
    match k, hk with
    | 0, _ => exact mem_lwg (mem_t2 (List.mem_of_getElem? (i := 98) (by decide +kernel))) rfl
    | 1, _ => exact mem_lwg (mem_t2 (List.mem_of_getElem? (i := 100) (by decide +kernel))) rfl
    | 2, _ => exact mem_lwg (mem_t2 (List.mem_of_getElem? (i := 102) (by decide +kernel))) rfl
    | 3, _ => exact mem_lwg (mem_t2 (List.mem_of_getElem? (i := 104) (by decide +kernel))) rfl
    | 4, _ => exact mem_lwg (mem_t2 (List.mem_of_getElem? (i := 106) (by decide +kernel))) rfl
    | 5, _ => exact mem_lwg (mem_t2 (List.mem_of_getElem? (i := 108) (by decide +kernel))) rfl
    | k + 6, h => exact absurd h (by omega)) k (List.mem_range.mp hk), tyX4_ok, nmX4, fun k hk => am_okt_use ((show ∀ k, k < 6 → am_okt (tyX4 k) (am_R 4 k) = true by decide +kernel) k hk)⟩
theorem kw_X5 : am_cls 5 RX5 TX5 8 tyX5 := ⟨rfl, rfl, fun w hw => by
  obtain ⟨k, hk, rfl⟩ := List.mem_map.mp hw
  exact (show ∀ k, k < 8 → u_lay RX5 TX5 k ∈ lwg from by
    intro k hk
    match k, hk with
    | 0, _ => exact mem_lwg (mem_t1 (List.mem_of_getElem? (i := 100) (by decide +kernel))) rfl
    | 1, _ => exact mem_lwg (mem_t1 (List.mem_of_getElem? (i := 102) (by decide +kernel))) rfl
    | 2, _ => exact mem_lwg (mem_t1 (List.mem_of_getElem? (i := 104) (by decide +kernel))) rfl
    | 3, _ => exact mem_lwg (mem_t1 (List.mem_of_getElem? (i := 106) (by decide +kernel))) rfl
    | 4, _ => exact mem_lwg (mem_t1 (List.mem_of_getElem? (i := 108) (by decide +kernel))) rfl
    | 5, _ => exact mem_lwg (mem_t1 (List.mem_of_getElem? (i := 110) (by decide +kernel))) rfl
    | 6, _ => exact mem_lwg (mem_t1 (List.mem_of_getElem? (i := 112) (by decide +kernel))) rfl
    | 7, _ => exact mem_lwg (mem_t1 (List.mem_of_getElem? (i := 114) (by decide +kernel))) rfl
    | k + 8, h => exact absurd h (by omega)) k (List.mem_range.mp hk), tyX5_ok, nmX5, fun k hk => am_okt_use ((show ∀ k, k < 8 → am_okt (tyX5 k) (am_R 5 k) = true by decide +kernel) k hk)⟩
theorem kw_X6 : am_cls 6 RX6 TX6 5 tyX6 := ⟨rfl, rfl, fun w hw => by
  obtain ⟨k, hk, rfl⟩ := List.mem_map.mp hw
  exact (show ∀ k, k < 5 → u_lay RX6 TX6 k ∈ lwg from by
    intro k hk
    match k, hk with
    | 0, _ => exact mem_lwg (mem_t1 (List.mem_of_getElem? (i := 53) (by decide +kernel))) rfl
    | 1, _ => exact mem_lwg (mem_t1 (List.mem_of_getElem? (i := 55) (by decide +kernel))) rfl
    | 2, _ => exact mem_lwg (mem_t1 (List.mem_of_getElem? (i := 57) (by decide +kernel))) rfl
    | 3, _ => exact mem_lwg (mem_t1 (List.mem_of_getElem? (i := 59) (by decide +kernel))) rfl
    | 4, _ => exact mem_lwg (mem_t1 (List.mem_of_getElem? (i := 61) (by decide +kernel))) rfl
    | k + 5, h => exact absurd h (by omega)) k (List.mem_range.mp hk), tyX6_ok, nmX6, fun k hk => am_okt_use ((show ∀ k, k < 5 → am_okt (tyX6 k) (am_R 6 k) = true by decide +kernel) k hk)⟩
theorem kw_X7 : am_cls 7 RX7 TX7 8 tyX7 := ⟨rfl, rfl, fun w hw => by
  obtain ⟨k, hk, rfl⟩ := List.mem_map.mp hw
  exact (show ∀ k, k < 8 → u_lay RX7 TX7 k ∈ lwg from by
    intro k hk
    match k, hk with
    | 0, _ => exact mem_lwg (mem_t2 (List.mem_of_getElem? (i := 153) (by decide +kernel))) rfl
    | 1, _ => exact mem_lwg (mem_t2 (List.mem_of_getElem? (i := 155) (by decide +kernel))) rfl
    | 2, _ => exact mem_lwg (mem_t2 (List.mem_of_getElem? (i := 157) (by decide +kernel))) rfl
    | 3, _ => exact mem_lwg (mem_t2 (List.mem_of_getElem? (i := 159) (by decide +kernel))) rfl
    | 4, _ => exact mem_lwg (mem_t2 (List.mem_of_getElem? (i := 161) (by decide +kernel))) rfl
    | 5, _ => exact mem_lwg (mem_t2 (List.mem_of_getElem? (i := 163) (by decide +kernel))) rfl
    | 6, _ => exact mem_lwg (mem_t2 (List.mem_of_getElem? (i := 165) (by decide +kernel))) rfl
    | 7, _ => exact mem_lwg (mem_t2 (List.mem_of_getElem? (i := 167) (by decide +kernel))) rfl
    | k + 8, h => exact absurd h (by omega)) k (List.mem_range.mp hk), tyX7_ok, nmX7, fun k hk => am_okt_use ((show ∀ k, k < 8 → am_okt (tyX7 k) (am_R 7 k) = true by decide +kernel) k hk)⟩
theorem kw_X8 : am_cls 8 RX8 TX8 2 tyX8 := ⟨rfl, rfl, fun w hw => by
  obtain ⟨k, hk, rfl⟩ := List.mem_map.mp hw
  exact (show ∀ k, k < 2 → u_lay RX8 TX8 k ∈ lwg from by
    intro k hk
    match k, hk with
    | 0, _ => exact mem_lwg (mem_t1 (List.mem_of_getElem? (i := 231) (by decide +kernel))) rfl
    | 1, _ => exact mem_lwg (mem_t1 (List.mem_of_getElem? (i := 233) (by decide +kernel))) rfl
    | k + 2, h => exact absurd h (by omega)) k (List.mem_range.mp hk), tyX8_ok, nmX8, fun k hk => am_okt_use ((show ∀ k, k < 2 → am_okt (tyX8 k) (am_R 8 k) = true by decide +kernel) k hk)⟩
theorem kw_X9 : am_cls 9 RX9 TX9 18 tyX9 := ⟨rfl, rfl, fun w hw => by
  obtain ⟨k, hk, rfl⟩ := List.mem_map.mp hw
  exact (show ∀ k, k < 18 → u_lay RX9 TX9 k ∈ lwg from by
    intro k hk
    match k, hk with
    | 0, _ => exact mem_lwg (mem_t1 (List.mem_of_getElem? (i := 186) (by decide +kernel))) rfl
    | 1, _ => exact mem_lwg (mem_t1 (List.mem_of_getElem? (i := 188) (by decide +kernel))) rfl
    | 2, _ => exact mem_lwg (mem_t1 (List.mem_of_getElem? (i := 190) (by decide +kernel))) rfl
    | 3, _ => exact mem_lwg (mem_t1 (List.mem_of_getElem? (i := 192) (by decide +kernel))) rfl
    | 4, _ => exact mem_lwg (mem_t1 (List.mem_of_getElem? (i := 194) (by decide +kernel))) rfl
    | 5, _ => exact mem_lwg (mem_t1 (List.mem_of_getElem? (i := 196) (by decide +kernel))) rfl
    | 6, _ => exact mem_lwg (mem_t1 (List.mem_of_getElem? (i := 198) (by decide +kernel))) rfl
    | 7, _ => exact mem_lwg (mem_t1 (List.mem_of_getElem? (i := 200) (by decide +kernel))) rfl
    | 8, _ => exact mem_lwg (mem_t1 (List.mem_of_getElem? (i := 202) (by decide +kernel))) rfl
    | 9, _ => exact mem_lwg (mem_t1 (List.mem_of_getElem? (i := 204) (by decide +kernel))) rfl
    | 10, _ => exact mem_lwg (mem_t1 (List.mem_of_getElem? (i := 206) (by decide +kernel))) rfl
    | 11, _ => exact mem_lwg (mem_t1 (List.mem_of_getElem? (i := 208) (by decide +kernel))) rfl
    | 12, _ => exact mem_lwg (mem_t1 (List.mem_of_getElem? (i := 210) (by decide +kernel))) rfl
    | 13, _ => exact mem_lwg (mem_t1 (List.mem_of_getElem? (i := 212) (by decide +kernel))) rfl
    | 14, _ => exact mem_lwg (mem_t1 (List.mem_of_getElem? (i := 214) (by decide +kernel))) rfl
    | 15, _ => exact mem_lwg (mem_t1 (List.mem_of_getElem? (i := 216) (by decide +kernel))) rfl
    | 16, _ => exact mem_lwg (mem_t1 (List.mem_of_getElem? (i := 218) (by decide +kernel))) rfl
    | 17, _ => exact mem_lwg (mem_t1 (List.mem_of_getElem? (i := 220) (by decide +kernel))) rfl
    | k + 18, h => exact absurd h (by omega)) k (List.mem_range.mp hk), tyX9_ok, nmX9, fun k hk => am_okt_use ((show ∀ k, k < 18 → am_okt (tyX9 k) (am_R 9 k) = true by decide +kernel) k hk)⟩
theorem kw_X10 : am_cls 10 RX10 TX10 5 tyX10 := ⟨rfl, rfl, fun w hw => by
  obtain ⟨k, hk, rfl⟩ := List.mem_map.mp hw
  exact (show ∀ k, k < 5 → u_lay RX10 TX10 k ∈ lwg from by
    intro k hk
    match k, hk with
    | 0, _ => exact mem_lwg (mem_t2 (List.mem_of_getElem? (i := 73) (by decide +kernel))) rfl
    | 1, _ => exact mem_lwg (mem_t2 (List.mem_of_getElem? (i := 75) (by decide +kernel))) rfl
    | 2, _ => exact mem_lwg (mem_t2 (List.mem_of_getElem? (i := 77) (by decide +kernel))) rfl
    | 3, _ => exact mem_lwg (mem_t2 (List.mem_of_getElem? (i := 79) (by decide +kernel))) rfl
    | 4, _ => exact mem_lwg (mem_t2 (List.mem_of_getElem? (i := 81) (by decide +kernel))) rfl
    | k + 5, h => exact absurd h (by omega)) k (List.mem_range.mp hk), tyX10_ok, nmX10, fun k hk => am_okt_use ((show ∀ k, k < 5 → am_okt (tyX10 k) (am_R 10 k) = true by decide +kernel) k hk)⟩
theorem kw_X11 : am_cls 11 RX11 TX11 13 tyX11 := ⟨rfl, rfl, fun w hw => by
  obtain ⟨k, hk, rfl⟩ := List.mem_map.mp hw
  exact (show ∀ k, k < 13 → u_lay RX11 TX11 k ∈ lwg from by
    intro k hk
    match k, hk with
    | 0, _ => exact mem_lwg (mem_t2 (List.mem_of_getElem? (i := 183) (by decide +kernel))) rfl
    | 1, _ => exact mem_lwg (mem_t2 (List.mem_of_getElem? (i := 185) (by decide +kernel))) rfl
    | 2, _ => exact mem_lwg (mem_t2 (List.mem_of_getElem? (i := 187) (by decide +kernel))) rfl
    | 3, _ => exact mem_lwg (mem_t2 (List.mem_of_getElem? (i := 189) (by decide +kernel))) rfl
    | 4, _ => exact mem_lwg (mem_t2 (List.mem_of_getElem? (i := 191) (by decide +kernel))) rfl
    | 5, _ => exact mem_lwg (mem_t2 (List.mem_of_getElem? (i := 193) (by decide +kernel))) rfl
    | 6, _ => exact mem_lwg (mem_t2 (List.mem_of_getElem? (i := 195) (by decide +kernel))) rfl
    | 7, _ => exact mem_lwg (mem_t2 (List.mem_of_getElem? (i := 197) (by decide +kernel))) rfl
    | 8, _ => exact mem_lwg (mem_t2 (List.mem_of_getElem? (i := 199) (by decide +kernel))) rfl
    | 9, _ => exact mem_lwg (mem_t2 (List.mem_of_getElem? (i := 201) (by decide +kernel))) rfl
    | 10, _ => exact mem_lwg (mem_t2 (List.mem_of_getElem? (i := 203) (by decide +kernel))) rfl
    | 11, _ => exact mem_lwg (mem_t2 (List.mem_of_getElem? (i := 205) (by decide +kernel))) rfl
    | 12, _ => exact mem_lwg (mem_t2 (List.mem_of_getElem? (i := 207) (by decide +kernel))) rfl
    | k + 13, h => exact absurd h (by omega)) k (List.mem_range.mp hk), tyX11_ok, nmX11, fun k hk => am_okt_use ((show ∀ k, k < 13 → am_okt (tyX11 k) (am_R 11 k) = true by decide +kernel) k hk)⟩
theorem kw_X12 : am_cls 12 RX12 TX12 68 tyX12 := ⟨rfl, rfl, fun w hw => by
  obtain ⟨k, hk, rfl⟩ := List.mem_map.mp hw
  exact (show ∀ k, k < 68 → u_lay RX12 TX12 k ∈ lwg from by
    intro k hk
    match k, hk with
    | 0, _ => exact mem_lwg (mem_t6 (List.mem_of_getElem? (i := 19) (by decide +kernel))) rfl
    | 1, _ => exact mem_lwg (mem_t6 (List.mem_of_getElem? (i := 21) (by decide +kernel))) rfl
    | 2, _ => exact mem_lwg (mem_t6 (List.mem_of_getElem? (i := 23) (by decide +kernel))) rfl
    | 3, _ => exact mem_lwg (mem_t6 (List.mem_of_getElem? (i := 25) (by decide +kernel))) rfl
    | 4, _ => exact mem_lwg (mem_t6 (List.mem_of_getElem? (i := 27) (by decide +kernel))) rfl
    | 5, _ => exact mem_lwg (mem_t6 (List.mem_of_getElem? (i := 29) (by decide +kernel))) rfl
    | 6, _ => exact mem_lwg (mem_t6 (List.mem_of_getElem? (i := 31) (by decide +kernel))) rfl
    | 7, _ => exact mem_lwg (mem_t6 (List.mem_of_getElem? (i := 33) (by decide +kernel))) rfl
    | 8, _ => exact mem_lwg (mem_t6 (List.mem_of_getElem? (i := 35) (by decide +kernel))) rfl
    | 9, _ => exact mem_lwg (mem_t6 (List.mem_of_getElem? (i := 37) (by decide +kernel))) rfl
    | 10, _ => exact mem_lwg (mem_t6 (List.mem_of_getElem? (i := 39) (by decide +kernel))) rfl
    | 11, _ => exact mem_lwg (mem_t6 (List.mem_of_getElem? (i := 41) (by decide +kernel))) rfl
    | 12, _ => exact mem_lwg (mem_t6 (List.mem_of_getElem? (i := 43) (by decide +kernel))) rfl
    | 13, _ => exact mem_lwg (mem_t6 (List.mem_of_getElem? (i := 45) (by decide +kernel))) rfl
    | 14, _ => exact mem_lwg (mem_t6 (List.mem_of_getElem? (i := 47) (by decide +kernel))) rfl
    | 15, _ => exact mem_lwg (mem_t6 (List.mem_of_getElem? (i := 49) (by decide +kernel))) rfl
    | 16, _ => exact mem_lwg (mem_t6 (List.mem_of_getElem? (i := 51) (by decide +kernel))) rfl
    | 17, _ => exact mem_lwg (mem_t6 (List.mem_of_getElem? (i := 53) (by decide +kernel))) rfl
    | 18, _ => exact mem_lwg (mem_t6 (List.mem_of_getElem? (i := 55) (by decide +kernel))) rfl
    | 19, _ => exact mem_lwg (mem_t6 (List.mem_of_getElem? (i := 57) (by decide +kernel))) rfl
    | 20, _ => exact mem_lwg (mem_t6 (List.mem_of_getElem? (i := 59) (by decide +kernel))) rfl
    | 21, _ => exact mem_lwg (mem_t6 (List.mem_of_getElem? (i := 61) (by decide +kernel))) rfl
    | 22, _ => exact mem_lwg (mem_t6 (List.mem_of_getElem? (i := 63) (by decide +kernel))) rfl
    | 23, _ => exact mem_lwg (mem_t6 (List.mem_of_getElem? (i := 65) (by decide +kernel))) rfl
    | 24, _ => exact mem_lwg (mem_t6 (List.mem_of_getElem? (i := 67) (by decide +kernel))) rfl
    | 25, _ => exact mem_lwg (mem_t6 (List.mem_of_getElem? (i := 69) (by decide +kernel))) rfl
    | 26, _ => exact mem_lwg (mem_t6 (List.mem_of_getElem? (i := 71) (by decide +kernel))) rfl
    | 27, _ => exact mem_lwg (mem_t6 (List.mem_of_getElem? (i := 73) (by decide +kernel))) rfl
    | 28, _ => exact mem_lwg (mem_t6 (List.mem_of_getElem? (i := 75) (by decide +kernel))) rfl
    | 29, _ => exact mem_lwg (mem_t6 (List.mem_of_getElem? (i := 77) (by decide +kernel))) rfl
    | 30, _ => exact mem_lwg (mem_t6 (List.mem_of_getElem? (i := 79) (by decide +kernel))) rfl
    | 31, _ => exact mem_lwg (mem_t6 (List.mem_of_getElem? (i := 81) (by decide +kernel))) rfl
    | 32, _ => exact mem_lwg (mem_t6 (List.mem_of_getElem? (i := 83) (by decide +kernel))) rfl
    | 33, _ => exact mem_lwg (mem_t6 (List.mem_of_getElem? (i := 85) (by decide +kernel))) rfl
    | 34, _ => exact mem_lwg (mem_t6 (List.mem_of_getElem? (i := 87) (by decide +kernel))) rfl
    | 35, _ => exact mem_lwg (mem_t6 (List.mem_of_getElem? (i := 89) (by decide +kernel))) rfl
    | 36, _ => exact mem_lwg (mem_t6 (List.mem_of_getElem? (i := 91) (by decide +kernel))) rfl
    | 37, _ => exact mem_lwg (mem_t6 (List.mem_of_getElem? (i := 93) (by decide +kernel))) rfl
    | 38, _ => exact mem_lwg (mem_t6 (List.mem_of_getElem? (i := 95) (by decide +kernel))) rfl
    | 39, _ => exact mem_lwg (mem_t6 (List.mem_of_getElem? (i := 97) (by decide +kernel))) rfl
    | 40, _ => exact mem_lwg (mem_t6 (List.mem_of_getElem? (i := 99) (by decide +kernel))) rfl
    | 41, _ => exact mem_lwg (mem_t6 (List.mem_of_getElem? (i := 101) (by decide +kernel))) rfl
    | 42, _ => exact mem_lwg (mem_t6 (List.mem_of_getElem? (i := 103) (by decide +kernel))) rfl
    | 43, _ => exact mem_lwg (mem_t6 (List.mem_of_getElem? (i := 105) (by decide +kernel))) rfl
    | 44, _ => exact mem_lwg (mem_t6 (List.mem_of_getElem? (i := 107) (by decide +kernel))) rfl
    | 45, _ => exact mem_lwg (mem_t6 (List.mem_of_getElem? (i := 109) (by decide +kernel))) rfl
    | 46, _ => exact mem_lwg (mem_t6 (List.mem_of_getElem? (i := 111) (by decide +kernel))) rfl
    | 47, _ => exact mem_lwg (mem_t6 (List.mem_of_getElem? (i := 113) (by decide +kernel))) rfl
    | 48, _ => exact mem_lwg (mem_t6 (List.mem_of_getElem? (i := 115) (by decide +kernel))) rfl
    | 49, _ => exact mem_lwg (mem_t6 (List.mem_of_getElem? (i := 117) (by decide +kernel))) rfl
    | 50, _ => exact mem_lwg (mem_t6 (List.mem_of_getElem? (i := 119) (by decide +kernel))) rfl
    | 51, _ => exact mem_lwg (mem_t6 (List.mem_of_getElem? (i := 121) (by decide +kernel))) rfl
    | 52, _ => exact mem_lwg (mem_t6 (List.mem_of_getElem? (i := 123) (by decide +kernel))) rfl
    | 53, _ => exact mem_lwg (mem_t6 (List.mem_of_getElem? (i := 125) (by decide +kernel))) rfl
    | 54, _ => exact mem_lwg (mem_t6 (List.mem_of_getElem? (i := 127) (by decide +kernel))) rfl
    | 55, _ => exact mem_lwg (mem_t6 (List.mem_of_getElem? (i := 129) (by decide +kernel))) rfl
    | 56, _ => exact mem_lwg (mem_t6 (List.mem_of_getElem? (i := 131) (by decide +kernel))) rfl
    | 57, _ => exact mem_lwg (mem_t6 (List.mem_of_getElem? (i := 133) (by decide +kernel))) rfl
    | 58, _ => exact mem_lwg (mem_t6 (List.mem_of_getElem? (i := 135) (by decide +kernel))) rfl
    | 59, _ => exact mem_lwg (mem_t6 (List.mem_of_getElem? (i := 137) (by decide +kernel))) rfl
    | 60, _ => exact mem_lwg (mem_t6 (List.mem_of_getElem? (i := 139) (by decide +kernel))) rfl
    | 61, _ => exact mem_lwg (mem_t6 (List.mem_of_getElem? (i := 141) (by decide +kernel))) rfl
    | 62, _ => exact mem_lwg (mem_t6 (List.mem_of_getElem? (i := 143) (by decide +kernel))) rfl
    | 63, _ => exact mem_lwg (mem_t6 (List.mem_of_getElem? (i := 145) (by decide +kernel))) rfl
    | 64, _ => exact mem_lwg (mem_t6 (List.mem_of_getElem? (i := 147) (by decide +kernel))) rfl
    | 65, _ => exact mem_lwg (mem_t6 (List.mem_of_getElem? (i := 149) (by decide +kernel))) rfl
    | 66, _ => exact mem_lwg (mem_t6 (List.mem_of_getElem? (i := 151) (by decide +kernel))) rfl
    | 67, _ => exact mem_lwg (mem_t6 (List.mem_of_getElem? (i := 153) (by decide +kernel))) rfl
    | k + 68, h => exact absurd h (by omega)) k (List.mem_range.mp hk), tyX12_ok, nmX12, fun k hk => am_okt_use ((show ∀ k, k < 68 → am_okt (tyX12 k) (am_R 12 k) = true by decide +kernel) k hk)⟩
theorem kf_X11_12 : am_fl RX11 12 11 0 (.object "PaintedByOthers$Town") true := ⟨_, _, _, _, kw_X11, by decide, rfl, rfl, (fun _ => rfl), mem_lwg (mem_t2 (List.mem_of_getElem? (i := 170) (by decide +kernel))) rfl⟩
theorem kf_X11_21 : am_fl RX11 21 11 1 (.object "PaintedByOthers$Sight") true := ⟨_, _, _, _, kw_X11, by decide, rfl, rfl, (fun _ => rfl), mem_lwg (mem_t2 (List.mem_of_getElem? (i := 171) (by decide +kernel))) rfl⟩
theorem kf_X11_30 : am_fl RX11 30 11 2 (.object "PaintedByOthers$Judge") true := ⟨_, _, _, _, kw_X11, by decide, rfl, rfl, (fun _ => rfl), mem_lwg (mem_t2 (List.mem_of_getElem? (i := 172) (by decide +kernel))) rfl⟩
theorem kf_X11_37 : am_fl RX11 37 11 3 (.object "PaintedByOthers$BestSearch") true := ⟨_, _, _, _, kw_X11, by decide, rfl, rfl, (fun _ => rfl), mem_lwg (mem_t2 (List.mem_of_getElem? (i := 173) (by decide +kernel))) rfl⟩
theorem kf_X11_44 : am_fl RX11 44 11 4 (.object "PaintedByOthers$Trader") true := ⟨_, _, _, _, kw_X11, by decide, rfl, rfl, (fun _ => rfl), mem_lwg (mem_t2 (List.mem_of_getElem? (i := 174) (by decide +kernel))) rfl⟩
theorem kf_X11_51 : am_fl RX11 51 11 5 (.object "PaintedByOthers$Payers") true := ⟨_, _, _, _, kw_X11, by decide, rfl, rfl, (fun _ => rfl), mem_lwg (mem_t2 (List.mem_of_getElem? (i := 175) (by decide +kernel))) rfl⟩
theorem kf_X11_58 : am_fl RX11 58 11 6 (.object "PaintedByOthers$Movers") true := ⟨_, _, _, _, kw_X11, by decide, rfl, rfl, (fun _ => rfl), mem_lwg (mem_t2 (List.mem_of_getElem? (i := 176) (by decide +kernel))) rfl⟩
theorem kf_X11_65 : am_fl RX11 65 11 7 (.object "PaintedByOthers$RuleReader") true := ⟨_, _, _, _, kw_X11, by decide, rfl, rfl, (fun _ => rfl), mem_lwg (mem_t2 (List.mem_of_getElem? (i := 177) (by decide +kernel))) rfl⟩
theorem kf_X11_69 : am_fl RX11 69 11 8 (.array .int) true := ⟨_, _, _, _, kw_X11, by decide, rfl, rfl, (fun _ => rfl), mem_lwg (mem_t2 (List.mem_of_getElem? (i := 178) (by decide +kernel))) rfl⟩
theorem kf_X11_73 : am_fl RX11 73 11 9 (.int) false := ⟨_, _, _, _, kw_X11, by decide, rfl, rfl, (fun h => Bool.noConfusion h), mem_lwg (mem_t2 (List.mem_of_getElem? (i := 179) (by decide +kernel))) rfl⟩
theorem kf_X11_77 : am_fl RX11 77 11 10 (.int) false := ⟨_, _, _, _, kw_X11, by decide, rfl, rfl, (fun h => Bool.noConfusion h), mem_lwg (mem_t2 (List.mem_of_getElem? (i := 180) (by decide +kernel))) rfl⟩
theorem kf_X11_80 : am_fl RX11 80 11 11 (.int) false := ⟨_, _, _, _, kw_X11, by decide, rfl, rfl, (fun h => Bool.noConfusion h), mem_lwg (mem_t2 (List.mem_of_getElem? (i := 181) (by decide +kernel))) rfl⟩
theorem kf_X11_83 : am_fl RX11 83 11 12 (.object "PaintedByOthers$Town") false := ⟨_, _, _, _, kw_X11, by decide, rfl, rfl, (fun h => Bool.noConfusion h), mem_lwg (mem_t2 (List.mem_of_getElem? (i := 182) (by decide +kernel))) rfl⟩
theorem kf_X11_86 : am_fl RX11 86 9 1 (.int) false := ⟨_, _, _, _, kw_X9, by decide, rfl, rfl, (fun h => Bool.noConfusion h), mem_lwg (mem_t1 (List.mem_of_getElem? (i := 123) (by decide +kernel))) rfl⟩
theorem kf_X11_101 : am_flr RX11 101 9 6 (.array .int) := ⟨_, _, _, _, kw_X9, by decide, rfl, mem_lwg (mem_t1 (List.mem_of_getElem? (i := 146) (by decide +kernel))) rfl⟩
theorem kf_X11_104 : am_fl RX11 104 9 3 (.int) false := ⟨_, _, _, _, kw_X9, by decide, rfl, rfl, (fun h => Bool.noConfusion h), mem_lwg (mem_t1 (List.mem_of_getElem? (i := 132) (by decide +kernel))) rfl⟩
theorem kf_X11_107 : am_flr RX11 107 9 7 (.array .int) := ⟨_, _, _, _, kw_X9, by decide, rfl, mem_lwg (mem_t1 (List.mem_of_getElem? (i := 152) (by decide +kernel))) rfl⟩
theorem kf_X11_113 : am_fl RX11 113 9 4 (.int) false := ⟨_, _, _, _, kw_X9, by decide, rfl, rfl, (fun h => Bool.noConfusion h), mem_lwg (mem_t1 (List.mem_of_getElem? (i := 139) (by decide +kernel))) rfl⟩
theorem kf_X11_120 : am_flr RX11 120 9 8 (.array .int) := ⟨_, _, _, _, kw_X9, by decide, rfl, mem_lwg (mem_t1 (List.mem_of_getElem? (i := 157) (by decide +kernel))) rfl⟩
theorem kf_X11_129 : am_flr RX11 129 9 9 (.array .int) := ⟨_, _, _, _, kw_X9, by decide, rfl, mem_lwg (mem_t1 (List.mem_of_getElem? (i := 161) (by decide +kernel))) rfl⟩
theorem kf_X11_132 : am_fl RX11 132 9 5 (.int) false := ⟨_, _, _, _, kw_X9, by decide, rfl, rfl, (fun h => Bool.noConfusion h), mem_lwg (mem_t1 (List.mem_of_getElem? (i := 143) (by decide +kernel))) rfl⟩
theorem kf_X11_135 : am_flr RX11 135 9 10 (.array .int) := ⟨_, _, _, _, kw_X9, by decide, rfl, mem_lwg (mem_t1 (List.mem_of_getElem? (i := 164) (by decide +kernel))) rfl⟩
theorem kf_X11_138 : am_fl RX11 138 9 2 (.int) false := ⟨_, _, _, _, kw_X9, by decide, rfl, rfl, (fun h => Bool.noConfusion h), mem_lwg (mem_t1 (List.mem_of_getElem? (i := 127) (by decide +kernel))) rfl⟩
theorem kf_X11_141 : am_flr RX11 141 9 13 (.array .int) := ⟨_, _, _, _, kw_X9, by decide, rfl, mem_lwg (mem_t1 (List.mem_of_getElem? (i := 175) (by decide +kernel))) rfl⟩
theorem kf_X11_144 : am_flr RX11 144 9 11 (.array .int) := ⟨_, _, _, _, kw_X9, by decide, rfl, mem_lwg (mem_t1 (List.mem_of_getElem? (i := 169) (by decide +kernel))) rfl⟩
theorem kf_X11_147 : am_flr RX11 147 9 12 (.array .int) := ⟨_, _, _, _, kw_X9, by decide, rfl, mem_lwg (mem_t1 (List.mem_of_getElem? (i := 172) (by decide +kernel))) rfl⟩
theorem kf_X11_150 : am_flr RX11 150 9 14 (.array .int) := ⟨_, _, _, _, kw_X9, by decide, rfl, mem_lwg (mem_t1 (List.mem_of_getElem? (i := 178) (by decide +kernel))) rfl⟩
theorem kf_X11_160 : am_fl RX11 160 7 1 (.int) false := ⟨_, _, _, _, kw_X7, by decide, rfl, rfl, (fun h => Bool.noConfusion h), mem_lwg (mem_t2 (List.mem_of_getElem? (i := 145) (by decide +kernel))) rfl⟩
theorem kf_X11_161 : am_fl RX11 161 7 2 (.int) false := ⟨_, _, _, _, kw_X7, by decide, rfl, rfl, (fun h => Bool.noConfusion h), mem_lwg (mem_t2 (List.mem_of_getElem? (i := 147) (by decide +kernel))) rfl⟩
theorem kf_X11_162 : am_flr RX11 162 9 15 (.object "PaintedByOthers$Rule") := ⟨_, _, _, _, kw_X9, by decide, rfl, mem_lwg (mem_t1 (List.mem_of_getElem? (i := 181) (by decide +kernel))) rfl⟩
theorem kf_X11_166 : am_flr RX11 166 7 0 (.object "PaintedByOthers$Rule") := ⟨_, _, _, _, kw_X7, by decide, rfl, mem_lwg (mem_t2 (List.mem_of_getElem? (i := 143) (by decide +kernel))) rfl⟩
theorem kf_X11_175 : am_fl RX11 175 6 0 (.int) false := ⟨_, _, _, _, kw_X6, by decide, rfl, rfl, (fun h => Bool.noConfusion h), mem_lwg (mem_t1 (List.mem_of_getElem? (i := 45) (by decide +kernel))) rfl⟩
theorem kf_X11_201 : am_fl RX11 201 2 1 (.int) false := ⟨_, _, _, _, kw_X2, by decide, rfl, rfl, (fun h => Bool.noConfusion h), mem_lwg (mem_t2 (List.mem_of_getElem? (i := 5) (by decide +kernel))) rfl⟩
theorem kf_X11_204 : am_fl RX11 204 2 2 (.int) false := ⟨_, _, _, _, kw_X2, by decide, rfl, rfl, (fun h => Bool.noConfusion h), mem_lwg (mem_t2 (List.mem_of_getElem? (i := 7) (by decide +kernel))) rfl⟩
theorem kf_X11_230 : am_fl RX11 230 4 0 (.int) false := ⟨_, _, _, _, kw_X4, by decide, rfl, rfl, (fun h => Bool.noConfusion h), mem_lwg (mem_t2 (List.mem_of_getElem? (i := 91) (by decide +kernel))) rfl⟩
theorem kf_X11_233 : am_fl RX11 233 4 1 (.int) false := ⟨_, _, _, _, kw_X4, by decide, rfl, rfl, (fun h => Bool.noConfusion h), mem_lwg (mem_t2 (List.mem_of_getElem? (i := 93) (by decide +kernel))) rfl⟩
theorem kf_X11_239 : am_flr RX11 239 3 0 (.array .int) := ⟨_, _, _, _, kw_X3, by decide, rfl, mem_lwg (mem_t2 (List.mem_of_getElem? (i := 118) (by decide +kernel))) rfl⟩
theorem kf_X11_248 : am_flr RX11 248 9 16 (.object "PaintedByOthers$Deeds") := ⟨_, _, _, _, kw_X9, by decide, rfl, mem_lwg (mem_t1 (List.mem_of_getElem? (i := 183) (by decide +kernel))) rfl⟩
theorem kf_X11_271 : am_flr RX11 271 9 17 (.object "PaintedByOthers$Places") := ⟨_, _, _, _, kw_X9, by decide, rfl, mem_lwg (mem_t1 (List.mem_of_getElem? (i := 185) (by decide +kernel))) rfl⟩
theorem kf_X11_275 : am_flr RX11 275 5 0 (.array .int) := ⟨_, _, _, _, kw_X5, by decide, rfl, mem_lwg (mem_t1 (List.mem_of_getElem? (i := 89) (by decide +kernel))) rfl⟩
theorem kf_X11_287 : am_fl RX11 287 5 6 (.int) false := ⟨_, _, _, _, kw_X5, by decide, rfl, rfl, (fun h => Bool.noConfusion h), mem_lwg (mem_t1 (List.mem_of_getElem? (i := 97) (by decide +kernel))) rfl⟩
theorem kf_X11_290 : am_fl RX11 290 5 7 (.int) false := ⟨_, _, _, _, kw_X5, by decide, rfl, rfl, (fun h => Bool.noConfusion h), mem_lwg (mem_t1 (List.mem_of_getElem? (i := 99) (by decide +kernel))) rfl⟩
theorem kf_X11_293 : am_flr RX11 293 5 3 (.array .int) := ⟨_, _, _, _, kw_X5, by decide, rfl, mem_lwg (mem_t1 (List.mem_of_getElem? (i := 93) (by decide +kernel))) rfl⟩
theorem kf_X11_301 : am_fl RX11 301 9 0 (.int) false := ⟨_, _, _, _, kw_X9, by decide, rfl, rfl, (fun h => Bool.noConfusion h), mem_lwg (mem_t1 (List.mem_of_getElem? (i := 121) (by decide +kernel))) rfl⟩
theorem kf_X11_304 : am_fl RX11 304 1 0 (.int) false := ⟨_, _, _, _, kw_X1, by decide, rfl, rfl, (fun h => Bool.noConfusion h), mem_lwg (mem_t1 (List.mem_of_getElem? (i := 72) (by decide +kernel))) rfl⟩
theorem kf_X11_311 : am_flr RX11 311 2 0 (.array .int) := ⟨_, _, _, _, kw_X2, by decide, rfl, mem_lwg (mem_t2 (List.mem_of_getElem? (i := 3) (by decide +kernel))) rfl⟩
theorem kf_X11_314 : am_flr RX11 314 0 0 (.array .int) := ⟨_, _, _, _, kw_X0, by decide, rfl, mem_lwg (mem_t2 (List.mem_of_getElem? (i := 37) (by decide +kernel))) rfl⟩
theorem kf_X0_9 : am_fl RX0 9 0 0 (.array .int) true := ⟨_, _, _, _, kw_X0, by decide, rfl, rfl, (fun _ => rfl), mem_lwg (mem_t2 (List.mem_of_getElem? (i := 36) (by decide +kernel))) rfl⟩
theorem kf_X0_15 : am_fl RX0 15 0 3 (.array .int) true := ⟨_, _, _, _, kw_X0, by decide, rfl, rfl, (fun _ => rfl), mem_lwg (mem_t2 (List.mem_of_getElem? (i := 40) (by decide +kernel))) rfl⟩
theorem kf_X0_18 : am_fl RX0 18 0 4 (.array .int) true := ⟨_, _, _, _, kw_X0, by decide, rfl, rfl, (fun _ => rfl), mem_lwg (mem_t2 (List.mem_of_getElem? (i := 41) (by decide +kernel))) rfl⟩
theorem kf_X0_21 : am_fl RX0 21 0 5 (.array .int) true := ⟨_, _, _, _, kw_X0, by decide, rfl, rfl, (fun _ => rfl), mem_lwg (mem_t2 (List.mem_of_getElem? (i := 42) (by decide +kernel))) rfl⟩
theorem kf_X0_24 : am_fl RX0 24 0 6 (.array .int) true := ⟨_, _, _, _, kw_X0, by decide, rfl, rfl, (fun _ => rfl), mem_lwg (mem_t2 (List.mem_of_getElem? (i := 43) (by decide +kernel))) rfl⟩
theorem kf_X0_27 : am_fl RX0 27 0 7 (.int) false := ⟨_, _, _, _, kw_X0, by decide, rfl, rfl, (fun h => Bool.noConfusion h), mem_lwg (mem_t2 (List.mem_of_getElem? (i := 44) (by decide +kernel))) rfl⟩
theorem kf_X0_31 : am_fl RX0 31 0 1 (.object "PaintedByOthers$Town") true := ⟨_, _, _, _, kw_X0, by decide, rfl, rfl, (fun _ => rfl), mem_lwg (mem_t2 (List.mem_of_getElem? (i := 38) (by decide +kernel))) rfl⟩
theorem kf_X0_35 : am_fl RX0 35 0 2 (.object "PaintedByOthers$Sight") true := ⟨_, _, _, _, kw_X0, by decide, rfl, rfl, (fun _ => rfl), mem_lwg (mem_t2 (List.mem_of_getElem? (i := 39) (by decide +kernel))) rfl⟩
theorem kf_X0_54 : am_fl RX0 54 9 3 (.int) false := ⟨_, _, _, _, kw_X9, by decide, rfl, rfl, (fun h => Bool.noConfusion h), mem_lwg (mem_t1 (List.mem_of_getElem? (i := 130) (by decide +kernel))) rfl⟩
theorem kf_X0_59 : am_flr RX0 59 9 6 (.array .int) := ⟨_, _, _, _, kw_X9, by decide, rfl, mem_lwg (mem_t1 (List.mem_of_getElem? (i := 145) (by decide +kernel))) rfl⟩
theorem kf_X0_69 : am_fl RX0 69 9 4 (.int) false := ⟨_, _, _, _, kw_X9, by decide, rfl, rfl, (fun h => Bool.noConfusion h), mem_lwg (mem_t1 (List.mem_of_getElem? (i := 138) (by decide +kernel))) rfl⟩
theorem kf_X0_97 : am_fl RX0 97 9 0 (.int) false := ⟨_, _, _, _, kw_X9, by decide, rfl, rfl, (fun h => Bool.noConfusion h), mem_lwg (mem_t1 (List.mem_of_getElem? (i := 120) (by decide +kernel))) rfl⟩
theorem kf_X0_104 : am_flr RX0 104 9 11 (.array .int) := ⟨_, _, _, _, kw_X9, by decide, rfl, mem_lwg (mem_t1 (List.mem_of_getElem? (i := 168) (by decide +kernel))) rfl⟩
theorem kf_X0_107 : am_flr RX0 107 9 8 (.array .int) := ⟨_, _, _, _, kw_X9, by decide, rfl, mem_lwg (mem_t1 (List.mem_of_getElem? (i := 158) (by decide +kernel))) rfl⟩
theorem kf_X1_9 : am_fl RX1 9 1 0 (.int) false := ⟨_, _, _, _, kw_X1, by decide, rfl, rfl, (fun h => Bool.noConfusion h), mem_lwg (mem_t1 (List.mem_of_getElem? (i := 71) (by decide +kernel))) rfl⟩
theorem kf_X1_15 : am_fl RX1 15 1 1 (.array .int) true := ⟨_, _, _, _, kw_X1, by decide, rfl, rfl, (fun _ => rfl), mem_lwg (mem_t1 (List.mem_of_getElem? (i := 73) (by decide +kernel))) rfl⟩
theorem kf_X1_19 : am_fl RX1 19 1 2 (.array .int) true := ⟨_, _, _, _, kw_X1, by decide, rfl, rfl, (fun _ => rfl), mem_lwg (mem_t1 (List.mem_of_getElem? (i := 74) (by decide +kernel))) rfl⟩
theorem kf_X2_9 : am_fl RX2 9 2 0 (.array .int) true := ⟨_, _, _, _, kw_X2, by decide, rfl, rfl, (fun _ => rfl), mem_lwg (mem_t2 (List.mem_of_getElem? (i := 2) (by decide +kernel))) rfl⟩
theorem kf_X2_15 : am_fl RX2 15 2 1 (.int) false := ⟨_, _, _, _, kw_X2, by decide, rfl, rfl, (fun h => Bool.noConfusion h), mem_lwg (mem_t2 (List.mem_of_getElem? (i := 4) (by decide +kernel))) rfl⟩
theorem kf_X2_19 : am_fl RX2 19 2 2 (.int) false := ⟨_, _, _, _, kw_X2, by decide, rfl, rfl, (fun h => Bool.noConfusion h), mem_lwg (mem_t2 (List.mem_of_getElem? (i := 6) (by decide +kernel))) rfl⟩
theorem kf_X2_22 : am_fl RX2 22 2 5 (.array .int) true := ⟨_, _, _, _, kw_X2, by decide, rfl, rfl, (fun _ => rfl), mem_lwg (mem_t2 (List.mem_of_getElem? (i := 10) (by decide +kernel))) rfl⟩
theorem kf_X2_25 : am_fl RX2 25 2 6 (.array .int) true := ⟨_, _, _, _, kw_X2, by decide, rfl, rfl, (fun _ => rfl), mem_lwg (mem_t2 (List.mem_of_getElem? (i := 11) (by decide +kernel))) rfl⟩
theorem kf_X2_28 : am_fl RX2 28 2 7 (.array .int) true := ⟨_, _, _, _, kw_X2, by decide, rfl, rfl, (fun _ => rfl), mem_lwg (mem_t2 (List.mem_of_getElem? (i := 12) (by decide +kernel))) rfl⟩
theorem kf_X2_31 : am_fl RX2 31 2 3 (.object "PaintedByOthers$Town") true := ⟨_, _, _, _, kw_X2, by decide, rfl, rfl, (fun _ => rfl), mem_lwg (mem_t2 (List.mem_of_getElem? (i := 8) (by decide +kernel))) rfl⟩
theorem kf_X2_35 : am_fl RX2 35 2 4 (.object "PaintedByOthers$Sight") true := ⟨_, _, _, _, kw_X2, by decide, rfl, rfl, (fun _ => rfl), mem_lwg (mem_t2 (List.mem_of_getElem? (i := 9) (by decide +kernel))) rfl⟩
theorem kf_X2_44 : am_fl RX2 44 9 3 (.int) false := ⟨_, _, _, _, kw_X9, by decide, rfl, rfl, (fun h => Bool.noConfusion h), mem_lwg (mem_t1 (List.mem_of_getElem? (i := 129) (by decide +kernel))) rfl⟩
theorem kf_X2_53 : am_flr RX2 53 9 12 (.array .int) := ⟨_, _, _, _, kw_X9, by decide, rfl, mem_lwg (mem_t1 (List.mem_of_getElem? (i := 171) (by decide +kernel))) rfl⟩
theorem kf_X2_64 : am_fl RX2 64 9 0 (.int) false := ⟨_, _, _, _, kw_X9, by decide, rfl, rfl, (fun h => Bool.noConfusion h), mem_lwg (mem_t1 (List.mem_of_getElem? (i := 118) (by decide +kernel))) rfl⟩
theorem kf_X2_81 : am_flr RX2 81 9 7 (.array .int) := ⟨_, _, _, _, kw_X9, by decide, rfl, mem_lwg (mem_t1 (List.mem_of_getElem? (i := 151) (by decide +kernel))) rfl⟩
theorem kf_X2_102 : am_fl RX2 102 9 4 (.int) false := ⟨_, _, _, _, kw_X9, by decide, rfl, rfl, (fun h => Bool.noConfusion h), mem_lwg (mem_t1 (List.mem_of_getElem? (i := 140) (by decide +kernel))) rfl⟩
theorem kf_X2_114 : am_fl RX2 114 9 2 (.int) false := ⟨_, _, _, _, kw_X9, by decide, rfl, rfl, (fun h => Bool.noConfusion h), mem_lwg (mem_t1 (List.mem_of_getElem? (i := 126) (by decide +kernel))) rfl⟩
theorem kf_X2_117 : am_flr RX2 117 9 15 (.object "PaintedByOthers$Rule") := ⟨_, _, _, _, kw_X9, by decide, rfl, mem_lwg (mem_t1 (List.mem_of_getElem? (i := 180) (by decide +kernel))) rfl⟩
theorem kf_X2_121 : am_fl RX2 121 6 0 (.int) false := ⟨_, _, _, _, kw_X6, by decide, rfl, rfl, (fun h => Bool.noConfusion h), mem_lwg (mem_t1 (List.mem_of_getElem? (i := 44) (by decide +kernel))) rfl⟩
theorem kf_X2_129 : am_flr RX2 129 6 3 (.array .int) := ⟨_, _, _, _, kw_X6, by decide, rfl, mem_lwg (mem_t1 (List.mem_of_getElem? (i := 50) (by decide +kernel))) rfl⟩
theorem kf_X2_136 : am_flr RX2 136 6 2 (.array .int) := ⟨_, _, _, _, kw_X6, by decide, rfl, mem_lwg (mem_t1 (List.mem_of_getElem? (i := 48) (by decide +kernel))) rfl⟩
theorem kf_X2_139 : am_flr RX2 139 6 4 (.array .int) := ⟨_, _, _, _, kw_X6, by decide, rfl, mem_lwg (mem_t1 (List.mem_of_getElem? (i := 52) (by decide +kernel))) rfl⟩
theorem kf_X3_9 : am_fl RX3 9 3 0 (.array .int) true := ⟨_, _, _, _, kw_X3, by decide, rfl, rfl, (fun _ => rfl), mem_lwg (mem_t2 (List.mem_of_getElem? (i := 117) (by decide +kernel))) rfl⟩
theorem kf_X3_15 : am_fl RX3 15 3 3 (.array .int) true := ⟨_, _, _, _, kw_X3, by decide, rfl, rfl, (fun _ => rfl), mem_lwg (mem_t2 (List.mem_of_getElem? (i := 121) (by decide +kernel))) rfl⟩
theorem kf_X3_18 : am_fl RX3 18 3 4 (.array .int) true := ⟨_, _, _, _, kw_X3, by decide, rfl, rfl, (fun _ => rfl), mem_lwg (mem_t2 (List.mem_of_getElem? (i := 122) (by decide +kernel))) rfl⟩
theorem kf_X3_21 : am_fl RX3 21 3 1 (.object "PaintedByOthers$Town") true := ⟨_, _, _, _, kw_X3, by decide, rfl, rfl, (fun _ => rfl), mem_lwg (mem_t2 (List.mem_of_getElem? (i := 119) (by decide +kernel))) rfl⟩
theorem kf_X3_25 : am_fl RX3 25 3 2 (.object "PaintedByOthers$Sight") true := ⟨_, _, _, _, kw_X3, by decide, rfl, rfl, (fun _ => rfl), mem_lwg (mem_t2 (List.mem_of_getElem? (i := 120) (by decide +kernel))) rfl⟩
theorem kf_X3_34 : am_fl RX3 34 9 4 (.int) false := ⟨_, _, _, _, kw_X9, by decide, rfl, rfl, (fun h => Bool.noConfusion h), mem_lwg (mem_t1 (List.mem_of_getElem? (i := 137) (by decide +kernel))) rfl⟩
theorem kf_X3_40 : am_flr RX3 40 9 7 (.array .int) := ⟨_, _, _, _, kw_X9, by decide, rfl, mem_lwg (mem_t1 (List.mem_of_getElem? (i := 150) (by decide +kernel))) rfl⟩
theorem kf_X3_59 : am_flr RX3 59 9 8 (.array .int) := ⟨_, _, _, _, kw_X9, by decide, rfl, mem_lwg (mem_t1 (List.mem_of_getElem? (i := 155) (by decide +kernel))) rfl⟩
theorem kf_X4_9 : am_fl RX4 9 4 0 (.int) false := ⟨_, _, _, _, kw_X4, by decide, rfl, rfl, (fun h => Bool.noConfusion h), mem_lwg (mem_t2 (List.mem_of_getElem? (i := 90) (by decide +kernel))) rfl⟩
theorem kf_X4_15 : am_fl RX4 15 4 1 (.int) false := ⟨_, _, _, _, kw_X4, by decide, rfl, rfl, (fun h => Bool.noConfusion h), mem_lwg (mem_t2 (List.mem_of_getElem? (i := 92) (by decide +kernel))) rfl⟩
theorem kf_X4_18 : am_fl RX4 18 4 4 (.array .int) true := ⟨_, _, _, _, kw_X4, by decide, rfl, rfl, (fun _ => rfl), mem_lwg (mem_t2 (List.mem_of_getElem? (i := 96) (by decide +kernel))) rfl⟩
theorem kf_X4_22 : am_fl RX4 22 4 5 (.array .int) true := ⟨_, _, _, _, kw_X4, by decide, rfl, rfl, (fun _ => rfl), mem_lwg (mem_t2 (List.mem_of_getElem? (i := 97) (by decide +kernel))) rfl⟩
theorem kf_X4_25 : am_fl RX4 25 4 2 (.object "PaintedByOthers$Town") true := ⟨_, _, _, _, kw_X4, by decide, rfl, rfl, (fun _ => rfl), mem_lwg (mem_t2 (List.mem_of_getElem? (i := 94) (by decide +kernel))) rfl⟩
theorem kf_X4_29 : am_fl RX4 29 4 3 (.object "PaintedByOthers$Sight") true := ⟨_, _, _, _, kw_X4, by decide, rfl, rfl, (fun _ => rfl), mem_lwg (mem_t2 (List.mem_of_getElem? (i := 95) (by decide +kernel))) rfl⟩
theorem kf_X4_37 : am_fl RX4 37 9 4 (.int) false := ⟨_, _, _, _, kw_X9, by decide, rfl, rfl, (fun h => Bool.noConfusion h), mem_lwg (mem_t1 (List.mem_of_getElem? (i := 135) (by decide +kernel))) rfl⟩
theorem kf_X4_51 : am_flr RX4 51 9 7 (.array .int) := ⟨_, _, _, _, kw_X9, by decide, rfl, mem_lwg (mem_t1 (List.mem_of_getElem? (i := 149) (by decide +kernel))) rfl⟩
theorem kf_X5_9 : am_fl RX5 9 5 0 (.array .int) true := ⟨_, _, _, _, kw_X5, by decide, rfl, rfl, (fun _ => rfl), mem_lwg (mem_t1 (List.mem_of_getElem? (i := 88) (by decide +kernel))) rfl⟩
theorem kf_X5_15 : am_fl RX5 15 5 1 (.array .int) true := ⟨_, _, _, _, kw_X5, by decide, rfl, rfl, (fun _ => rfl), mem_lwg (mem_t1 (List.mem_of_getElem? (i := 90) (by decide +kernel))) rfl⟩
theorem kf_X5_18 : am_fl RX5 18 5 2 (.array .int) true := ⟨_, _, _, _, kw_X5, by decide, rfl, rfl, (fun _ => rfl), mem_lwg (mem_t1 (List.mem_of_getElem? (i := 91) (by decide +kernel))) rfl⟩
theorem kf_X5_21 : am_fl RX5 21 5 3 (.array .int) true := ⟨_, _, _, _, kw_X5, by decide, rfl, rfl, (fun _ => rfl), mem_lwg (mem_t1 (List.mem_of_getElem? (i := 92) (by decide +kernel))) rfl⟩
theorem kf_X5_24 : am_fl RX5 24 5 4 (.int) false := ⟨_, _, _, _, kw_X5, by decide, rfl, rfl, (fun h => Bool.noConfusion h), mem_lwg (mem_t1 (List.mem_of_getElem? (i := 94) (by decide +kernel))) rfl⟩
theorem kf_X5_28 : am_fl RX5 28 5 5 (.int) false := ⟨_, _, _, _, kw_X5, by decide, rfl, rfl, (fun h => Bool.noConfusion h), mem_lwg (mem_t1 (List.mem_of_getElem? (i := 95) (by decide +kernel))) rfl⟩
theorem kf_X5_31 : am_fl RX5 31 5 6 (.int) false := ⟨_, _, _, _, kw_X5, by decide, rfl, rfl, (fun h => Bool.noConfusion h), mem_lwg (mem_t1 (List.mem_of_getElem? (i := 96) (by decide +kernel))) rfl⟩
theorem kf_X5_34 : am_fl RX5 34 5 7 (.int) false := ⟨_, _, _, _, kw_X5, by decide, rfl, rfl, (fun h => Bool.noConfusion h), mem_lwg (mem_t1 (List.mem_of_getElem? (i := 98) (by decide +kernel))) rfl⟩
theorem kf_X6_9 : am_fl RX6 9 6 0 (.int) false := ⟨_, _, _, _, kw_X6, by decide, rfl, rfl, (fun h => Bool.noConfusion h), mem_lwg (mem_t1 (List.mem_of_getElem? (i := 43) (by decide +kernel))) rfl⟩
theorem kf_X6_15 : am_fl RX6 15 6 1 (.int) false := ⟨_, _, _, _, kw_X6, by decide, rfl, rfl, (fun h => Bool.noConfusion h), mem_lwg (mem_t1 (List.mem_of_getElem? (i := 46) (by decide +kernel))) rfl⟩
theorem kf_X6_18 : am_fl RX6 18 6 2 (.array .int) true := ⟨_, _, _, _, kw_X6, by decide, rfl, rfl, (fun _ => rfl), mem_lwg (mem_t1 (List.mem_of_getElem? (i := 47) (by decide +kernel))) rfl⟩
theorem kf_X6_22 : am_fl RX6 22 6 3 (.array .int) true := ⟨_, _, _, _, kw_X6, by decide, rfl, rfl, (fun _ => rfl), mem_lwg (mem_t1 (List.mem_of_getElem? (i := 49) (by decide +kernel))) rfl⟩
theorem kf_X6_25 : am_fl RX6 25 6 4 (.array .int) true := ⟨_, _, _, _, kw_X6, by decide, rfl, rfl, (fun _ => rfl), mem_lwg (mem_t1 (List.mem_of_getElem? (i := 51) (by decide +kernel))) rfl⟩
theorem kf_X7_12 : am_fl RX7 12 7 0 (.object "PaintedByOthers$Rule") true := ⟨_, _, _, _, kw_X7, by decide, rfl, rfl, (fun _ => rfl), mem_lwg (mem_t2 (List.mem_of_getElem? (i := 142) (by decide +kernel))) rfl⟩
theorem kf_X7_18 : am_fl RX7 18 7 1 (.int) false := ⟨_, _, _, _, kw_X7, by decide, rfl, rfl, (fun h => Bool.noConfusion h), mem_lwg (mem_t2 (List.mem_of_getElem? (i := 144) (by decide +kernel))) rfl⟩
theorem kf_X7_22 : am_fl RX7 22 7 2 (.int) false := ⟨_, _, _, _, kw_X7, by decide, rfl, rfl, (fun h => Bool.noConfusion h), mem_lwg (mem_t2 (List.mem_of_getElem? (i := 146) (by decide +kernel))) rfl⟩
theorem kf_X7_25 : am_fl RX7 25 7 3 (.array .int) true := ⟨_, _, _, _, kw_X7, by decide, rfl, rfl, (fun _ => rfl), mem_lwg (mem_t2 (List.mem_of_getElem? (i := 148) (by decide +kernel))) rfl⟩
theorem kf_X7_29 : am_fl RX7 29 7 4 (.array .int) true := ⟨_, _, _, _, kw_X7, by decide, rfl, rfl, (fun _ => rfl), mem_lwg (mem_t2 (List.mem_of_getElem? (i := 149) (by decide +kernel))) rfl⟩
theorem kf_X7_32 : am_fl RX7 32 7 5 (.int) false := ⟨_, _, _, _, kw_X7, by decide, rfl, rfl, (fun h => Bool.noConfusion h), mem_lwg (mem_t2 (List.mem_of_getElem? (i := 150) (by decide +kernel))) rfl⟩
theorem kf_X7_35 : am_fl RX7 35 7 6 (.int) false := ⟨_, _, _, _, kw_X7, by decide, rfl, rfl, (fun h => Bool.noConfusion h), mem_lwg (mem_t2 (List.mem_of_getElem? (i := 151) (by decide +kernel))) rfl⟩
theorem kf_X7_38 : am_fl RX7 38 7 7 (.int) false := ⟨_, _, _, _, kw_X7, by decide, rfl, rfl, (fun h => Bool.noConfusion h), mem_lwg (mem_t2 (List.mem_of_getElem? (i := 152) (by decide +kernel))) rfl⟩
theorem kf_X8_9 : am_fl RX8 9 8 1 (.array .int) true := ⟨_, _, _, _, kw_X8, by decide, rfl, rfl, (fun _ => rfl), mem_lwg (mem_t1 (List.mem_of_getElem? (i := 230) (by decide +kernel))) rfl⟩
theorem kf_X8_15 : am_fl RX8 15 8 0 (.object "PaintedByOthers$Town") true := ⟨_, _, _, _, kw_X8, by decide, rfl, rfl, (fun _ => rfl), mem_lwg (mem_t1 (List.mem_of_getElem? (i := 229) (by decide +kernel))) rfl⟩
theorem kf_X8_19 : am_flr RX8 19 9 9 (.array .int) := ⟨_, _, _, _, kw_X9, by decide, rfl, mem_lwg (mem_t1 (List.mem_of_getElem? (i := 160) (by decide +kernel))) rfl⟩
theorem kf_X8_30 : am_fl RX8 30 9 5 (.int) false := ⟨_, _, _, _, kw_X9, by decide, rfl, rfl, (fun h => Bool.noConfusion h), mem_lwg (mem_t1 (List.mem_of_getElem? (i := 142) (by decide +kernel))) rfl⟩
theorem kf_X8_34 : am_fl RX8 34 9 2 (.int) false := ⟨_, _, _, _, kw_X9, by decide, rfl, rfl, (fun h => Bool.noConfusion h), mem_lwg (mem_t1 (List.mem_of_getElem? (i := 125) (by decide +kernel))) rfl⟩
theorem kf_X8_37 : am_flr RX8 37 9 10 (.array .int) := ⟨_, _, _, _, kw_X9, by decide, rfl, mem_lwg (mem_t1 (List.mem_of_getElem? (i := 163) (by decide +kernel))) rfl⟩
theorem kf_X8_46 : am_flr RX8 46 9 8 (.array .int) := ⟨_, _, _, _, kw_X9, by decide, rfl, mem_lwg (mem_t1 (List.mem_of_getElem? (i := 154) (by decide +kernel))) rfl⟩
theorem kf_X8_49 : am_flr RX8 49 9 14 (.array .int) := ⟨_, _, _, _, kw_X9, by decide, rfl, mem_lwg (mem_t1 (List.mem_of_getElem? (i := 177) (by decide +kernel))) rfl⟩
theorem kf_X8_52 : am_flr RX8 52 9 13 (.array .int) := ⟨_, _, _, _, kw_X9, by decide, rfl, mem_lwg (mem_t1 (List.mem_of_getElem? (i := 174) (by decide +kernel))) rfl⟩
theorem kf_X8_61 : am_fl RX8 61 9 3 (.int) false := ⟨_, _, _, _, kw_X9, by decide, rfl, rfl, (fun h => Bool.noConfusion h), mem_lwg (mem_t1 (List.mem_of_getElem? (i := 133) (by decide +kernel))) rfl⟩
theorem kf_X8_64 : am_flr RX8 64 9 11 (.array .int) := ⟨_, _, _, _, kw_X9, by decide, rfl, mem_lwg (mem_t1 (List.mem_of_getElem? (i := 167) (by decide +kernel))) rfl⟩
theorem kf_X9_9 : am_fl RX9 9 9 0 (.int) false := ⟨_, _, _, _, kw_X9, by decide, rfl, rfl, (fun h => Bool.noConfusion h), mem_lwg (mem_t1 (List.mem_of_getElem? (i := 117) (by decide +kernel))) rfl⟩
theorem kf_X9_15 : am_fl RX9 15 9 1 (.int) false := ⟨_, _, _, _, kw_X9, by decide, rfl, rfl, (fun h => Bool.noConfusion h), mem_lwg (mem_t1 (List.mem_of_getElem? (i := 122) (by decide +kernel))) rfl⟩
theorem kf_X9_18 : am_fl RX9 18 9 2 (.int) false := ⟨_, _, _, _, kw_X9, by decide, rfl, rfl, (fun h => Bool.noConfusion h), mem_lwg (mem_t1 (List.mem_of_getElem? (i := 124) (by decide +kernel))) rfl⟩
theorem kf_X9_21 : am_fl RX9 21 9 3 (.int) false := ⟨_, _, _, _, kw_X9, by decide, rfl, rfl, (fun h => Bool.noConfusion h), mem_lwg (mem_t1 (List.mem_of_getElem? (i := 128) (by decide +kernel))) rfl⟩
theorem kf_X9_24 : am_fl RX9 24 9 4 (.int) false := ⟨_, _, _, _, kw_X9, by decide, rfl, rfl, (fun h => Bool.noConfusion h), mem_lwg (mem_t1 (List.mem_of_getElem? (i := 134) (by decide +kernel))) rfl⟩
theorem kf_X9_27 : am_fl RX9 27 9 5 (.int) false := ⟨_, _, _, _, kw_X9, by decide, rfl, rfl, (fun h => Bool.noConfusion h), mem_lwg (mem_t1 (List.mem_of_getElem? (i := 141) (by decide +kernel))) rfl⟩
theorem kf_X9_30 : am_fl RX9 30 9 6 (.array .int) true := ⟨_, _, _, _, kw_X9, by decide, rfl, rfl, (fun _ => rfl), mem_lwg (mem_t1 (List.mem_of_getElem? (i := 144) (by decide +kernel))) rfl⟩
theorem kf_X9_34 : am_fl RX9 34 9 7 (.array .int) true := ⟨_, _, _, _, kw_X9, by decide, rfl, rfl, (fun _ => rfl), mem_lwg (mem_t1 (List.mem_of_getElem? (i := 147) (by decide +kernel))) rfl⟩
theorem kf_X9_37 : am_fl RX9 37 9 8 (.array .int) true := ⟨_, _, _, _, kw_X9, by decide, rfl, rfl, (fun _ => rfl), mem_lwg (mem_t1 (List.mem_of_getElem? (i := 153) (by decide +kernel))) rfl⟩
theorem kf_X9_40 : am_fl RX9 40 9 9 (.array .int) true := ⟨_, _, _, _, kw_X9, by decide, rfl, rfl, (fun _ => rfl), mem_lwg (mem_t1 (List.mem_of_getElem? (i := 159) (by decide +kernel))) rfl⟩
theorem kf_X9_43 : am_fl RX9 43 9 10 (.array .int) true := ⟨_, _, _, _, kw_X9, by decide, rfl, rfl, (fun _ => rfl), mem_lwg (mem_t1 (List.mem_of_getElem? (i := 162) (by decide +kernel))) rfl⟩
theorem kf_X9_46 : am_fl RX9 46 9 11 (.array .int) true := ⟨_, _, _, _, kw_X9, by decide, rfl, rfl, (fun _ => rfl), mem_lwg (mem_t1 (List.mem_of_getElem? (i := 165) (by decide +kernel))) rfl⟩
theorem kf_X9_49 : am_fl RX9 49 9 12 (.array .int) true := ⟨_, _, _, _, kw_X9, by decide, rfl, rfl, (fun _ => rfl), mem_lwg (mem_t1 (List.mem_of_getElem? (i := 170) (by decide +kernel))) rfl⟩
theorem kf_X9_52 : am_fl RX9 52 9 13 (.array .int) true := ⟨_, _, _, _, kw_X9, by decide, rfl, rfl, (fun _ => rfl), mem_lwg (mem_t1 (List.mem_of_getElem? (i := 173) (by decide +kernel))) rfl⟩
theorem kf_X9_55 : am_fl RX9 55 9 14 (.array .int) true := ⟨_, _, _, _, kw_X9, by decide, rfl, rfl, (fun _ => rfl), mem_lwg (mem_t1 (List.mem_of_getElem? (i := 176) (by decide +kernel))) rfl⟩
theorem kf_X9_61 : am_fl RX9 61 9 15 (.object "PaintedByOthers$Rule") true := ⟨_, _, _, _, kw_X9, by decide, rfl, rfl, (fun _ => rfl), mem_lwg (mem_t1 (List.mem_of_getElem? (i := 179) (by decide +kernel))) rfl⟩
theorem kf_X9_68 : am_fl RX9 68 9 16 (.object "PaintedByOthers$Deeds") true := ⟨_, _, _, _, kw_X9, by decide, rfl, rfl, (fun _ => rfl), mem_lwg (mem_t1 (List.mem_of_getElem? (i := 182) (by decide +kernel))) rfl⟩
theorem kf_X9_75 : am_fl RX9 75 9 17 (.object "PaintedByOthers$Places") true := ⟨_, _, _, _, kw_X9, by decide, rfl, rfl, (fun _ => rfl), mem_lwg (mem_t1 (List.mem_of_getElem? (i := 184) (by decide +kernel))) rfl⟩
theorem kf_X10_9 : am_fl RX10 9 10 2 (.array .int) true := ⟨_, _, _, _, kw_X10, by decide, rfl, rfl, (fun _ => rfl), mem_lwg (mem_t2 (List.mem_of_getElem? (i := 70) (by decide +kernel))) rfl⟩
theorem kf_X10_15 : am_fl RX10 15 10 3 (.array .int) true := ⟨_, _, _, _, kw_X10, by decide, rfl, rfl, (fun _ => rfl), mem_lwg (mem_t2 (List.mem_of_getElem? (i := 71) (by decide +kernel))) rfl⟩
theorem kf_X10_18 : am_fl RX10 18 10 4 (.array .int) true := ⟨_, _, _, _, kw_X10, by decide, rfl, rfl, (fun _ => rfl), mem_lwg (mem_t2 (List.mem_of_getElem? (i := 72) (by decide +kernel))) rfl⟩
theorem kf_X10_21 : am_fl RX10 21 10 0 (.object "PaintedByOthers$Town") true := ⟨_, _, _, _, kw_X10, by decide, rfl, rfl, (fun _ => rfl), mem_lwg (mem_t2 (List.mem_of_getElem? (i := 68) (by decide +kernel))) rfl⟩
theorem kf_X10_25 : am_fl RX10 25 10 1 (.object "PaintedByOthers$Sight") true := ⟨_, _, _, _, kw_X10, by decide, rfl, rfl, (fun _ => rfl), mem_lwg (mem_t2 (List.mem_of_getElem? (i := 69) (by decide +kernel))) rfl⟩
theorem kf_X10_34 : am_flr RX10 34 9 7 (.array .int) := ⟨_, _, _, _, kw_X9, by decide, rfl, mem_lwg (mem_t1 (List.mem_of_getElem? (i := 148) (by decide +kernel))) rfl⟩
theorem kf_X10_49 : am_fl RX10 49 9 4 (.int) false := ⟨_, _, _, _, kw_X9, by decide, rfl, rfl, (fun h => Bool.noConfusion h), mem_lwg (mem_t1 (List.mem_of_getElem? (i := 136) (by decide +kernel))) rfl⟩
theorem kf_X10_61 : am_fl RX10 61 9 3 (.int) false := ⟨_, _, _, _, kw_X9, by decide, rfl, rfl, (fun h => Bool.noConfusion h), mem_lwg (mem_t1 (List.mem_of_getElem? (i := 131) (by decide +kernel))) rfl⟩
theorem kf_X10_68 : am_fl RX10 68 9 0 (.int) false := ⟨_, _, _, _, kw_X9, by decide, rfl, rfl, (fun h => Bool.noConfusion h), mem_lwg (mem_t1 (List.mem_of_getElem? (i := 119) (by decide +kernel))) rfl⟩
theorem kf_X10_75 : am_flr RX10 75 9 11 (.array .int) := ⟨_, _, _, _, kw_X9, by decide, rfl, mem_lwg (mem_t1 (List.mem_of_getElem? (i := 166) (by decide +kernel))) rfl⟩
theorem kf_X10_78 : am_flr RX10 78 9 8 (.array .int) := ⟨_, _, _, _, kw_X9, by decide, rfl, mem_lwg (mem_t1 (List.mem_of_getElem? (i := 156) (by decide +kernel))) rfl⟩
theorem kf_X12_7 : am_fl RX12 7 12 2 (.int) false := ⟨_, _, _, _, kw_X12, by decide, rfl, rfl, (fun h => Bool.noConfusion h), mem_lwg (mem_t5 (List.mem_of_getElem? (i := 193) (by decide +kernel))) rfl⟩
theorem kf_X12_13 : am_fl RX12 13 12 3 (.array .int) true := ⟨_, _, _, _, kw_X12, by decide, rfl, rfl, (fun _ => rfl), mem_lwg (mem_t5 (List.mem_of_getElem? (i := 194) (by decide +kernel))) rfl⟩
theorem kf_X12_17 : am_fl RX12 17 12 6 (.array .int) true := ⟨_, _, _, _, kw_X12, by decide, rfl, rfl, (fun _ => rfl), mem_lwg (mem_t5 (List.mem_of_getElem? (i := 197) (by decide +kernel))) rfl⟩
theorem kf_X12_20 : am_fl RX12 20 12 7 (.array .int) true := ⟨_, _, _, _, kw_X12, by decide, rfl, rfl, (fun _ => rfl), mem_lwg (mem_t5 (List.mem_of_getElem? (i := 198) (by decide +kernel))) rfl⟩
theorem kf_X12_23 : am_fl RX12 23 12 9 (.array .int) true := ⟨_, _, _, _, kw_X12, by decide, rfl, rfl, (fun _ => rfl), mem_lwg (mem_t5 (List.mem_of_getElem? (i := 200) (by decide +kernel))) rfl⟩
theorem kf_X12_26 : am_fl RX12 26 12 10 (.array .int) true := ⟨_, _, _, _, kw_X12, by decide, rfl, rfl, (fun _ => rfl), mem_lwg (mem_t5 (List.mem_of_getElem? (i := 201) (by decide +kernel))) rfl⟩
theorem kf_X12_29 : am_fl RX12 29 12 11 (.array .int) true := ⟨_, _, _, _, kw_X12, by decide, rfl, rfl, (fun _ => rfl), mem_lwg (mem_t5 (List.mem_of_getElem? (i := 202) (by decide +kernel))) rfl⟩
theorem kf_X12_32 : am_fl RX12 32 12 12 (.array .int) true := ⟨_, _, _, _, kw_X12, by decide, rfl, rfl, (fun _ => rfl), mem_lwg (mem_t5 (List.mem_of_getElem? (i := 203) (by decide +kernel))) rfl⟩
theorem kf_X12_35 : am_fl RX12 35 12 14 (.array .int) true := ⟨_, _, _, _, kw_X12, by decide, rfl, rfl, (fun _ => rfl), mem_lwg (mem_t5 (List.mem_of_getElem? (i := 205) (by decide +kernel))) rfl⟩
theorem kf_X12_38 : am_fl RX12 38 12 15 (.array .int) true := ⟨_, _, _, _, kw_X12, by decide, rfl, rfl, (fun _ => rfl), mem_lwg (mem_t5 (List.mem_of_getElem? (i := 206) (by decide +kernel))) rfl⟩
theorem kf_X12_41 : am_fl RX12 41 12 16 (.array .int) true := ⟨_, _, _, _, kw_X12, by decide, rfl, rfl, (fun _ => rfl), mem_lwg (mem_t5 (List.mem_of_getElem? (i := 207) (by decide +kernel))) rfl⟩
theorem kf_X12_44 : am_fl RX12 44 12 17 (.array .int) true := ⟨_, _, _, _, kw_X12, by decide, rfl, rfl, (fun _ => rfl), mem_lwg (mem_t5 (List.mem_of_getElem? (i := 208) (by decide +kernel))) rfl⟩
theorem kf_X12_47 : am_fl RX12 47 12 19 (.array .int) true := ⟨_, _, _, _, kw_X12, by decide, rfl, rfl, (fun _ => rfl), mem_lwg (mem_t5 (List.mem_of_getElem? (i := 210) (by decide +kernel))) rfl⟩
theorem kf_X12_50 : am_fl RX12 50 12 20 (.array .int) true := ⟨_, _, _, _, kw_X12, by decide, rfl, rfl, (fun _ => rfl), mem_lwg (mem_t5 (List.mem_of_getElem? (i := 211) (by decide +kernel))) rfl⟩
theorem kf_X12_53 : am_fl RX12 53 12 21 (.array .int) true := ⟨_, _, _, _, kw_X12, by decide, rfl, rfl, (fun _ => rfl), mem_lwg (mem_t5 (List.mem_of_getElem? (i := 212) (by decide +kernel))) rfl⟩
theorem kf_X12_56 : am_fl RX12 56 12 22 (.array .int) true := ⟨_, _, _, _, kw_X12, by decide, rfl, rfl, (fun _ => rfl), mem_lwg (mem_t5 (List.mem_of_getElem? (i := 213) (by decide +kernel))) rfl⟩
theorem kf_X12_59 : am_fl RX12 59 12 23 (.array .int) true := ⟨_, _, _, _, kw_X12, by decide, rfl, rfl, (fun _ => rfl), mem_lwg (mem_t5 (List.mem_of_getElem? (i := 214) (by decide +kernel))) rfl⟩
theorem kf_X12_62 : am_fl RX12 62 12 24 (.array .int) true := ⟨_, _, _, _, kw_X12, by decide, rfl, rfl, (fun _ => rfl), mem_lwg (mem_t5 (List.mem_of_getElem? (i := 215) (by decide +kernel))) rfl⟩
theorem kf_X12_65 : am_fl RX12 65 12 25 (.array .int) true := ⟨_, _, _, _, kw_X12, by decide, rfl, rfl, (fun _ => rfl), mem_lwg (mem_t5 (List.mem_of_getElem? (i := 216) (by decide +kernel))) rfl⟩
theorem kf_X12_68 : am_fl RX12 68 12 31 (.array .int) true := ⟨_, _, _, _, kw_X12, by decide, rfl, rfl, (fun _ => rfl), mem_lwg (mem_t5 (List.mem_of_getElem? (i := 222) (by decide +kernel))) rfl⟩
theorem kf_X12_71 : am_fl RX12 71 12 33 (.array .int) true := ⟨_, _, _, _, kw_X12, by decide, rfl, rfl, (fun _ => rfl), mem_lwg (mem_t5 (List.mem_of_getElem? (i := 224) (by decide +kernel))) rfl⟩
theorem kf_X12_74 : am_fl RX12 74 12 34 (.array .int) true := ⟨_, _, _, _, kw_X12, by decide, rfl, rfl, (fun _ => rfl), mem_lwg (mem_t5 (List.mem_of_getElem? (i := 225) (by decide +kernel))) rfl⟩
theorem kf_X12_77 : am_fl RX12 77 12 35 (.array .int) true := ⟨_, _, _, _, kw_X12, by decide, rfl, rfl, (fun _ => rfl), mem_lwg (mem_t5 (List.mem_of_getElem? (i := 226) (by decide +kernel))) rfl⟩
theorem kf_X12_80 : am_fl RX12 80 12 36 (.array .int) true := ⟨_, _, _, _, kw_X12, by decide, rfl, rfl, (fun _ => rfl), mem_lwg (mem_t5 (List.mem_of_getElem? (i := 227) (by decide +kernel))) rfl⟩
theorem kf_X12_83 : am_fl RX12 83 12 37 (.array .int) true := ⟨_, _, _, _, kw_X12, by decide, rfl, rfl, (fun _ => rfl), mem_lwg (mem_t5 (List.mem_of_getElem? (i := 228) (by decide +kernel))) rfl⟩
theorem kf_X12_86 : am_fl RX12 86 12 40 (.array .int) true := ⟨_, _, _, _, kw_X12, by decide, rfl, rfl, (fun _ => rfl), mem_lwg (mem_t5 (List.mem_of_getElem? (i := 231) (by decide +kernel))) rfl⟩
theorem kf_X12_89 : am_fl RX12 89 12 45 (.int) false := ⟨_, _, _, _, kw_X12, by decide, rfl, rfl, (fun h => Bool.noConfusion h), mem_lwg (mem_t5 (List.mem_of_getElem? (i := 236) (by decide +kernel))) rfl⟩
theorem kf_X12_92 : am_fl RX12 92 12 46 (.array .int) true := ⟨_, _, _, _, kw_X12, by decide, rfl, rfl, (fun _ => rfl), mem_lwg (mem_t5 (List.mem_of_getElem? (i := 237) (by decide +kernel))) rfl⟩
theorem kf_X12_95 : am_fl RX12 95 12 47 (.array .int) true := ⟨_, _, _, _, kw_X12, by decide, rfl, rfl, (fun _ => rfl), mem_lwg (mem_t5 (List.mem_of_getElem? (i := 238) (by decide +kernel))) rfl⟩
theorem kf_X12_98 : am_fl RX12 98 12 48 (.array .int) true := ⟨_, _, _, _, kw_X12, by decide, rfl, rfl, (fun _ => rfl), mem_lwg (mem_t5 (List.mem_of_getElem? (i := 239) (by decide +kernel))) rfl⟩
theorem kf_X12_101 : am_fl RX12 101 12 49 (.int) false := ⟨_, _, _, _, kw_X12, by decide, rfl, rfl, (fun h => Bool.noConfusion h), mem_lwg (mem_t6 (List.mem_of_getElem? (i := 0) (by decide +kernel))) rfl⟩
theorem kf_X12_104 : am_fl RX12 104 12 51 (.array .int) true := ⟨_, _, _, _, kw_X12, by decide, rfl, rfl, (fun _ => rfl), mem_lwg (mem_t6 (List.mem_of_getElem? (i := 2) (by decide +kernel))) rfl⟩
theorem kf_X12_107 : am_fl RX12 107 12 54 (.array .int) true := ⟨_, _, _, _, kw_X12, by decide, rfl, rfl, (fun _ => rfl), mem_lwg (mem_t6 (List.mem_of_getElem? (i := 5) (by decide +kernel))) rfl⟩
theorem kf_X12_110 : am_fl RX12 110 12 55 (.array .int) true := ⟨_, _, _, _, kw_X12, by decide, rfl, rfl, (fun _ => rfl), mem_lwg (mem_t6 (List.mem_of_getElem? (i := 6) (by decide +kernel))) rfl⟩
theorem kf_X12_113 : am_fl RX12 113 12 56 (.array .int) true := ⟨_, _, _, _, kw_X12, by decide, rfl, rfl, (fun _ => rfl), mem_lwg (mem_t6 (List.mem_of_getElem? (i := 7) (by decide +kernel))) rfl⟩
theorem kf_X12_116 : am_fl RX12 116 12 57 (.array .int) true := ⟨_, _, _, _, kw_X12, by decide, rfl, rfl, (fun _ => rfl), mem_lwg (mem_t6 (List.mem_of_getElem? (i := 8) (by decide +kernel))) rfl⟩
theorem kf_X12_119 : am_fl RX12 119 12 58 (.array .int) true := ⟨_, _, _, _, kw_X12, by decide, rfl, rfl, (fun _ => rfl), mem_lwg (mem_t6 (List.mem_of_getElem? (i := 9) (by decide +kernel))) rfl⟩
theorem kf_X12_122 : am_fl RX12 122 12 59 (.array .int) true := ⟨_, _, _, _, kw_X12, by decide, rfl, rfl, (fun _ => rfl), mem_lwg (mem_t6 (List.mem_of_getElem? (i := 10) (by decide +kernel))) rfl⟩
theorem kf_X12_125 : am_fl RX12 125 12 60 (.array .int) true := ⟨_, _, _, _, kw_X12, by decide, rfl, rfl, (fun _ => rfl), mem_lwg (mem_t6 (List.mem_of_getElem? (i := 11) (by decide +kernel))) rfl⟩
theorem kf_X12_128 : am_fl RX12 128 12 61 (.array .int) true := ⟨_, _, _, _, kw_X12, by decide, rfl, rfl, (fun _ => rfl), mem_lwg (mem_t6 (List.mem_of_getElem? (i := 12) (by decide +kernel))) rfl⟩
theorem kf_X12_131 : am_fl RX12 131 12 67 (.array .int) true := ⟨_, _, _, _, kw_X12, by decide, rfl, rfl, (fun _ => rfl), mem_lwg (mem_t6 (List.mem_of_getElem? (i := 18) (by decide +kernel))) rfl⟩
theorem kf_X12_134 : am_fl RX12 134 12 0 (.int) false := ⟨_, _, _, _, kw_X12, by decide, rfl, rfl, (fun h => Bool.noConfusion h), mem_lwg (mem_t5 (List.mem_of_getElem? (i := 191) (by decide +kernel))) rfl⟩
theorem kf_X12_137 : am_fl RX12 137 12 1 (.int) false := ⟨_, _, _, _, kw_X12, by decide, rfl, rfl, (fun h => Bool.noConfusion h), mem_lwg (mem_t5 (List.mem_of_getElem? (i := 192) (by decide +kernel))) rfl⟩
theorem kf_X12_142 : am_fl RX12 142 12 4 (.int) false := ⟨_, _, _, _, kw_X12, by decide, rfl, rfl, (fun h => Bool.noConfusion h), mem_lwg (mem_t5 (List.mem_of_getElem? (i := 195) (by decide +kernel))) rfl⟩
theorem kf_X12_145 : am_fl RX12 145 12 5 (.int) false := ⟨_, _, _, _, kw_X12, by decide, rfl, rfl, (fun h => Bool.noConfusion h), mem_lwg (mem_t5 (List.mem_of_getElem? (i := 196) (by decide +kernel))) rfl⟩
theorem kf_X12_152 : am_fl RX12 152 12 8 (.int) false := ⟨_, _, _, _, kw_X12, by decide, rfl, rfl, (fun h => Bool.noConfusion h), mem_lwg (mem_t5 (List.mem_of_getElem? (i := 199) (by decide +kernel))) rfl⟩
theorem kf_X12_155 : am_fl RX12 155 12 13 (.int) false := ⟨_, _, _, _, kw_X12, by decide, rfl, rfl, (fun h => Bool.noConfusion h), mem_lwg (mem_t5 (List.mem_of_getElem? (i := 204) (by decide +kernel))) rfl⟩
theorem kf_X12_158 : am_fl RX12 158 12 18 (.int) false := ⟨_, _, _, _, kw_X12, by decide, rfl, rfl, (fun h => Bool.noConfusion h), mem_lwg (mem_t5 (List.mem_of_getElem? (i := 209) (by decide +kernel))) rfl⟩
theorem kf_X12_161 : am_fl RX12 161 12 32 (.int) false := ⟨_, _, _, _, kw_X12, by decide, rfl, rfl, (fun h => Bool.noConfusion h), mem_lwg (mem_t5 (List.mem_of_getElem? (i := 223) (by decide +kernel))) rfl⟩
theorem kf_X12_181 : am_fl RX12 181 12 26 (.int) false := ⟨_, _, _, _, kw_X12, by decide, rfl, rfl, (fun h => Bool.noConfusion h), mem_lwg (mem_t5 (List.mem_of_getElem? (i := 217) (by decide +kernel))) rfl⟩
theorem kf_X12_188 : am_fl RX12 188 12 27 (.int) false := ⟨_, _, _, _, kw_X12, by decide, rfl, rfl, (fun h => Bool.noConfusion h), mem_lwg (mem_t5 (List.mem_of_getElem? (i := 218) (by decide +kernel))) rfl⟩
theorem kf_X12_194 : am_fl RX12 194 12 28 (.int) false := ⟨_, _, _, _, kw_X12, by decide, rfl, rfl, (fun h => Bool.noConfusion h), mem_lwg (mem_t5 (List.mem_of_getElem? (i := 219) (by decide +kernel))) rfl⟩
theorem kf_X12_197 : am_fl RX12 197 12 29 (.int) false := ⟨_, _, _, _, kw_X12, by decide, rfl, rfl, (fun h => Bool.noConfusion h), mem_lwg (mem_t5 (List.mem_of_getElem? (i := 220) (by decide +kernel))) rfl⟩
theorem kf_X12_200 : am_fl RX12 200 12 30 (.int) false := ⟨_, _, _, _, kw_X12, by decide, rfl, rfl, (fun h => Bool.noConfusion h), mem_lwg (mem_t5 (List.mem_of_getElem? (i := 221) (by decide +kernel))) rfl⟩
theorem kf_X12_216 : am_fl RX12 216 12 42 (.int) false := ⟨_, _, _, _, kw_X12, by decide, rfl, rfl, (fun h => Bool.noConfusion h), mem_lwg (mem_t5 (List.mem_of_getElem? (i := 233) (by decide +kernel))) rfl⟩
theorem kf_X12_219 : am_fl RX12 219 12 43 (.int) false := ⟨_, _, _, _, kw_X12, by decide, rfl, rfl, (fun h => Bool.noConfusion h), mem_lwg (mem_t5 (List.mem_of_getElem? (i := 234) (by decide +kernel))) rfl⟩
theorem kf_X12_222 : am_fl RX12 222 12 38 (.int) false := ⟨_, _, _, _, kw_X12, by decide, rfl, rfl, (fun h => Bool.noConfusion h), mem_lwg (mem_t5 (List.mem_of_getElem? (i := 229) (by decide +kernel))) rfl⟩
theorem kf_X12_248 : am_fl RX12 248 12 41 (.int) false := ⟨_, _, _, _, kw_X12, by decide, rfl, rfl, (fun h => Bool.noConfusion h), mem_lwg (mem_t5 (List.mem_of_getElem? (i := 232) (by decide +kernel))) rfl⟩
theorem kf_X12_251 : am_fl RX12 251 12 39 (.int) false := ⟨_, _, _, _, kw_X12, by decide, rfl, rfl, (fun h => Bool.noConfusion h), mem_lwg (mem_t5 (List.mem_of_getElem? (i := 230) (by decide +kernel))) rfl⟩
theorem kf_X12_269 : am_fl RX12 269 12 44 (.int) false := ⟨_, _, _, _, kw_X12, by decide, rfl, rfl, (fun h => Bool.noConfusion h), mem_lwg (mem_t5 (List.mem_of_getElem? (i := 235) (by decide +kernel))) rfl⟩
theorem kf_X12_292 : am_fl RX12 292 12 50 (.int) false := ⟨_, _, _, _, kw_X12, by decide, rfl, rfl, (fun h => Bool.noConfusion h), mem_lwg (mem_t6 (List.mem_of_getElem? (i := 1) (by decide +kernel))) rfl⟩
theorem kf_X12_324 : am_fl RX12 324 12 52 (.int) false := ⟨_, _, _, _, kw_X12, by decide, rfl, rfl, (fun h => Bool.noConfusion h), mem_lwg (mem_t6 (List.mem_of_getElem? (i := 3) (by decide +kernel))) rfl⟩
theorem kf_X12_327 : am_fl RX12 327 12 53 (.int) false := ⟨_, _, _, _, kw_X12, by decide, rfl, rfl, (fun h => Bool.noConfusion h), mem_lwg (mem_t6 (List.mem_of_getElem? (i := 4) (by decide +kernel))) rfl⟩
theorem kf_X12_362 : am_fl RX12 362 12 63 (.int) false := ⟨_, _, _, _, kw_X12, by decide, rfl, rfl, (fun h => Bool.noConfusion h), mem_lwg (mem_t6 (List.mem_of_getElem? (i := 14) (by decide +kernel))) rfl⟩
theorem kf_X12_365 : am_fl RX12 365 12 62 (.int) false := ⟨_, _, _, _, kw_X12, by decide, rfl, rfl, (fun h => Bool.noConfusion h), mem_lwg (mem_t6 (List.mem_of_getElem? (i := 13) (by decide +kernel))) rfl⟩
theorem kf_X12_381 : am_fl RX12 381 12 66 (.int) false := ⟨_, _, _, _, kw_X12, by decide, rfl, rfl, (fun h => Bool.noConfusion h), mem_lwg (mem_t6 (List.mem_of_getElem? (i := 17) (by decide +kernel))) rfl⟩
theorem kf_X12_384 : am_fl RX12 384 12 64 (.boolean) false := ⟨_, _, _, _, kw_X12, by decide, rfl, rfl, (fun h => Bool.noConfusion h), mem_lwg (mem_t6 (List.mem_of_getElem? (i := 15) (by decide +kernel))) rfl⟩
theorem kf_X12_391 : am_fl RX12 391 12 65 (.boolean) false := ⟨_, _, _, _, kw_X12, by decide, rfl, rfl, (fun h => Bool.noConfusion h), mem_lwg (mem_t6 (List.mem_of_getElem? (i := 16) (by decide +kernel))) rfl⟩
abbrev mX0_init : am_M := (yX0_init, cX0_init, 3, none)
theorem ky_X0_init : am_yI mX0_init 2 := ⟨⟨mem_lwg (mem_t2 (List.mem_of_getElem? (i := 34) rfl)) rfl, mem_lwg (mem_t1 (List.mem_of_getElem? (i := 8) (by decide +kernel))) rfl, by decide +kernel, by decide⟩, mem_lwg (mem_t2 (List.mem_of_getElem? (i := 33) (by decide +kernel))) rfl, rfl, rfl⟩
abbrev mX0_choose : am_M := (yX0_choose, cX0_choose, 2, (some .int))
theorem ky_X0_choose : am_yV mX0_choose 0 0 := ⟨⟨mem_lwg (mem_t4 (List.mem_of_getElem? (i := 146) rfl)) rfl, mem_lwg (mem_t1 (List.mem_of_getElem? (i := 8) (by decide +kernel))) rfl, by decide +kernel, by decide⟩, mem_lwg (mem_t4 (List.mem_of_getElem? (i := 144) (by decide +kernel))) rfl, mem_lwg (mem_t4 (List.mem_of_getElem? (i := 145) (by decide +kernel))) rfl, _, _, rfl⟩
abbrev mX0_potsOfChosen : am_M := (yX0_potsOfChosen, cX0_potsOfChosen, 5, (some .int))
theorem ky_X0_potsOfChosen : am_yV mX0_potsOfChosen 0 0 := ⟨⟨mem_lwg (mem_t4 (List.mem_of_getElem? (i := 203) rfl)) rfl, mem_lwg (mem_t1 (List.mem_of_getElem? (i := 8) (by decide +kernel))) rfl, by decide +kernel, by decide⟩, mem_lwg (mem_t4 (List.mem_of_getElem? (i := 201) (by decide +kernel))) rfl, mem_lwg (mem_t4 (List.mem_of_getElem? (i := 202) (by decide +kernel))) rfl, _, _, rfl⟩
abbrev mX0_dueOf : am_M := (yX0_dueOf, cX0_dueOf, 2, (some .int))
theorem ky_X0_dueOf : am_yV mX0_dueOf 1 0 := ⟨⟨mem_lwg (mem_t4 (List.mem_of_getElem? (i := 207) rfl)) rfl, mem_lwg (mem_t1 (List.mem_of_getElem? (i := 8) (by decide +kernel))) rfl, by decide +kernel, by decide⟩, mem_lwg (mem_t4 (List.mem_of_getElem? (i := 205) (by decide +kernel))) rfl, mem_lwg (mem_t4 (List.mem_of_getElem? (i := 206) (by decide +kernel))) rfl, _, _, rfl⟩
abbrev mX0_lackOfChosen : am_M := (yX0_lackOfChosen, cX0_lackOfChosen, 3, (some .int))
theorem ky_X0_lackOfChosen : am_yV mX0_lackOfChosen 0 0 := ⟨⟨mem_lwg (mem_t4 (List.mem_of_getElem? (i := 217) rfl)) rfl, mem_lwg (mem_t1 (List.mem_of_getElem? (i := 8) (by decide +kernel))) rfl, by decide +kernel, by decide⟩, mem_lwg (mem_t4 (List.mem_of_getElem? (i := 215) (by decide +kernel))) rfl, mem_lwg (mem_t4 (List.mem_of_getElem? (i := 216) (by decide +kernel))) rfl, _, _, rfl⟩
abbrev mX0_worthsOfChosenWithout : am_M := (yX0_worthsOfChosenWithout, cX0_worthsOfChosenWithout, 4, (some .int))
theorem ky_X0_worthsOfChosenWithout : am_yV mX0_worthsOfChosenWithout 1 0 := ⟨⟨mem_lwg (mem_t4 (List.mem_of_getElem? (i := 211) rfl)) rfl, mem_lwg (mem_t1 (List.mem_of_getElem? (i := 8) (by decide +kernel))) rfl, by decide +kernel, by decide⟩, mem_lwg (mem_t4 (List.mem_of_getElem? (i := 210) (by decide +kernel))) rfl, mem_lwg (mem_t0 (List.mem_of_getElem? (i := 32) (by decide +kernel))) rfl, _, _, rfl⟩
abbrev mX0_greatestWithout : am_M := (yX0_greatestWithout, cX0_greatestWithout, 2, (some .int))
theorem ky_X0_greatestWithout : am_yV mX0_greatestWithout 1 0 := ⟨⟨mem_lwg (mem_t4 (List.mem_of_getElem? (i := 151) rfl)) rfl, mem_lwg (mem_t1 (List.mem_of_getElem? (i := 8) (by decide +kernel))) rfl, by decide +kernel, by decide⟩, mem_lwg (mem_t4 (List.mem_of_getElem? (i := 150) (by decide +kernel))) rfl, mem_lwg (mem_t0 (List.mem_of_getElem? (i := 25) (by decide +kernel))) rfl, _, _, rfl⟩
abbrev mX0_addUp : am_M := (yX0_addUp, cX0_addUp, 3, none)
theorem ky_X0_addUp : am_yV mX0_addUp 1 0 := ⟨⟨mem_lwg (mem_t4 (List.mem_of_getElem? (i := 155) rfl)) rfl, mem_lwg (mem_t1 (List.mem_of_getElem? (i := 8) (by decide +kernel))) rfl, by decide +kernel, by decide⟩, mem_lwg (mem_t4 (List.mem_of_getElem? (i := 154) (by decide +kernel))) rfl, mem_lwg (mem_t0 (List.mem_of_getElem? (i := 26) (by decide +kernel))) rfl, _, _, rfl⟩
abbrev mX0_addOne : am_M := (yX0_addOne, cX0_addOne, 4, none)
theorem ky_X0_addOne : am_yV mX0_addOne 1 0 := ⟨⟨mem_lwg (mem_t4 (List.mem_of_getElem? (i := 160) rfl)) rfl, mem_lwg (mem_t1 (List.mem_of_getElem? (i := 8) (by decide +kernel))) rfl, by decide +kernel, by decide⟩, mem_lwg (mem_t4 (List.mem_of_getElem? (i := 159) (by decide +kernel))) rfl, mem_lwg (mem_t0 (List.mem_of_getElem? (i := 27) (by decide +kernel))) rfl, _, _, rfl⟩
abbrev mX0_tryFrom : am_M := (yX0_tryFrom, cX0_tryFrom, 6, none)
theorem ky_X0_tryFrom : am_yV mX0_tryFrom 3 0 := ⟨⟨mem_lwg (mem_t4 (List.mem_of_getElem? (i := 167) rfl)) rfl, mem_lwg (mem_t1 (List.mem_of_getElem? (i := 8) (by decide +kernel))) rfl, by decide +kernel, by decide⟩, mem_lwg (mem_t4 (List.mem_of_getElem? (i := 166) (by decide +kernel))) rfl, mem_lwg (mem_t0 (List.mem_of_getElem? (i := 28) (by decide +kernel))) rfl, _, _, rfl⟩
abbrev mX0_worthOfNext : am_M := (yX0_worthOfNext, cX0_worthOfNext, 5, (some .int))
theorem ky_X0_worthOfNext : am_yV mX0_worthOfNext 2 0 := ⟨⟨mem_lwg (mem_t4 (List.mem_of_getElem? (i := 172) rfl)) rfl, mem_lwg (mem_t1 (List.mem_of_getElem? (i := 8) (by decide +kernel))) rfl, by decide +kernel, by decide⟩, mem_lwg (mem_t4 (List.mem_of_getElem? (i := 171) (by decide +kernel))) rfl, mem_lwg (mem_t0 (List.mem_of_getElem? (i := 29) (by decide +kernel))) rfl, _, _, rfl⟩
abbrev mX1_init : am_M := (yX1_init, cX1_init, 1, none)
theorem ky_X1_init : am_yI mX1_init 0 := ⟨⟨mem_lwg (mem_t1 (List.mem_of_getElem? (i := 69) rfl)) rfl, mem_lwg (mem_t1 (List.mem_of_getElem? (i := 4) (by decide +kernel))) rfl, by decide +kernel, by decide⟩, mem_lwg (mem_t1 (List.mem_of_getElem? (i := 68) (by decide +kernel))) rfl, rfl, rfl⟩
abbrev mX1_clear : am_M := (yX1_clear, cX1_clear, 1, none)
theorem ky_X1_clear : am_yV mX1_clear 0 1 := ⟨⟨mem_lwg (mem_t2 (List.mem_of_getElem? (i := 232) rfl)) rfl, mem_lwg (mem_t1 (List.mem_of_getElem? (i := 4) (by decide +kernel))) rfl, by decide +kernel, by decide⟩, mem_lwg (mem_t2 (List.mem_of_getElem? (i := 230) (by decide +kernel))) rfl, mem_lwg (mem_t2 (List.mem_of_getElem? (i := 231) (by decide +kernel))) rfl, _, _, rfl⟩
abbrev mX1_copyFrom : am_M := (yX1_copyFrom, cX1_copyFrom, 2, none)
theorem ky_X1_copyFrom : am_yV mX1_copyFrom 1 1 := ⟨⟨mem_lwg (mem_t5 (List.mem_of_getElem? (i := 176) rfl)) rfl, mem_lwg (mem_t1 (List.mem_of_getElem? (i := 4) (by decide +kernel))) rfl, by decide +kernel, by decide⟩, mem_lwg (mem_t5 (List.mem_of_getElem? (i := 174) (by decide +kernel))) rfl, mem_lwg (mem_t5 (List.mem_of_getElem? (i := 175) (by decide +kernel))) rfl, _, _, rfl⟩
abbrev mX1_add : am_M := (yX1_add, cX1_add, 4, (some .boolean))
theorem ky_X1_add : am_yV mX1_add 3 1 := ⟨⟨mem_lwg (mem_t5 (List.mem_of_getElem? (i := 93) rfl)) rfl, mem_lwg (mem_t1 (List.mem_of_getElem? (i := 4) (by decide +kernel))) rfl, by decide +kernel, by decide⟩, mem_lwg (mem_t5 (List.mem_of_getElem? (i := 91) (by decide +kernel))) rfl, mem_lwg (mem_t5 (List.mem_of_getElem? (i := 92) (by decide +kernel))) rfl, _, _, rfl⟩
abbrev mX1_follow : am_M := (yX1_follow, cX1_follow, 5, none)
theorem ky_X1_follow : am_yV mX1_follow 1 1 := ⟨⟨mem_lwg (mem_t5 (List.mem_of_getElem? (i := 101) rfl)) rfl, mem_lwg (mem_t1 (List.mem_of_getElem? (i := 4) (by decide +kernel))) rfl, by decide +kernel, by decide⟩, mem_lwg (mem_t5 (List.mem_of_getElem? (i := 99) (by decide +kernel))) rfl, mem_lwg (mem_t5 (List.mem_of_getElem? (i := 100) (by decide +kernel))) rfl, _, _, rfl⟩
abbrev mX1_isAbove : am_M := (yX1_isAbove, cX1_isAbove, 3, (some .boolean))
theorem ky_X1_isAbove : am_yV mX1_isAbove 2 1 := ⟨⟨mem_lwg (mem_t5 (List.mem_of_getElem? (i := 106) rfl)) rfl, mem_lwg (mem_t1 (List.mem_of_getElem? (i := 4) (by decide +kernel))) rfl, by decide +kernel, by decide⟩, mem_lwg (mem_t5 (List.mem_of_getElem? (i := 104) (by decide +kernel))) rfl, mem_lwg (mem_t5 (List.mem_of_getElem? (i := 105) (by decide +kernel))) rfl, _, _, rfl⟩
abbrev mX1_isTorn : am_M := (yX1_isTorn, cX1_isTorn, 2, (some .boolean))
theorem ky_X1_isTorn : am_yV mX1_isTorn 0 1 := ⟨⟨mem_lwg (mem_t5 (List.mem_of_getElem? (i := 110) rfl)) rfl, mem_lwg (mem_t1 (List.mem_of_getElem? (i := 4) (by decide +kernel))) rfl, by decide +kernel, by decide⟩, mem_lwg (mem_t5 (List.mem_of_getElem? (i := 108) (by decide +kernel))) rfl, mem_lwg (mem_t5 (List.mem_of_getElem? (i := 109) (by decide +kernel))) rfl, _, _, rfl⟩
abbrev mX2_init : am_M := (yX2_init, cX2_init, 3, none)
theorem ky_X2_init : am_yI mX2_init 2 := ⟨⟨mem_lwg (mem_t2 (List.mem_of_getElem? (i := 0) rfl)) rfl, mem_lwg (mem_t1 (List.mem_of_getElem? (i := 7) (by decide +kernel))) rfl, by decide +kernel, by decide⟩, mem_lwg (mem_t1 (List.mem_of_getElem? (i := 239) (by decide +kernel))) rfl, rfl, rfl⟩
abbrev mX2_decide : am_M := (yX2_decide, cX2_decide, 3, none)
theorem ky_X2_decide : am_yV mX2_decide 1 2 := ⟨⟨mem_lwg (mem_t4 (List.mem_of_getElem? (i := 89) rfl)) rfl, mem_lwg (mem_t1 (List.mem_of_getElem? (i := 7) (by decide +kernel))) rfl, by decide +kernel, by decide⟩, mem_lwg (mem_t4 (List.mem_of_getElem? (i := 87) (by decide +kernel))) rfl, mem_lwg (mem_t4 (List.mem_of_getElem? (i := 88) (by decide +kernel))) rfl, _, _, rfl⟩
abbrev mX2_weighSayings : am_M := (yX2_weighSayings, cX2_weighSayings, 5, none)
theorem ky_X2_weighSayings : am_yV mX2_weighSayings 1 2 := ⟨⟨mem_lwg (mem_t4 (List.mem_of_getElem? (i := 188) rfl)) rfl, mem_lwg (mem_t1 (List.mem_of_getElem? (i := 7) (by decide +kernel))) rfl, by decide +kernel, by decide⟩, mem_lwg (mem_t4 (List.mem_of_getElem? (i := 186) (by decide +kernel))) rfl, mem_lwg (mem_t4 (List.mem_of_getElem? (i := 187) (by decide +kernel))) rfl, _, _, rfl⟩
abbrev mX2_sayAlone : am_M := (yX2_sayAlone, cX2_sayAlone, 4, none)
theorem ky_X2_sayAlone : am_yV mX2_sayAlone 2 2 := ⟨⟨mem_lwg (mem_t4 (List.mem_of_getElem? (i := 194) rfl)) rfl, mem_lwg (mem_t1 (List.mem_of_getElem? (i := 7) (by decide +kernel))) rfl, by decide +kernel, by decide⟩, mem_lwg (mem_t4 (List.mem_of_getElem? (i := 193) (by decide +kernel))) rfl, mem_lwg (mem_t0 (List.mem_of_getElem? (i := 31) (by decide +kernel))) rfl, _, _, rfl⟩
abbrev mX2_decideWall : am_M := (yX2_decideWall, cX2_decideWall, 4, (some .int))
theorem ky_X2_decideWall : am_yV mX2_decideWall 2 2 := ⟨⟨mem_lwg (mem_t4 (List.mem_of_getElem? (i := 94) rfl)) rfl, mem_lwg (mem_t1 (List.mem_of_getElem? (i := 7) (by decide +kernel))) rfl, by decide +kernel, by decide⟩, mem_lwg (mem_t4 (List.mem_of_getElem? (i := 93) (by decide +kernel))) rfl, mem_lwg (mem_t0 (List.mem_of_getElem? (i := 16) (by decide +kernel))) rfl, _, _, rfl⟩
abbrev mX2_gatherFacts : am_M := (yX2_gatherFacts, cX2_gatherFacts, 7, none)
theorem ky_X2_gatherFacts : am_yV mX2_gatherFacts 1 2 := ⟨⟨mem_lwg (mem_t4 (List.mem_of_getElem? (i := 98) rfl)) rfl, mem_lwg (mem_t1 (List.mem_of_getElem? (i := 7) (by decide +kernel))) rfl, by decide +kernel, by decide⟩, mem_lwg (mem_t4 (List.mem_of_getElem? (i := 97) (by decide +kernel))) rfl, mem_lwg (mem_t0 (List.mem_of_getElem? (i := 17) (by decide +kernel))) rfl, _, _, rfl⟩
abbrev mX2_chosenMethod : am_M := (yX2_chosenMethod, cX2_chosenMethod, 5, (some .int))
theorem ky_X2_chosenMethod : am_yV mX2_chosenMethod 0 2 := ⟨⟨mem_lwg (mem_t4 (List.mem_of_getElem? (i := 104) rfl)) rfl, mem_lwg (mem_t1 (List.mem_of_getElem? (i := 7) (by decide +kernel))) rfl, by decide +kernel, by decide⟩, mem_lwg (mem_t4 (List.mem_of_getElem? (i := 103) (by decide +kernel))) rfl, mem_lwg (mem_t0 (List.mem_of_getElem? (i := 18) (by decide +kernel))) rfl, _, _, rfl⟩
abbrev mX2_holds : am_M := (yX2_holds, cX2_holds, 8, (some .boolean))
theorem ky_X2_holds : am_yV mX2_holds 2 2 := ⟨⟨mem_lwg (mem_t4 (List.mem_of_getElem? (i := 112) rfl)) rfl, mem_lwg (mem_t1 (List.mem_of_getElem? (i := 7) (by decide +kernel))) rfl, by decide +kernel, by decide⟩, mem_lwg (mem_t4 (List.mem_of_getElem? (i := 111) (by decide +kernel))) rfl, mem_lwg (mem_t0 (List.mem_of_getElem? (i := 19) (by decide +kernel))) rfl, _, _, rfl⟩
abbrev mX2_factAt : am_M := (yX2_factAt, cX2_factAt, 2, (some .int))
theorem ky_X2_factAt : am_yV mX2_factAt 1 2 := ⟨⟨mem_lwg (mem_t4 (List.mem_of_getElem? (i := 116) rfl)) rfl, mem_lwg (mem_t1 (List.mem_of_getElem? (i := 7) (by decide +kernel))) rfl, by decide +kernel, by decide⟩, mem_lwg (mem_t4 (List.mem_of_getElem? (i := 115) (by decide +kernel))) rfl, mem_lwg (mem_t0 (List.mem_of_getElem? (i := 20) (by decide +kernel))) rfl, _, _, rfl⟩
abbrev mX2_part : am_M := (yX2_part, cX2_part, 2, (some .int))
theorem ky_X2_part : am_yS mX2_part 2 := ⟨⟨mem_lwg (mem_t4 (List.mem_of_getElem? (i := 119) rfl)) rfl, mem_lwg (mem_t1 (List.mem_of_getElem? (i := 7) (by decide +kernel))) rfl, by decide +kernel, by decide⟩, mem_lwg (mem_t4 (List.mem_of_getElem? (i := 118) (by decide +kernel))) rfl⟩
abbrev mX2_joined : am_M := (yX2_joined, cX2_joined, 3, (some .int))
theorem ky_X2_joined : am_yS mX2_joined 3 := ⟨⟨mem_lwg (mem_t4 (List.mem_of_getElem? (i := 122) rfl)) rfl, mem_lwg (mem_t1 (List.mem_of_getElem? (i := 7) (by decide +kernel))) rfl, by decide +kernel, by decide⟩, mem_lwg (mem_t4 (List.mem_of_getElem? (i := 121) (by decide +kernel))) rfl⟩
abbrev mX2_seerOfMost : am_M := (yX2_seerOfMost, cX2_seerOfMost, 4, (some .int))
theorem ky_X2_seerOfMost : am_yV mX2_seerOfMost 1 2 := ⟨⟨mem_lwg (mem_t4 (List.mem_of_getElem? (i := 126) rfl)) rfl, mem_lwg (mem_t1 (List.mem_of_getElem? (i := 7) (by decide +kernel))) rfl, by decide +kernel, by decide⟩, mem_lwg (mem_t4 (List.mem_of_getElem? (i := 125) (by decide +kernel))) rfl, mem_lwg (mem_t0 (List.mem_of_getElem? (i := 21) (by decide +kernel))) rfl, _, _, rfl⟩
abbrev mX2_colourOfMost : am_M := (yX2_colourOfMost, cX2_colourOfMost, 8, (some .int))
theorem ky_X2_colourOfMost : am_yV mX2_colourOfMost 3 2 := ⟨⟨mem_lwg (mem_t4 (List.mem_of_getElem? (i := 134) rfl)) rfl, mem_lwg (mem_t1 (List.mem_of_getElem? (i := 7) (by decide +kernel))) rfl, by decide +kernel, by decide⟩, mem_lwg (mem_t4 (List.mem_of_getElem? (i := 133) (by decide +kernel))) rfl, mem_lwg (mem_t0 (List.mem_of_getElem? (i := 22) (by decide +kernel))) rfl, _, _, rfl⟩
abbrev mX2_pointsOf : am_M := (yX2_pointsOf, cX2_pointsOf, 8, (some .int))
theorem ky_X2_pointsOf : am_yV mX2_pointsOf 4 2 := ⟨⟨mem_lwg (mem_t4 (List.mem_of_getElem? (i := 138) rfl)) rfl, mem_lwg (mem_t1 (List.mem_of_getElem? (i := 7) (by decide +kernel))) rfl, by decide +kernel, by decide⟩, mem_lwg (mem_t4 (List.mem_of_getElem? (i := 137) (by decide +kernel))) rfl, mem_lwg (mem_t0 (List.mem_of_getElem? (i := 23) (by decide +kernel))) rfl, _, _, rfl⟩
abbrev mX2_colourByTurn : am_M := (yX2_colourByTurn, cX2_colourByTurn, 4, (some .int))
theorem ky_X2_colourByTurn : am_yV mX2_colourByTurn 2 2 := ⟨⟨mem_lwg (mem_t4 (List.mem_of_getElem? (i := 142) rfl)) rfl, mem_lwg (mem_t1 (List.mem_of_getElem? (i := 7) (by decide +kernel))) rfl, by decide +kernel, by decide⟩, mem_lwg (mem_t4 (List.mem_of_getElem? (i := 141) (by decide +kernel))) rfl, mem_lwg (mem_t0 (List.mem_of_getElem? (i := 24) (by decide +kernel))) rfl, _, _, rfl⟩
abbrev mX3_init : am_M := (yX3_init, cX3_init, 3, none)
theorem ky_X3_init : am_yI mX3_init 2 := ⟨⟨mem_lwg (mem_t2 (List.mem_of_getElem? (i := 115) rfl)) rfl, mem_lwg (mem_t1 (List.mem_of_getElem? (i := 11) (by decide +kernel))) rfl, by decide +kernel, by decide⟩, mem_lwg (mem_t2 (List.mem_of_getElem? (i := 114) (by decide +kernel))) rfl, rfl, rfl⟩
abbrev mX3_greatestSum : am_M := (yX3_greatestSum, cX3_greatestSum, 1, (some .int))
theorem ky_X3_greatestSum : am_yV mX3_greatestSum 0 3 := ⟨⟨mem_lwg (mem_t5 (List.mem_of_getElem? (i := 72) rfl)) rfl, mem_lwg (mem_t1 (List.mem_of_getElem? (i := 11) (by decide +kernel))) rfl, by decide +kernel, by decide⟩, mem_lwg (mem_t5 (List.mem_of_getElem? (i := 70) (by decide +kernel))) rfl, mem_lwg (mem_t5 (List.mem_of_getElem? (i := 71) (by decide +kernel))) rfl, _, _, rfl⟩
abbrev mX3_plan : am_M := (yX3_plan, cX3_plan, 3, none)
theorem ky_X3_plan : am_yV mX3_plan 0 3 := ⟨⟨mem_lwg (mem_t5 (List.mem_of_getElem? (i := 51) rfl)) rfl, mem_lwg (mem_t1 (List.mem_of_getElem? (i := 11) (by decide +kernel))) rfl, by decide +kernel, by decide⟩, mem_lwg (mem_t5 (List.mem_of_getElem? (i := 49) (by decide +kernel))) rfl, mem_lwg (mem_t5 (List.mem_of_getElem? (i := 50) (by decide +kernel))) rfl, _, _, rfl⟩
abbrev mX3_firstSwap : am_M := (yX3_firstSwap, cX3_firstSwap, 3, (some .int))
theorem ky_X3_firstSwap : am_yV mX3_firstSwap 0 3 := ⟨⟨mem_lwg (mem_t5 (List.mem_of_getElem? (i := 80) rfl)) rfl, mem_lwg (mem_t1 (List.mem_of_getElem? (i := 11) (by decide +kernel))) rfl, by decide +kernel, by decide⟩, mem_lwg (mem_t5 (List.mem_of_getElem? (i := 78) (by decide +kernel))) rfl, mem_lwg (mem_t5 (List.mem_of_getElem? (i := 79) (by decide +kernel))) rfl, _, _, rfl⟩
abbrev mX3_likesHouseOf : am_M := (yX3_likesHouseOf, cX3_likesHouseOf, 3, (some .boolean))
theorem ky_X3_likesHouseOf : am_yV mX3_likesHouseOf 2 3 := ⟨⟨mem_lwg (mem_t5 (List.mem_of_getElem? (i := 84) rfl)) rfl, mem_lwg (mem_t1 (List.mem_of_getElem? (i := 11) (by decide +kernel))) rfl, by decide +kernel, by decide⟩, mem_lwg (mem_t5 (List.mem_of_getElem? (i := 83) (by decide +kernel))) rfl, mem_lwg (mem_t0 (List.mem_of_getElem? (i := 41) (by decide +kernel))) rfl, _, _, rfl⟩
abbrev mX3_greatestFrom : am_M := (yX3_greatestFrom, cX3_greatestFrom, 5, (some .int))
theorem ky_X3_greatestFrom : am_yV mX3_greatestFrom 1 3 := ⟨⟨mem_lwg (mem_t5 (List.mem_of_getElem? (i := 57) rfl)) rfl, mem_lwg (mem_t1 (List.mem_of_getElem? (i := 11) (by decide +kernel))) rfl, by decide +kernel, by decide⟩, mem_lwg (mem_t5 (List.mem_of_getElem? (i := 56) (by decide +kernel))) rfl, mem_lwg (mem_t0 (List.mem_of_getElem? (i := 38) (by decide +kernel))) rfl, _, _, rfl⟩
abbrev mX3_sumWith : am_M := (yX3_sumWith, cX3_sumWith, 4, (some .int))
theorem ky_X3_sumWith : am_yV mX3_sumWith 3 3 := ⟨⟨mem_lwg (mem_t5 (List.mem_of_getElem? (i := 63) rfl)) rfl, mem_lwg (mem_t1 (List.mem_of_getElem? (i := 11) (by decide +kernel))) rfl, by decide +kernel, by decide⟩, mem_lwg (mem_t5 (List.mem_of_getElem? (i := 62) (by decide +kernel))) rfl, mem_lwg (mem_t0 (List.mem_of_getElem? (i := 39) (by decide +kernel))) rfl, _, _, rfl⟩
abbrev mX3_firstHouse : am_M := (yX3_firstHouse, cX3_firstHouse, 4, (some .int))
theorem ky_X3_firstHouse : am_yV mX3_firstHouse 2 3 := ⟨⟨mem_lwg (mem_t5 (List.mem_of_getElem? (i := 68) rfl)) rfl, mem_lwg (mem_t1 (List.mem_of_getElem? (i := 11) (by decide +kernel))) rfl, by decide +kernel, by decide⟩, mem_lwg (mem_t5 (List.mem_of_getElem? (i := 67) (by decide +kernel))) rfl, mem_lwg (mem_t0 (List.mem_of_getElem? (i := 40) (by decide +kernel))) rfl, _, _, rfl⟩
abbrev mX4_init : am_M := (yX4_init, cX4_init, 3, none)
theorem ky_X4_init : am_yI mX4_init 2 := ⟨⟨mem_lwg (mem_t2 (List.mem_of_getElem? (i := 88) rfl)) rfl, mem_lwg (mem_t1 (List.mem_of_getElem? (i := 10) (by decide +kernel))) rfl, by decide +kernel, by decide⟩, mem_lwg (mem_t2 (List.mem_of_getElem? (i := 87) (by decide +kernel))) rfl, rfl, rfl⟩
abbrev mX4_consider : am_M := (yX4_consider, cX4_consider, 6, none)
theorem ky_X4_consider : am_yV mX4_consider 4 4 := ⟨⟨mem_lwg (mem_t5 (List.mem_of_getElem? (i := 25) rfl)) rfl, mem_lwg (mem_t1 (List.mem_of_getElem? (i := 10) (by decide +kernel))) rfl, by decide +kernel, by decide⟩, mem_lwg (mem_t5 (List.mem_of_getElem? (i := 23) (by decide +kernel))) rfl, mem_lwg (mem_t5 (List.mem_of_getElem? (i := 24) (by decide +kernel))) rfl, _, _, rfl⟩
abbrev mX4_weighGains : am_M := (yX4_weighGains, cX4_weighGains, 4, none)
theorem ky_X4_weighGains : am_yV mX4_weighGains 2 4 := ⟨⟨mem_lwg (mem_t5 (List.mem_of_getElem? (i := 29) rfl)) rfl, mem_lwg (mem_t1 (List.mem_of_getElem? (i := 10) (by decide +kernel))) rfl, by decide +kernel, by decide⟩, mem_lwg (mem_t5 (List.mem_of_getElem? (i := 28) (by decide +kernel))) rfl, mem_lwg (mem_t0 (List.mem_of_getElem? (i := 36) (by decide +kernel))) rfl, _, _, rfl⟩
abbrev mX4_isKept : am_M := (yX4_isKept, cX4_isKept, 10, (some .boolean))
theorem ky_X4_isKept : am_yV mX4_isKept 3 4 := ⟨⟨mem_lwg (mem_t5 (List.mem_of_getElem? (i := 37) rfl)) rfl, mem_lwg (mem_t1 (List.mem_of_getElem? (i := 10) (by decide +kernel))) rfl, by decide +kernel, by decide⟩, mem_lwg (mem_t5 (List.mem_of_getElem? (i := 36) (by decide +kernel))) rfl, mem_lwg (mem_t0 (List.mem_of_getElem? (i := 37) (by decide +kernel))) rfl, _, _, rfl⟩
abbrev mX5_init : am_M := (yX5_init, cX5_init, 1, none)
theorem ky_X5_init : am_yI mX5_init 0 := ⟨⟨mem_lwg (mem_t1 (List.mem_of_getElem? (i := 86) rfl)) rfl, mem_lwg (mem_t1 (List.mem_of_getElem? (i := 5) (by decide +kernel))) rfl, by decide +kernel, by decide⟩, mem_lwg (mem_t1 (List.mem_of_getElem? (i := 85) (by decide +kernel))) rfl, rfl, rfl⟩
abbrev mX5_clear : am_M := (yX5_clear, cX5_clear, 1, none)
theorem ky_X5_clear : am_yV mX5_clear 0 5 := ⟨⟨mem_lwg (mem_t2 (List.mem_of_getElem? (i := 237) rfl)) rfl, mem_lwg (mem_t1 (List.mem_of_getElem? (i := 5) (by decide +kernel))) rfl, by decide +kernel, by decide⟩, mem_lwg (mem_t2 (List.mem_of_getElem? (i := 235) (by decide +kernel))) rfl, mem_lwg (mem_t2 (List.mem_of_getElem? (i := 236) (by decide +kernel))) rfl, _, _, rfl⟩
abbrev mX5_copyFrom : am_M := (yX5_copyFrom, cX5_copyFrom, 2, none)
theorem ky_X5_copyFrom : am_yV mX5_copyFrom 1 5 := ⟨⟨mem_lwg (mem_t5 (List.mem_of_getElem? (i := 180) rfl)) rfl, mem_lwg (mem_t1 (List.mem_of_getElem? (i := 5) (by decide +kernel))) rfl, by decide +kernel, by decide⟩, mem_lwg (mem_t5 (List.mem_of_getElem? (i := 178) (by decide +kernel))) rfl, mem_lwg (mem_t5 (List.mem_of_getElem? (i := 179) (by decide +kernel))) rfl, _, _, rfl⟩
abbrev mX5_join : am_M := (yX5_join, cX5_join, 4, none)
theorem ky_X5_join : am_yV mX5_join 3 5 := ⟨⟨mem_lwg (mem_t5 (List.mem_of_getElem? (i := 126) rfl)) rfl, mem_lwg (mem_t1 (List.mem_of_getElem? (i := 5) (by decide +kernel))) rfl, by decide +kernel, by decide⟩, mem_lwg (mem_t5 (List.mem_of_getElem? (i := 124) (by decide +kernel))) rfl, mem_lwg (mem_t5 (List.mem_of_getElem? (i := 125) (by decide +kernel))) rfl, _, _, rfl⟩
abbrev mX5_findWay : am_M := (yX5_findWay, cX5_findWay, 4, (some .boolean))
theorem ky_X5_findWay : am_yV mX5_findWay 3 5 := ⟨⟨mem_lwg (mem_t5 (List.mem_of_getElem? (i := 134) rfl)) rfl, mem_lwg (mem_t1 (List.mem_of_getElem? (i := 5) (by decide +kernel))) rfl, by decide +kernel, by decide⟩, mem_lwg (mem_t5 (List.mem_of_getElem? (i := 132) (by decide +kernel))) rfl, mem_lwg (mem_t5 (List.mem_of_getElem? (i := 133) (by decide +kernel))) rfl, _, _, rfl⟩
abbrev mX5_walk : am_M := (yX5_walk, cX5_walk, 8, none)
theorem ky_X5_walk : am_yV mX5_walk 4 5 := ⟨⟨mem_lwg (mem_t5 (List.mem_of_getElem? (i := 138) rfl)) rfl, mem_lwg (mem_t1 (List.mem_of_getElem? (i := 5) (by decide +kernel))) rfl, by decide +kernel, by decide⟩, mem_lwg (mem_t5 (List.mem_of_getElem? (i := 137) (by decide +kernel))) rfl, mem_lwg (mem_t0 (List.mem_of_getElem? (i := 42) (by decide +kernel))) rfl, _, _, rfl⟩
abbrev mX5_keepRoute : am_M := (yX5_keepRoute, cX5_keepRoute, 3, none)
theorem ky_X5_keepRoute : am_yV mX5_keepRoute 2 5 := ⟨⟨mem_lwg (mem_t5 (List.mem_of_getElem? (i := 142) rfl)) rfl, mem_lwg (mem_t1 (List.mem_of_getElem? (i := 5) (by decide +kernel))) rfl, by decide +kernel, by decide⟩, mem_lwg (mem_t5 (List.mem_of_getElem? (i := 141) (by decide +kernel))) rfl, mem_lwg (mem_t0 (List.mem_of_getElem? (i := 43) (by decide +kernel))) rfl, _, _, rfl⟩
abbrev mX6_init : am_M := (yX6_init, cX6_init, 1, none)
theorem ky_X6_init : am_yI mX6_init 0 := ⟨⟨mem_lwg (mem_t1 (List.mem_of_getElem? (i := 41) rfl)) rfl, mem_lwg (mem_t1 (List.mem_of_getElem? (i := 3) (by decide +kernel))) rfl, by decide +kernel, by decide⟩, mem_lwg (mem_t1 (List.mem_of_getElem? (i := 40) (by decide +kernel))) rfl, rfl, rfl⟩
abbrev mX6_clear : am_M := (yX6_clear, cX6_clear, 1, none)
theorem ky_X6_clear : am_yV mX6_clear 0 6 := ⟨⟨mem_lwg (mem_t2 (List.mem_of_getElem? (i := 228) rfl)) rfl, mem_lwg (mem_t1 (List.mem_of_getElem? (i := 3) (by decide +kernel))) rfl, by decide +kernel, by decide⟩, mem_lwg (mem_t2 (List.mem_of_getElem? (i := 226) (by decide +kernel))) rfl, mem_lwg (mem_t2 (List.mem_of_getElem? (i := 227) (by decide +kernel))) rfl, _, _, rfl⟩
abbrev mX6_copyFrom : am_M := (yX6_copyFrom, cX6_copyFrom, 2, none)
theorem ky_X6_copyFrom : am_yV mX6_copyFrom 1 6 := ⟨⟨mem_lwg (mem_t4 (List.mem_of_getElem? (i := 33) rfl)) rfl, mem_lwg (mem_t1 (List.mem_of_getElem? (i := 3) (by decide +kernel))) rfl, by decide +kernel, by decide⟩, mem_lwg (mem_t4 (List.mem_of_getElem? (i := 31) (by decide +kernel))) rfl, mem_lwg (mem_t4 (List.mem_of_getElem? (i := 32) (by decide +kernel))) rfl, _, _, rfl⟩
abbrev mX6_addStep : am_M := (yX6_addStep, cX6_addStep, 3, none)
theorem ky_X6_addStep : am_yV mX6_addStep 2 6 := ⟨⟨mem_lwg (mem_t4 (List.mem_of_getElem? (i := 10) rfl)) rfl, mem_lwg (mem_t1 (List.mem_of_getElem? (i := 3) (by decide +kernel))) rfl, by decide +kernel, by decide⟩, mem_lwg (mem_t4 (List.mem_of_getElem? (i := 8) (by decide +kernel))) rfl, mem_lwg (mem_t4 (List.mem_of_getElem? (i := 9) (by decide +kernel))) rfl, _, _, rfl⟩
abbrev mX6_addLine : am_M := (yX6_addLine, cX6_addLine, 2, none)
theorem ky_X6_addLine : am_yV mX6_addLine 1 6 := ⟨⟨mem_lwg (mem_t4 (List.mem_of_getElem? (i := 29) rfl)) rfl, mem_lwg (mem_t1 (List.mem_of_getElem? (i := 3) (by decide +kernel))) rfl, by decide +kernel, by decide⟩, mem_lwg (mem_t4 (List.mem_of_getElem? (i := 27) (by decide +kernel))) rfl, mem_lwg (mem_t4 (List.mem_of_getElem? (i := 28) (by decide +kernel))) rfl, _, _, rfl⟩
abbrev mX6_stepsFrom : am_M := (yX6_stepsFrom, cX6_stepsFrom, 2, (some .int))
theorem ky_X6_stepsFrom : am_yV mX6_stepsFrom 1 6 := ⟨⟨mem_lwg (mem_t4 (List.mem_of_getElem? (i := 108) rfl)) rfl, mem_lwg (mem_t1 (List.mem_of_getElem? (i := 3) (by decide +kernel))) rfl, by decide +kernel, by decide⟩, mem_lwg (mem_t4 (List.mem_of_getElem? (i := 106) (by decide +kernel))) rfl, mem_lwg (mem_t4 (List.mem_of_getElem? (i := 107) (by decide +kernel))) rfl, _, _, rfl⟩
abbrev mX7_init : am_M := (yX7_init, cX7_init, 1, none)
theorem ky_X7_init : am_yI mX7_init 0 := ⟨⟨mem_lwg (mem_t2 (List.mem_of_getElem? (i := 138) rfl)) rfl, mem_lwg (mem_t1 (List.mem_of_getElem? (i := 12) (by decide +kernel))) rfl, by decide +kernel, by decide⟩, mem_lwg (mem_t2 (List.mem_of_getElem? (i := 137) (by decide +kernel))) rfl, rfl, rfl⟩
abbrev mX7_read : am_M := (yX7_read, cX7_read, 4, (some .boolean))
theorem ky_X7_read : am_yV mX7_read 2 7 := ⟨⟨mem_lwg (mem_t3 (List.mem_of_getElem? (i := 76) rfl)) rfl, mem_lwg (mem_t1 (List.mem_of_getElem? (i := 12) (by decide +kernel))) rfl, by decide +kernel, by decide⟩, mem_lwg (mem_t3 (List.mem_of_getElem? (i := 74) (by decide +kernel))) rfl, mem_lwg (mem_t3 (List.mem_of_getElem? (i := 75) (by decide +kernel))) rfl, _, _, rfl⟩
abbrev mX7_advance : am_M := (yX7_advance, cX7_advance, 1, none)
theorem ky_X7_advance : am_yV mX7_advance 0 7 := ⟨⟨mem_lwg (mem_t3 (List.mem_of_getElem? (i := 222) rfl)) rfl, mem_lwg (mem_t1 (List.mem_of_getElem? (i := 12) (by decide +kernel))) rfl, by decide +kernel, by decide⟩, mem_lwg (mem_t3 (List.mem_of_getElem? (i := 221) (by decide +kernel))) rfl, mem_lwg (mem_t0 (List.mem_of_getElem? (i := 5) (by decide +kernel))) rfl, _, _, rfl⟩
abbrev mX7_refuse : am_M := (yX7_refuse, cX7_refuse, 2, (some .boolean))
theorem ky_X7_refuse : am_yV mX7_refuse 1 7 := ⟨⟨mem_lwg (mem_t3 (List.mem_of_getElem? (i := 218) rfl)) rfl, mem_lwg (mem_t1 (List.mem_of_getElem? (i := 12) (by decide +kernel))) rfl, by decide +kernel, by decide⟩, mem_lwg (mem_t3 (List.mem_of_getElem? (i := 217) (by decide +kernel))) rfl, mem_lwg (mem_t0 (List.mem_of_getElem? (i := 4) (by decide +kernel))) rfl, _, _, rfl⟩
abbrev mX7_readLine : am_M := (yX7_readLine, cX7_readLine, 3, (some .boolean))
theorem ky_X7_readLine : am_yV mX7_readLine 1 7 := ⟨⟨mem_lwg (mem_t3 (List.mem_of_getElem? (i := 214) rfl)) rfl, mem_lwg (mem_t1 (List.mem_of_getElem? (i := 12) (by decide +kernel))) rfl, by decide +kernel, by decide⟩, mem_lwg (mem_t3 (List.mem_of_getElem? (i := 213) (by decide +kernel))) rfl, mem_lwg (mem_t0 (List.mem_of_getElem? (i := 3) (by decide +kernel))) rfl, _, _, rfl⟩
abbrev mX7_readAny : am_M := (yX7_readAny, cX7_readAny, 3, (some .boolean))
theorem ky_X7_readAny : am_yV mX7_readAny 1 7 := ⟨⟨mem_lwg (mem_t3 (List.mem_of_getElem? (i := 226) rfl)) rfl, mem_lwg (mem_t1 (List.mem_of_getElem? (i := 12) (by decide +kernel))) rfl, by decide +kernel, by decide⟩, mem_lwg (mem_t3 (List.mem_of_getElem? (i := 225) (by decide +kernel))) rfl, mem_lwg (mem_t0 (List.mem_of_getElem? (i := 6) (by decide +kernel))) rfl, _, _, rfl⟩
abbrev mX7_readAll : am_M := (yX7_readAll, cX7_readAll, 3, (some .boolean))
theorem ky_X7_readAll : am_yV mX7_readAll 1 7 := ⟨⟨mem_lwg (mem_t3 (List.mem_of_getElem? (i := 230) rfl)) rfl, mem_lwg (mem_t1 (List.mem_of_getElem? (i := 12) (by decide +kernel))) rfl, by decide +kernel, by decide⟩, mem_lwg (mem_t3 (List.mem_of_getElem? (i := 229) (by decide +kernel))) rfl, mem_lwg (mem_t0 (List.mem_of_getElem? (i := 7) (by decide +kernel))) rfl, _, _, rfl⟩
abbrev mX7_readOne : am_M := (yX7_readOne, cX7_readOne, 3, (some .boolean))
theorem ky_X7_readOne : am_yV mX7_readOne 1 7 := ⟨⟨mem_lwg (mem_t3 (List.mem_of_getElem? (i := 234) rfl)) rfl, mem_lwg (mem_t1 (List.mem_of_getElem? (i := 12) (by decide +kernel))) rfl, by decide +kernel, by decide⟩, mem_lwg (mem_t3 (List.mem_of_getElem? (i := 233) (by decide +kernel))) rfl, mem_lwg (mem_t0 (List.mem_of_getElem? (i := 8) (by decide +kernel))) rfl, _, _, rfl⟩
abbrev mX7_readDenied : am_M := (yX7_readDenied, cX7_readDenied, 2, (some .boolean))
theorem ky_X7_readDenied : am_yV mX7_readDenied 1 7 := ⟨⟨mem_lwg (mem_t4 (List.mem_of_getElem? (i := 21) rfl)) rfl, mem_lwg (mem_t1 (List.mem_of_getElem? (i := 12) (by decide +kernel))) rfl, by decide +kernel, by decide⟩, mem_lwg (mem_t4 (List.mem_of_getElem? (i := 20) (by decide +kernel))) rfl, mem_lwg (mem_t0 (List.mem_of_getElem? (i := 13) (by decide +kernel))) rfl, _, _, rfl⟩
abbrev mX7_readBracket : am_M := (yX7_readBracket, cX7_readBracket, 2, (some .boolean))
theorem ky_X7_readBracket : am_yV mX7_readBracket 1 7 := ⟨⟨mem_lwg (mem_t4 (List.mem_of_getElem? (i := 25) rfl)) rfl, mem_lwg (mem_t1 (List.mem_of_getElem? (i := 12) (by decide +kernel))) rfl, by decide +kernel, by decide⟩, mem_lwg (mem_t4 (List.mem_of_getElem? (i := 24) (by decide +kernel))) rfl, mem_lwg (mem_t0 (List.mem_of_getElem? (i := 14) (by decide +kernel))) rfl, _, _, rfl⟩
abbrev mX7_readComparison : am_M := (yX7_readComparison, cX7_readComparison, 2, (some .boolean))
theorem ky_X7_readComparison : am_yV mX7_readComparison 0 7 := ⟨⟨mem_lwg (mem_t3 (List.mem_of_getElem? (i := 238) rfl)) rfl, mem_lwg (mem_t1 (List.mem_of_getElem? (i := 12) (by decide +kernel))) rfl, by decide +kernel, by decide⟩, mem_lwg (mem_t3 (List.mem_of_getElem? (i := 237) (by decide +kernel))) rfl, mem_lwg (mem_t0 (List.mem_of_getElem? (i := 9) (by decide +kernel))) rfl, _, _, rfl⟩
abbrev mX7_readSum : am_M := (yX7_readSum, cX7_readSum, 4, (some .boolean))
theorem ky_X7_readSum : am_yV mX7_readSum 0 7 := ⟨⟨mem_lwg (mem_t4 (List.mem_of_getElem? (i := 2) rfl)) rfl, mem_lwg (mem_t1 (List.mem_of_getElem? (i := 12) (by decide +kernel))) rfl, by decide +kernel, by decide⟩, mem_lwg (mem_t4 (List.mem_of_getElem? (i := 1) (by decide +kernel))) rfl, mem_lwg (mem_t0 (List.mem_of_getElem? (i := 10) (by decide +kernel))) rfl, _, _, rfl⟩
abbrev mX7_readUnit : am_M := (yX7_readUnit, cX7_readUnit, 1, (some .boolean))
theorem ky_X7_readUnit : am_yV mX7_readUnit 0 7 := ⟨⟨mem_lwg (mem_t4 (List.mem_of_getElem? (i := 6) rfl)) rfl, mem_lwg (mem_t1 (List.mem_of_getElem? (i := 12) (by decide +kernel))) rfl, by decide +kernel, by decide⟩, mem_lwg (mem_t4 (List.mem_of_getElem? (i := 5) (by decide +kernel))) rfl, mem_lwg (mem_t0 (List.mem_of_getElem? (i := 11) (by decide +kernel))) rfl, _, _, rfl⟩
abbrev mX7_readPart : am_M := (yX7_readPart, cX7_readPart, 1, (some .boolean))
theorem ky_X7_readPart : am_yV mX7_readPart 0 7 := ⟨⟨mem_lwg (mem_t4 (List.mem_of_getElem? (i := 17) rfl)) rfl, mem_lwg (mem_t1 (List.mem_of_getElem? (i := 12) (by decide +kernel))) rfl, by decide +kernel, by decide⟩, mem_lwg (mem_t4 (List.mem_of_getElem? (i := 16) (by decide +kernel))) rfl, mem_lwg (mem_t0 (List.mem_of_getElem? (i := 12) (by decide +kernel))) rfl, _, _, rfl⟩
abbrev mX7_isJoining : am_M := (yX7_isJoining, cX7_isJoining, 1, (some .boolean))
theorem ky_X7_isJoining : am_yS mX7_isJoining 1 := ⟨⟨mem_lwg (mem_t4 (List.mem_of_getElem? (i := 13) rfl)) rfl, mem_lwg (mem_t1 (List.mem_of_getElem? (i := 12) (by decide +kernel))) rfl, by decide +kernel, by decide⟩, mem_lwg (mem_t4 (List.mem_of_getElem? (i := 12) (by decide +kernel))) rfl⟩
abbrev mX7_split : am_M := (yX7_split, cX7_split, 6, none)
theorem ky_X7_split : am_yV mX7_split 2 7 := ⟨⟨mem_lwg (mem_t3 (List.mem_of_getElem? (i := 84) rfl)) rfl, mem_lwg (mem_t1 (List.mem_of_getElem? (i := 12) (by decide +kernel))) rfl, by decide +kernel, by decide⟩, mem_lwg (mem_t3 (List.mem_of_getElem? (i := 83) (by decide +kernel))) rfl, mem_lwg (mem_t0 (List.mem_of_getElem? (i := 1) (by decide +kernel))) rfl, _, _, rfl⟩
abbrev mX7_addToken : am_M := (yX7_addToken, cX7_addToken, 3, none)
theorem ky_X7_addToken : am_yV mX7_addToken 2 7 := ⟨⟨mem_lwg (mem_t3 (List.mem_of_getElem? (i := 210) rfl)) rfl, mem_lwg (mem_t1 (List.mem_of_getElem? (i := 12) (by decide +kernel))) rfl, by decide +kernel, by decide⟩, mem_lwg (mem_t3 (List.mem_of_getElem? (i := 209) (by decide +kernel))) rfl, mem_lwg (mem_t0 (List.mem_of_getElem? (i := 2) (by decide +kernel))) rfl, _, _, rfl⟩
abbrev mX7_kindOf : am_M := (yX7_kindOf, cX7_kindOf, 1, (some .int))
theorem ky_X7_kindOf : am_yS mX7_kindOf 1 := ⟨⟨mem_lwg (mem_t3 (List.mem_of_getElem? (i := 87) rfl)) rfl, mem_lwg (mem_t1 (List.mem_of_getElem? (i := 12) (by decide +kernel))) rfl, by decide +kernel, by decide⟩, mem_lwg (mem_t3 (List.mem_of_getElem? (i := 86) (by decide +kernel))) rfl⟩
abbrev mX7_tokenOf : am_M := (yX7_tokenOf, cX7_tokenOf, 4, (some .int))
theorem ky_X7_tokenOf : am_yS mX7_tokenOf 4 := ⟨⟨mem_lwg (mem_t3 (List.mem_of_getElem? (i := 90) rfl)) rfl, mem_lwg (mem_t1 (List.mem_of_getElem? (i := 12) (by decide +kernel))) rfl, by decide +kernel, by decide⟩, mem_lwg (mem_t3 (List.mem_of_getElem? (i := 89) (by decide +kernel))) rfl⟩
abbrev mX7_numberAt : am_M := (yX7_numberAt, cX7_numberAt, 5, (some .int))
theorem ky_X7_numberAt : am_yS mX7_numberAt 3 := ⟨⟨mem_lwg (mem_t3 (List.mem_of_getElem? (i := 148) rfl)) rfl, mem_lwg (mem_t1 (List.mem_of_getElem? (i := 12) (by decide +kernel))) rfl, by decide +kernel, by decide⟩, mem_lwg (mem_t3 (List.mem_of_getElem? (i := 147) (by decide +kernel))) rfl⟩
abbrev mX7_keywordAt : am_M := (yX7_keywordAt, cX7_keywordAt, 6, (some .int))
theorem ky_X7_keywordAt : am_yS mX7_keywordAt 3 := ⟨⟨mem_lwg (mem_t3 (List.mem_of_getElem? (i := 93) rfl)) rfl, mem_lwg (mem_t1 (List.mem_of_getElem? (i := 12) (by decide +kernel))) rfl, by decide +kernel, by decide⟩, mem_lwg (mem_t3 (List.mem_of_getElem? (i := 92) (by decide +kernel))) rfl⟩
abbrev mX7_isKeyword : am_M := (yX7_isKeyword, cX7_isKeyword, 5, (some .boolean))
theorem ky_X7_isKeyword : am_yS mX7_isKeyword 4 := ⟨⟨mem_lwg (mem_t3 (List.mem_of_getElem? (i := 145) rfl)) rfl, mem_lwg (mem_t1 (List.mem_of_getElem? (i := 12) (by decide +kernel))) rfl, by decide +kernel, by decide⟩, mem_lwg (mem_t3 (List.mem_of_getElem? (i := 144) (by decide +kernel))) rfl⟩
abbrev mX8_init : am_M := (yX8_init, cX8_init, 2, none)
theorem ky_X8_init : am_yI mX8_init 1 := ⟨⟨mem_lwg (mem_t1 (List.mem_of_getElem? (i := 227) rfl)) rfl, mem_lwg (mem_t1 (List.mem_of_getElem? (i := 6) (by decide +kernel))) rfl, by decide +kernel, by decide⟩, mem_lwg (mem_t1 (List.mem_of_getElem? (i := 226) (by decide +kernel))) rfl, rfl, rfl⟩
abbrev mX8_measure : am_M := (yX8_measure, cX8_measure, 4, none)
theorem ky_X8_measure : am_yV mX8_measure 0 8 := ⟨⟨mem_lwg (mem_t4 (List.mem_of_getElem? (i := 49) rfl)) rfl, mem_lwg (mem_t1 (List.mem_of_getElem? (i := 6) (by decide +kernel))) rfl, by decide +kernel, by decide⟩, mem_lwg (mem_t4 (List.mem_of_getElem? (i := 47) (by decide +kernel))) rfl, mem_lwg (mem_t4 (List.mem_of_getElem? (i := 48) (by decide +kernel))) rfl, _, _, rfl⟩
abbrev mX8_yardsFrom : am_M := (yX8_yardsFrom, cX8_yardsFrom, 3, (some .int))
theorem ky_X8_yardsFrom : am_yV mX8_yardsFrom 2 8 := ⟨⟨mem_lwg (mem_t4 (List.mem_of_getElem? (i := 72) rfl)) rfl, mem_lwg (mem_t1 (List.mem_of_getElem? (i := 6) (by decide +kernel))) rfl, by decide +kernel, by decide⟩, mem_lwg (mem_t4 (List.mem_of_getElem? (i := 70) (by decide +kernel))) rfl, mem_lwg (mem_t4 (List.mem_of_getElem? (i := 71) (by decide +kernel))) rfl, _, _, rfl⟩
abbrev mX8_yardsOf : am_M := (yX8_yardsOf, cX8_yardsOf, 3, (some .int))
theorem ky_X8_yardsOf : am_yV mX8_yardsOf 2 8 := ⟨⟨mem_lwg (mem_t4 (List.mem_of_getElem? (i := 55) rfl)) rfl, mem_lwg (mem_t1 (List.mem_of_getElem? (i := 6) (by decide +kernel))) rfl, by decide +kernel, by decide⟩, mem_lwg (mem_t4 (List.mem_of_getElem? (i := 53) (by decide +kernel))) rfl, mem_lwg (mem_t4 (List.mem_of_getElem? (i := 54) (by decide +kernel))) rfl, _, _, rfl⟩
abbrev mX8_worthOfTwo : am_M := (yX8_worthOfTwo, cX8_worthOfTwo, 5, (some .int))
theorem ky_X8_worthOfTwo : am_yV mX8_worthOfTwo 4 8 := ⟨⟨mem_lwg (mem_t4 (List.mem_of_getElem? (i := 76) rfl)) rfl, mem_lwg (mem_t1 (List.mem_of_getElem? (i := 6) (by decide +kernel))) rfl, by decide +kernel, by decide⟩, mem_lwg (mem_t4 (List.mem_of_getElem? (i := 74) (by decide +kernel))) rfl, mem_lwg (mem_t4 (List.mem_of_getElem? (i := 75) (by decide +kernel))) rfl, _, _, rfl⟩
abbrev mX8_worthIn : am_M := (yX8_worthIn, cX8_worthIn, 7, (some .int))
theorem ky_X8_worthIn : am_yV mX8_worthIn 3 8 := ⟨⟨mem_lwg (mem_t4 (List.mem_of_getElem? (i := 68) rfl)) rfl, mem_lwg (mem_t1 (List.mem_of_getElem? (i := 6) (by decide +kernel))) rfl, by decide +kernel, by decide⟩, mem_lwg (mem_t4 (List.mem_of_getElem? (i := 66) (by decide +kernel))) rfl, mem_lwg (mem_t4 (List.mem_of_getElem? (i := 67) (by decide +kernel))) rfl, _, _, rfl⟩
abbrev mX8_worthTo : am_M := (yX8_worthTo, cX8_worthTo, 3, (some .int))
theorem ky_X8_worthTo : am_yV mX8_worthTo 2 8 := ⟨⟨mem_lwg (mem_t4 (List.mem_of_getElem? (i := 64) rfl)) rfl, mem_lwg (mem_t1 (List.mem_of_getElem? (i := 6) (by decide +kernel))) rfl, by decide +kernel, by decide⟩, mem_lwg (mem_t4 (List.mem_of_getElem? (i := 62) (by decide +kernel))) rfl, mem_lwg (mem_t4 (List.mem_of_getElem? (i := 63) (by decide +kernel))) rfl, _, _, rfl⟩
abbrev mX9_init : am_M := (yX9_init, cX9_init, 1, none)
theorem ky_X9_init : am_yI mX9_init 0 := ⟨⟨mem_lwg (mem_t1 (List.mem_of_getElem? (i := 35) rfl)) rfl, mem_lwg (mem_t1 (List.mem_of_getElem? (i := 2) (by decide +kernel))) rfl, by decide +kernel, by decide⟩, mem_lwg (mem_t1 (List.mem_of_getElem? (i := 34) (by decide +kernel))) rfl, rfl, rfl⟩
abbrev mX9_clear : am_M := (yX9_clear, cX9_clear, 2, none)
theorem ky_X9_clear : am_yV mX9_clear 1 9 := ⟨⟨mem_lwg (mem_t2 (List.mem_of_getElem? (i := 221) rfl)) rfl, mem_lwg (mem_t1 (List.mem_of_getElem? (i := 2) (by decide +kernel))) rfl, by decide +kernel, by decide⟩, mem_lwg (mem_t2 (List.mem_of_getElem? (i := 219) (by decide +kernel))) rfl, mem_lwg (mem_t2 (List.mem_of_getElem? (i := 220) (by decide +kernel))) rfl, _, _, rfl⟩
abbrev mX9_copyFrom : am_M := (yX9_copyFrom, cX9_copyFrom, 2, none)
theorem ky_X9_copyFrom : am_yV mX9_copyFrom 1 9 := ⟨⟨mem_lwg (mem_t5 (List.mem_of_getElem? (i := 170) rfl)) rfl, mem_lwg (mem_t1 (List.mem_of_getElem? (i := 2) (by decide +kernel))) rfl, by decide +kernel, by decide⟩, mem_lwg (mem_t5 (List.mem_of_getElem? (i := 168) (by decide +kernel))) rfl, mem_lwg (mem_t5 (List.mem_of_getElem? (i := 169) (by decide +kernel))) rfl, _, _, rfl⟩
abbrev mX9_hasColour : am_M := (yX9_hasColour, cX9_hasColour, 2, (some .boolean))
theorem ky_X9_hasColour : am_yV mX9_hasColour 1 9 := ⟨⟨mem_lwg (mem_t3 (List.mem_of_getElem? (i := 6) rfl)) rfl, mem_lwg (mem_t1 (List.mem_of_getElem? (i := 2) (by decide +kernel))) rfl, by decide +kernel, by decide⟩, mem_lwg (mem_t3 (List.mem_of_getElem? (i := 4) (by decide +kernel))) rfl, mem_lwg (mem_t3 (List.mem_of_getElem? (i := 5) (by decide +kernel))) rfl, _, _, rfl⟩
abbrev mX9_hasWall : am_M := (yX9_hasWall, cX9_hasWall, 2, (some .boolean))
theorem ky_X9_hasWall : am_yV mX9_hasWall 1 9 := ⟨⟨mem_lwg (mem_t3 (List.mem_of_getElem? (i := 40) rfl)) rfl, mem_lwg (mem_t1 (List.mem_of_getElem? (i := 2) (by decide +kernel))) rfl, by decide +kernel, by decide⟩, mem_lwg (mem_t3 (List.mem_of_getElem? (i := 38) (by decide +kernel))) rfl, mem_lwg (mem_t3 (List.mem_of_getElem? (i := 39) (by decide +kernel))) rfl, _, _, rfl⟩
abbrev mX9_hasPerson : am_M := (yX9_hasPerson, cX9_hasPerson, 2, (some .boolean))
theorem ky_X9_hasPerson : am_yV mX9_hasPerson 1 9 := ⟨⟨mem_lwg (mem_t3 (List.mem_of_getElem? (i := 32) rfl)) rfl, mem_lwg (mem_t1 (List.mem_of_getElem? (i := 2) (by decide +kernel))) rfl, by decide +kernel, by decide⟩, mem_lwg (mem_t3 (List.mem_of_getElem? (i := 30) (by decide +kernel))) rfl, mem_lwg (mem_t3 (List.mem_of_getElem? (i := 31) (by decide +kernel))) rfl, _, _, rfl⟩
abbrev mX9_livingIn : am_M := (yX9_livingIn, cX9_livingIn, 3, (some .int))
theorem ky_X9_livingIn : am_yV mX9_livingIn 1 9 := ⟨⟨mem_lwg (mem_t3 (List.mem_of_getElem? (i := 24) rfl)) rfl, mem_lwg (mem_t1 (List.mem_of_getElem? (i := 2) (by decide +kernel))) rfl, by decide +kernel, by decide⟩, mem_lwg (mem_t3 (List.mem_of_getElem? (i := 22) (by decide +kernel))) rfl, mem_lwg (mem_t3 (List.mem_of_getElem? (i := 23) (by decide +kernel))) rfl, _, _, rfl⟩
abbrev mX9_draw : am_M := (yX9_draw, cX9_draw, 2, (some .int))
theorem ky_X9_draw : am_yV mX9_draw 1 9 := ⟨⟨mem_lwg (mem_t5 (List.mem_of_getElem? (i := 159) rfl)) rfl, mem_lwg (mem_t1 (List.mem_of_getElem? (i := 2) (by decide +kernel))) rfl, by decide +kernel, by decide⟩, mem_lwg (mem_t5 (List.mem_of_getElem? (i := 157) (by decide +kernel))) rfl, mem_lwg (mem_t5 (List.mem_of_getElem? (i := 158) (by decide +kernel))) rfl, _, _, rfl⟩
abbrev mX9_favourite : am_M := (yX9_favourite, cX9_favourite, 6, (some .int))
theorem ky_X9_favourite : am_yV mX9_favourite 2 9 := ⟨⟨mem_lwg (mem_t4 (List.mem_of_getElem? (i := 130) rfl)) rfl, mem_lwg (mem_t1 (List.mem_of_getElem? (i := 2) (by decide +kernel))) rfl, by decide +kernel, by decide⟩, mem_lwg (mem_t4 (List.mem_of_getElem? (i := 128) (by decide +kernel))) rfl, mem_lwg (mem_t4 (List.mem_of_getElem? (i := 129) (by decide +kernel))) rfl, _, _, rfl⟩
abbrev mX10_init : am_M := (yX10_init, cX10_init, 3, none)
theorem ky_X10_init : am_yI mX10_init 2 := ⟨⟨mem_lwg (mem_t2 (List.mem_of_getElem? (i := 66) rfl)) rfl, mem_lwg (mem_t1 (List.mem_of_getElem? (i := 9) (by decide +kernel))) rfl, by decide +kernel, by decide⟩, mem_lwg (mem_t2 (List.mem_of_getElem? (i := 65) (by decide +kernel))) rfl, rfl, rfl⟩
abbrev mX10_tradesTillRest : am_M := (yX10_tradesTillRest, cX10_tradesTillRest, 4, (some .int))
theorem ky_X10_tradesTillRest : am_yV mX10_tradesTillRest 0 10 := ⟨⟨mem_lwg (mem_t5 (List.mem_of_getElem? (i := 14) rfl)) rfl, mem_lwg (mem_t1 (List.mem_of_getElem? (i := 9) (by decide +kernel))) rfl, by decide +kernel, by decide⟩, mem_lwg (mem_t5 (List.mem_of_getElem? (i := 12) (by decide +kernel))) rfl, mem_lwg (mem_t5 (List.mem_of_getElem? (i := 13) (by decide +kernel))) rfl, _, _, rfl⟩
abbrev mX10_round : am_M := (yX10_round, cX10_round, 5, (some .int))
theorem ky_X10_round : am_yV mX10_round 1 10 := ⟨⟨mem_lwg (mem_t4 (List.mem_of_getElem? (i := 226) rfl)) rfl, mem_lwg (mem_t1 (List.mem_of_getElem? (i := 9) (by decide +kernel))) rfl, by decide +kernel, by decide⟩, mem_lwg (mem_t4 (List.mem_of_getElem? (i := 224) (by decide +kernel))) rfl, mem_lwg (mem_t4 (List.mem_of_getElem? (i := 225) (by decide +kernel))) rfl, _, _, rfl⟩
abbrev mX10_hasTraded : am_M := (yX10_hasTraded, cX10_hasTraded, 6, (some .boolean))
theorem ky_X10_hasTraded : am_yV mX10_hasTraded 3 10 := ⟨⟨mem_lwg (mem_t4 (List.mem_of_getElem? (i := 230) rfl)) rfl, mem_lwg (mem_t1 (List.mem_of_getElem? (i := 9) (by decide +kernel))) rfl, by decide +kernel, by decide⟩, mem_lwg (mem_t4 (List.mem_of_getElem? (i := 229) (by decide +kernel))) rfl, mem_lwg (mem_t0 (List.mem_of_getElem? (i := 33) (by decide +kernel))) rfl, _, _, rfl⟩
abbrev mX10_weighParts : am_M := (yX10_weighParts, cX10_weighParts, 6, none)
theorem ky_X10_weighParts : am_yV mX10_weighParts 3 10 := ⟨⟨mem_lwg (mem_t4 (List.mem_of_getElem? (i := 234) rfl)) rfl, mem_lwg (mem_t1 (List.mem_of_getElem? (i := 9) (by decide +kernel))) rfl, by decide +kernel, by decide⟩, mem_lwg (mem_t4 (List.mem_of_getElem? (i := 233) (by decide +kernel))) rfl, mem_lwg (mem_t0 (List.mem_of_getElem? (i := 34) (by decide +kernel))) rfl, _, _, rfl⟩
abbrev mX10_hasRepainted : am_M := (yX10_hasRepainted, cX10_hasRepainted, 11, (some .boolean))
theorem ky_X10_hasRepainted : am_yV mX10_hasRepainted 5 10 := ⟨⟨mem_lwg (mem_t5 (List.mem_of_getElem? (i := 0) rfl)) rfl, mem_lwg (mem_t1 (List.mem_of_getElem? (i := 9) (by decide +kernel))) rfl, by decide +kernel, by decide⟩, mem_lwg (mem_t4 (List.mem_of_getElem? (i := 239) (by decide +kernel))) rfl, mem_lwg (mem_t0 (List.mem_of_getElem? (i := 35) (by decide +kernel))) rfl, _, _, rfl⟩
abbrev mX10_change : am_M := (yX10_change, cX10_change, 8, (some .int))
theorem ky_X10_change : am_yS mX10_change 6 := ⟨⟨mem_lwg (mem_t5 (List.mem_of_getElem? (i := 6) rfl)) rfl, mem_lwg (mem_t1 (List.mem_of_getElem? (i := 9) (by decide +kernel))) rfl, by decide +kernel, by decide⟩, mem_lwg (mem_t5 (List.mem_of_getElem? (i := 5) (by decide +kernel))) rfl⟩
abbrev mX10_pairsGained : am_M := (yX10_pairsGained, cX10_pairsGained, 5, (some .int))
theorem ky_X10_pairsGained : am_yS mX10_pairsGained 4 := ⟨⟨mem_lwg (mem_t5 (List.mem_of_getElem? (i := 3) rfl)) rfl, mem_lwg (mem_t1 (List.mem_of_getElem? (i := 9) (by decide +kernel))) rfl, by decide +kernel, by decide⟩, mem_lwg (mem_t5 (List.mem_of_getElem? (i := 2) (by decide +kernel))) rfl⟩
abbrev mX11_init : am_M := (yX11_init, cX11_init, 1, none)
theorem ky_X11_init : am_yI mX11_init 0 := ⟨⟨mem_lwg (mem_t1 (List.mem_of_getElem? (i := 27) rfl)) rfl, mem_lwg (mem_t1 (List.mem_of_getElem? (i := 1) (by decide +kernel))) rfl, by decide +kernel, by decide⟩, mem_lwg (mem_t1 (List.mem_of_getElem? (i := 26) (by decide +kernel))) rfl, rfl, rfl⟩
abbrev mX11_state : am_M := (yX11_state, cX11_state, 3, (some .int))
theorem ky_X11_state : am_yV mX11_state 1 11 := ⟨⟨mem_lwg (mem_t2 (List.mem_of_getElem? (i := 213) rfl)) rfl, mem_lwg (mem_t1 (List.mem_of_getElem? (i := 1) (by decide +kernel))) rfl, by decide +kernel, by decide⟩, mem_lwg (mem_t2 (List.mem_of_getElem? (i := 211) (by decide +kernel))) rfl, mem_lwg (mem_t2 (List.mem_of_getElem? (i := 212) (by decide +kernel))) rfl, _, _, rfl⟩
abbrev mX11_colours : am_M := (yX11_colours, cX11_colours, 2, (some .boolean))
theorem ky_X11_colours : am_yV mX11_colours 1 11 := ⟨⟨mem_lwg (mem_t2 (List.mem_of_getElem? (i := 217) rfl)) rfl, mem_lwg (mem_t1 (List.mem_of_getElem? (i := 1) (by decide +kernel))) rfl, by decide +kernel, by decide⟩, mem_lwg (mem_t2 (List.mem_of_getElem? (i := 215) (by decide +kernel))) rfl, mem_lwg (mem_t2 (List.mem_of_getElem? (i := 216) (by decide +kernel))) rfl, _, _, rfl⟩
abbrev mX11_pot : am_M := (yX11_pot, cX11_pot, 3, (some .boolean))
theorem ky_X11_pot : am_yV mX11_pot 2 11 := ⟨⟨mem_lwg (mem_t3 (List.mem_of_getElem? (i := 2) rfl)) rfl, mem_lwg (mem_t1 (List.mem_of_getElem? (i := 1) (by decide +kernel))) rfl, by decide +kernel, by decide⟩, mem_lwg (mem_t3 (List.mem_of_getElem? (i := 0) (by decide +kernel))) rfl, mem_lwg (mem_t3 (List.mem_of_getElem? (i := 1) (by decide +kernel))) rfl, _, _, rfl⟩
abbrev mX11_wall : am_M := (yX11_wall, cX11_wall, 2, (some .int))
theorem ky_X11_wall : am_yV mX11_wall 1 11 := ⟨⟨mem_lwg (mem_t3 (List.mem_of_getElem? (i := 13) rfl)) rfl, mem_lwg (mem_t1 (List.mem_of_getElem? (i := 1) (by decide +kernel))) rfl, by decide +kernel, by decide⟩, mem_lwg (mem_t3 (List.mem_of_getElem? (i := 11) (by decide +kernel))) rfl, mem_lwg (mem_t3 (List.mem_of_getElem? (i := 12) (by decide +kernel))) rfl, _, _, rfl⟩
abbrev mX11_person : am_M := (yX11_person, cX11_person, 2, (some .int))
theorem ky_X11_person : am_yV mX11_person 1 11 := ⟨⟨mem_lwg (mem_t3 (List.mem_of_getElem? (i := 17) rfl)) rfl, mem_lwg (mem_t1 (List.mem_of_getElem? (i := 1) (by decide +kernel))) rfl, by decide +kernel, by decide⟩, mem_lwg (mem_t3 (List.mem_of_getElem? (i := 15) (by decide +kernel))) rfl, mem_lwg (mem_t3 (List.mem_of_getElem? (i := 16) (by decide +kernel))) rfl, _, _, rfl⟩
abbrev mX11_move : am_M := (yX11_move, cX11_move, 4, (some .boolean))
theorem ky_X11_move : am_yV mX11_move 2 11 := ⟨⟨mem_lwg (mem_t3 (List.mem_of_getElem? (i := 28) rfl)) rfl, mem_lwg (mem_t1 (List.mem_of_getElem? (i := 1) (by decide +kernel))) rfl, by decide +kernel, by decide⟩, mem_lwg (mem_t3 (List.mem_of_getElem? (i := 26) (by decide +kernel))) rfl, mem_lwg (mem_t3 (List.mem_of_getElem? (i := 27) (by decide +kernel))) rfl, _, _, rfl⟩
abbrev mX11_view : am_M := (yX11_view, cX11_view, 4, (some .boolean))
theorem ky_X11_view : am_yV mX11_view 3 11 := ⟨⟨mem_lwg (mem_t3 (List.mem_of_getElem? (i := 36) rfl)) rfl, mem_lwg (mem_t1 (List.mem_of_getElem? (i := 1) (by decide +kernel))) rfl, by decide +kernel, by decide⟩, mem_lwg (mem_t3 (List.mem_of_getElem? (i := 34) (by decide +kernel))) rfl, mem_lwg (mem_t3 (List.mem_of_getElem? (i := 35) (by decide +kernel))) rfl, _, _, rfl⟩
abbrev mX11_tree : am_M := (yX11_tree, cX11_tree, 5, (some .int))
theorem ky_X11_tree : am_yV mX11_tree 3 11 := ⟨⟨mem_lwg (mem_t3 (List.mem_of_getElem? (i := 44) rfl)) rfl, mem_lwg (mem_t1 (List.mem_of_getElem? (i := 1) (by decide +kernel))) rfl, by decide +kernel, by decide⟩, mem_lwg (mem_t3 (List.mem_of_getElem? (i := 42) (by decide +kernel))) rfl, mem_lwg (mem_t3 (List.mem_of_getElem? (i := 43) (by decide +kernel))) rfl, _, _, rfl⟩
abbrev mX11_tell : am_M := (yX11_tell, cX11_tell, 5, (some .boolean))
theorem ky_X11_tell : am_yV mX11_tell 4 11 := ⟨⟨mem_lwg (mem_t3 (List.mem_of_getElem? (i := 48) rfl)) rfl, mem_lwg (mem_t1 (List.mem_of_getElem? (i := 1) (by decide +kernel))) rfl, by decide +kernel, by decide⟩, mem_lwg (mem_t3 (List.mem_of_getElem? (i := 46) (by decide +kernel))) rfl, mem_lwg (mem_t3 (List.mem_of_getElem? (i := 47) (by decide +kernel))) rfl, _, _, rfl⟩
abbrev mX11_beside : am_M := (yX11_beside, cX11_beside, 4, (some .boolean))
theorem ky_X11_beside : am_yV mX11_beside 3 11 := ⟨⟨mem_lwg (mem_t3 (List.mem_of_getElem? (i := 52) rfl)) rfl, mem_lwg (mem_t1 (List.mem_of_getElem? (i := 1) (by decide +kernel))) rfl, by decide +kernel, by decide⟩, mem_lwg (mem_t3 (List.mem_of_getElem? (i := 50) (by decide +kernel))) rfl, mem_lwg (mem_t3 (List.mem_of_getElem? (i := 51) (by decide +kernel))) rfl, _, _, rfl⟩
abbrev mX11_paint : am_M := (yX11_paint, cX11_paint, 3, (some .boolean))
theorem ky_X11_paint : am_yV mX11_paint 2 11 := ⟨⟨mem_lwg (mem_t3 (List.mem_of_getElem? (i := 56) rfl)) rfl, mem_lwg (mem_t1 (List.mem_of_getElem? (i := 1) (by decide +kernel))) rfl, by decide +kernel, by decide⟩, mem_lwg (mem_t3 (List.mem_of_getElem? (i := 54) (by decide +kernel))) rfl, mem_lwg (mem_t3 (List.mem_of_getElem? (i := 55) (by decide +kernel))) rfl, _, _, rfl⟩
abbrev mX11_feed : am_M := (yX11_feed, cX11_feed, 6, (some .int))
theorem ky_X11_feed : am_yV mX11_feed 5 11 := ⟨⟨mem_lwg (mem_t3 (List.mem_of_getElem? (i := 60) rfl)) rfl, mem_lwg (mem_t1 (List.mem_of_getElem? (i := 1) (by decide +kernel))) rfl, by decide +kernel, by decide⟩, mem_lwg (mem_t3 (List.mem_of_getElem? (i := 58) (by decide +kernel))) rfl, mem_lwg (mem_t3 (List.mem_of_getElem? (i := 59) (by decide +kernel))) rfl, _, _, rfl⟩
abbrev mX11_end : am_M := (yX11_end, cX11_end, 2, (some .boolean))
theorem ky_X11_end : am_yV mX11_end 1 11 := ⟨⟨mem_lwg (mem_t3 (List.mem_of_getElem? (i := 68) rfl)) rfl, mem_lwg (mem_t1 (List.mem_of_getElem? (i := 1) (by decide +kernel))) rfl, by decide +kernel, by decide⟩, mem_lwg (mem_t3 (List.mem_of_getElem? (i := 66) (by decide +kernel))) rfl, mem_lwg (mem_t3 (List.mem_of_getElem? (i := 67) (by decide +kernel))) rfl, _, _, rfl⟩
abbrev mX11_text : am_M := (yX11_text, cX11_text, 2, (some .int))
theorem ky_X11_text : am_yV mX11_text 0 11 := ⟨⟨mem_lwg (mem_t3 (List.mem_of_getElem? (i := 72) rfl)) rfl, mem_lwg (mem_t1 (List.mem_of_getElem? (i := 1) (by decide +kernel))) rfl, by decide +kernel, by decide⟩, mem_lwg (mem_t3 (List.mem_of_getElem? (i := 70) (by decide +kernel))) rfl, mem_lwg (mem_t3 (List.mem_of_getElem? (i := 71) (by decide +kernel))) rfl, _, _, rfl⟩
abbrev mX11_fault : am_M := (yX11_fault, cX11_fault, 2, (some .int))
theorem ky_X11_fault : am_yV mX11_fault 1 11 := ⟨⟨mem_lwg (mem_t4 (List.mem_of_getElem? (i := 41) rfl)) rfl, mem_lwg (mem_t1 (List.mem_of_getElem? (i := 1) (by decide +kernel))) rfl, by decide +kernel, by decide⟩, mem_lwg (mem_t4 (List.mem_of_getElem? (i := 39) (by decide +kernel))) rfl, mem_lwg (mem_t4 (List.mem_of_getElem? (i := 40) (by decide +kernel))) rfl, _, _, rfl⟩
abbrev mX11_sees : am_M := (yX11_sees, cX11_sees, 3, (some .int))
theorem ky_X11_sees : am_yV mX11_sees 2 11 := ⟨⟨mem_lwg (mem_t4 (List.mem_of_getElem? (i := 45) rfl)) rfl, mem_lwg (mem_t1 (List.mem_of_getElem? (i := 1) (by decide +kernel))) rfl, by decide +kernel, by decide⟩, mem_lwg (mem_t4 (List.mem_of_getElem? (i := 43) (by decide +kernel))) rfl, mem_lwg (mem_t4 (List.mem_of_getElem? (i := 44) (by decide +kernel))) rfl, _, _, rfl⟩
abbrev mX11_worth : am_M := (yX11_worth, cX11_worth, 2, (some .int))
theorem ky_X11_worth : am_yV mX11_worth 1 11 := ⟨⟨mem_lwg (mem_t4 (List.mem_of_getElem? (i := 59) rfl)) rfl, mem_lwg (mem_t1 (List.mem_of_getElem? (i := 1) (by decide +kernel))) rfl, by decide +kernel, by decide⟩, mem_lwg (mem_t4 (List.mem_of_getElem? (i := 57) (by decide +kernel))) rfl, mem_lwg (mem_t4 (List.mem_of_getElem? (i := 58) (by decide +kernel))) rfl, _, _, rfl⟩
abbrev mX11_colour : am_M := (yX11_colour, cX11_colour, 3, (some .int))
theorem ky_X11_colour : am_yV mX11_colour 2 11 := ⟨⟨mem_lwg (mem_t4 (List.mem_of_getElem? (i := 81) rfl)) rfl, mem_lwg (mem_t1 (List.mem_of_getElem? (i := 1) (by decide +kernel))) rfl, by decide +kernel, by decide⟩, mem_lwg (mem_t4 (List.mem_of_getElem? (i := 79) (by decide +kernel))) rfl, mem_lwg (mem_t4 (List.mem_of_getElem? (i := 80) (by decide +kernel))) rfl, _, _, rfl⟩
abbrev mX11_become : am_M := (yX11_become, cX11_become, 2, (some .int))
theorem ky_X11_become : am_yV mX11_become 1 11 := ⟨⟨mem_lwg (mem_t4 (List.mem_of_getElem? (i := 176) rfl)) rfl, mem_lwg (mem_t1 (List.mem_of_getElem? (i := 1) (by decide +kernel))) rfl, by decide +kernel, by decide⟩, mem_lwg (mem_t4 (List.mem_of_getElem? (i := 174) (by decide +kernel))) rfl, mem_lwg (mem_t4 (List.mem_of_getElem? (i := 175) (by decide +kernel))) rfl, _, _, rfl⟩
abbrev mX11_gains : am_M := (yX11_gains, cX11_gains, 3, (some .int))
theorem ky_X11_gains : am_yV mX11_gains 2 11 := ⟨⟨mem_lwg (mem_t4 (List.mem_of_getElem? (i := 184) rfl)) rfl, mem_lwg (mem_t1 (List.mem_of_getElem? (i := 1) (by decide +kernel))) rfl, by decide +kernel, by decide⟩, mem_lwg (mem_t4 (List.mem_of_getElem? (i := 182) (by decide +kernel))) rfl, mem_lwg (mem_t4 (List.mem_of_getElem? (i := 183) (by decide +kernel))) rfl, _, _, rfl⟩
abbrev mX11_best : am_M := (yX11_best, cX11_best, 4, (some .int))
theorem ky_X11_best : am_yV mX11_best 1 11 := ⟨⟨mem_lwg (mem_t4 (List.mem_of_getElem? (i := 199) rfl)) rfl, mem_lwg (mem_t1 (List.mem_of_getElem? (i := 1) (by decide +kernel))) rfl, by decide +kernel, by decide⟩, mem_lwg (mem_t4 (List.mem_of_getElem? (i := 197) (by decide +kernel))) rfl, mem_lwg (mem_t4 (List.mem_of_getElem? (i := 198) (by decide +kernel))) rfl, _, _, rfl⟩
abbrev mX11_trade : am_M := (yX11_trade, cX11_trade, 1, (some .int))
theorem ky_X11_trade : am_yV mX11_trade 0 11 := ⟨⟨mem_lwg (mem_t4 (List.mem_of_getElem? (i := 222) rfl)) rfl, mem_lwg (mem_t1 (List.mem_of_getElem? (i := 1) (by decide +kernel))) rfl, by decide +kernel, by decide⟩, mem_lwg (mem_t4 (List.mem_of_getElem? (i := 220) (by decide +kernel))) rfl, mem_lwg (mem_t4 (List.mem_of_getElem? (i := 221) (by decide +kernel))) rfl, _, _, rfl⟩
abbrev mX11_stand : am_M := (yX11_stand, cX11_stand, 1, (some .int))
theorem ky_X11_stand : am_yV mX11_stand 0 11 := ⟨⟨mem_lwg (mem_t5 (List.mem_of_getElem? (i := 10) rfl)) rfl, mem_lwg (mem_t1 (List.mem_of_getElem? (i := 1) (by decide +kernel))) rfl, by decide +kernel, by decide⟩, mem_lwg (mem_t5 (List.mem_of_getElem? (i := 8) (by decide +kernel))) rfl, mem_lwg (mem_t5 (List.mem_of_getElem? (i := 9) (by decide +kernel))) rfl, _, _, rfl⟩
abbrev mX11_hope : am_M := (yX11_hope, cX11_hope, 6, (some .int))
theorem ky_X11_hope : am_yV mX11_hope 5 11 := ⟨⟨mem_lwg (mem_t5 (List.mem_of_getElem? (i := 21) rfl)) rfl, mem_lwg (mem_t1 (List.mem_of_getElem? (i := 1) (by decide +kernel))) rfl, by decide +kernel, by decide⟩, mem_lwg (mem_t5 (List.mem_of_getElem? (i := 19) (by decide +kernel))) rfl, mem_lwg (mem_t5 (List.mem_of_getElem? (i := 20) (by decide +kernel))) rfl, _, _, rfl⟩
abbrev mX11_homes : am_M := (yX11_homes, cX11_homes, 3, (some .int))
theorem ky_X11_homes : am_yV mX11_homes 1 11 := ⟨⟨mem_lwg (mem_t5 (List.mem_of_getElem? (i := 47) rfl)) rfl, mem_lwg (mem_t1 (List.mem_of_getElem? (i := 1) (by decide +kernel))) rfl, by decide +kernel, by decide⟩, mem_lwg (mem_t5 (List.mem_of_getElem? (i := 45) (by decide +kernel))) rfl, mem_lwg (mem_t5 (List.mem_of_getElem? (i := 46) (by decide +kernel))) rfl, _, _, rfl⟩
abbrev mX11_swap : am_M := (yX11_swap, cX11_swap, 1, (some .int))
theorem ky_X11_swap : am_yV mX11_swap 0 11 := ⟨⟨mem_lwg (mem_t5 (List.mem_of_getElem? (i := 76) rfl)) rfl, mem_lwg (mem_t1 (List.mem_of_getElem? (i := 1) (by decide +kernel))) rfl, by decide +kernel, by decide⟩, mem_lwg (mem_t5 (List.mem_of_getElem? (i := 74) (by decide +kernel))) rfl, mem_lwg (mem_t5 (List.mem_of_getElem? (i := 75) (by decide +kernel))) rfl, _, _, rfl⟩
abbrev mX11_deed : am_M := (yX11_deed, cX11_deed, 4, (some .boolean))
theorem ky_X11_deed : am_yV mX11_deed 3 11 := ⟨⟨mem_lwg (mem_t5 (List.mem_of_getElem? (i := 89) rfl)) rfl, mem_lwg (mem_t1 (List.mem_of_getElem? (i := 1) (by decide +kernel))) rfl, by decide +kernel, by decide⟩, mem_lwg (mem_t5 (List.mem_of_getElem? (i := 87) (by decide +kernel))) rfl, mem_lwg (mem_t5 (List.mem_of_getElem? (i := 88) (by decide +kernel))) rfl, _, _, rfl⟩
abbrev mX11_must : am_M := (yX11_must, cX11_must, 5, (some .int))
theorem ky_X11_must : am_yV mX11_must 3 11 := ⟨⟨mem_lwg (mem_t5 (List.mem_of_getElem? (i := 97) rfl)) rfl, mem_lwg (mem_t1 (List.mem_of_getElem? (i := 1) (by decide +kernel))) rfl, by decide +kernel, by decide⟩, mem_lwg (mem_t5 (List.mem_of_getElem? (i := 95) (by decide +kernel))) rfl, mem_lwg (mem_t5 (List.mem_of_getElem? (i := 96) (by decide +kernel))) rfl, _, _, rfl⟩
abbrev mX11_looks : am_M := (yX11_looks, cX11_looks, 3, (some .boolean))
theorem ky_X11_looks : am_yV mX11_looks 2 11 := ⟨⟨mem_lwg (mem_t5 (List.mem_of_getElem? (i := 115) rfl)) rfl, mem_lwg (mem_t1 (List.mem_of_getElem? (i := 1) (by decide +kernel))) rfl, by decide +kernel, by decide⟩, mem_lwg (mem_t5 (List.mem_of_getElem? (i := 113) (by decide +kernel))) rfl, mem_lwg (mem_t5 (List.mem_of_getElem? (i := 114) (by decide +kernel))) rfl, _, _, rfl⟩
abbrev mX11_link : am_M := (yX11_link, cX11_link, 4, (some .boolean))
theorem ky_X11_link : am_yV mX11_link 3 11 := ⟨⟨mem_lwg (mem_t5 (List.mem_of_getElem? (i := 122) rfl)) rfl, mem_lwg (mem_t1 (List.mem_of_getElem? (i := 1) (by decide +kernel))) rfl, by decide +kernel, by decide⟩, mem_lwg (mem_t5 (List.mem_of_getElem? (i := 120) (by decide +kernel))) rfl, mem_lwg (mem_t5 (List.mem_of_getElem? (i := 121) (by decide +kernel))) rfl, _, _, rfl⟩
abbrev mX11_way : am_M := (yX11_way, cX11_way, 6, (some .int))
theorem ky_X11_way : am_yV mX11_way 4 11 := ⟨⟨mem_lwg (mem_t5 (List.mem_of_getElem? (i := 130) rfl)) rfl, mem_lwg (mem_t1 (List.mem_of_getElem? (i := 1) (by decide +kernel))) rfl, by decide +kernel, by decide⟩, mem_lwg (mem_t5 (List.mem_of_getElem? (i := 128) (by decide +kernel))) rfl, mem_lwg (mem_t5 (List.mem_of_getElem? (i := 129) (by decide +kernel))) rfl, _, _, rfl⟩
abbrev mX11_years : am_M := (yX11_years, cX11_years, 3, (some .int))
theorem ky_X11_years : am_yV mX11_years 1 11 := ⟨⟨mem_lwg (mem_t5 (List.mem_of_getElem? (i := 147) rfl)) rfl, mem_lwg (mem_t1 (List.mem_of_getElem? (i := 1) (by decide +kernel))) rfl, by decide +kernel, by decide⟩, mem_lwg (mem_t5 (List.mem_of_getElem? (i := 145) (by decide +kernel))) rfl, mem_lwg (mem_t5 (List.mem_of_getElem? (i := 146) (by decide +kernel))) rfl, _, _, rfl⟩
abbrev mX11_image : am_M := (yX11_image, cX11_image, 2, (some .boolean))
theorem ky_X11_image : am_yV mX11_image 1 11 := ⟨⟨mem_lwg (mem_t5 (List.mem_of_getElem? (i := 166) rfl)) rfl, mem_lwg (mem_t1 (List.mem_of_getElem? (i := 1) (by decide +kernel))) rfl, by decide +kernel, by decide⟩, mem_lwg (mem_t5 (List.mem_of_getElem? (i := 164) (by decide +kernel))) rfl, mem_lwg (mem_t5 (List.mem_of_getElem? (i := 165) (by decide +kernel))) rfl, _, _, rfl⟩
abbrev mX11_look : am_M := (yX11_look, cX11_look, 2, (some .int))
theorem ky_X11_look : am_yV mX11_look 1 11 := ⟨⟨mem_lwg (mem_t5 (List.mem_of_getElem? (i := 184) rfl)) rfl, mem_lwg (mem_t1 (List.mem_of_getElem? (i := 1) (by decide +kernel))) rfl, by decide +kernel, by decide⟩, mem_lwg (mem_t5 (List.mem_of_getElem? (i := 182) (by decide +kernel))) rfl, mem_lwg (mem_t5 (List.mem_of_getElem? (i := 183) (by decide +kernel))) rfl, _, _, rfl⟩
abbrev mX11_isWithin : am_M := (yX11_isWithin, cX11_isWithin, 3, (some .boolean))
theorem ky_X11_isWithin : am_yS mX11_isWithin 3 := ⟨⟨mem_lwg (mem_t3 (List.mem_of_getElem? (i := 9) rfl)) rfl, mem_lwg (mem_t1 (List.mem_of_getElem? (i := 1) (by decide +kernel))) rfl, by decide +kernel, by decide⟩, mem_lwg (mem_t3 (List.mem_of_getElem? (i := 8) (by decide +kernel))) rfl⟩
abbrev mX11_isHouse : am_M := (yX11_isHouse, cX11_isHouse, 1, (some .boolean))
theorem ky_X11_isHouse : am_yS mX11_isHouse 1 := ⟨⟨mem_lwg (mem_t3 (List.mem_of_getElem? (i := 20) rfl)) rfl, mem_lwg (mem_t1 (List.mem_of_getElem? (i := 1) (by decide +kernel))) rfl, by decide +kernel, by decide⟩, mem_lwg (mem_t3 (List.mem_of_getElem? (i := 19) (by decide +kernel))) rfl⟩
abbrev mX11_isPlace : am_M := (yX11_isPlace, cX11_isPlace, 1, (some .boolean))
theorem ky_X11_isPlace : am_yS mX11_isPlace 1 := ⟨⟨mem_lwg (mem_t5 (List.mem_of_getElem? (i := 118) rfl)) rfl, mem_lwg (mem_t1 (List.mem_of_getElem? (i := 1) (by decide +kernel))) rfl, by decide +kernel, by decide⟩, mem_lwg (mem_t5 (List.mem_of_getElem? (i := 117) (by decide +kernel))) rfl⟩
abbrev mX11_putNumber : am_M := (yX11_putNumber, cX11_putNumber, 3, none)
theorem ky_X11_putNumber : am_yV mX11_putNumber 1 11 := ⟨⟨mem_lwg (mem_t3 (List.mem_of_getElem? (i := 64) rfl)) rfl, mem_lwg (mem_t1 (List.mem_of_getElem? (i := 1) (by decide +kernel))) rfl, by decide +kernel, by decide⟩, mem_lwg (mem_t3 (List.mem_of_getElem? (i := 63) (by decide +kernel))) rfl, mem_lwg (mem_t0 (List.mem_of_getElem? (i := 0) (by decide +kernel))) rfl, _, _, rfl⟩
abbrev mX11_imagined : am_M := (yX11_imagined, cX11_imagined, 2, (some (.array .int)))
theorem ky_X11_imagined : am_yV mX11_imagined 1 11 := ⟨⟨mem_lwg (mem_t4 (List.mem_of_getElem? (i := 85) rfl)) rfl, mem_lwg (mem_t1 (List.mem_of_getElem? (i := 1) (by decide +kernel))) rfl, by decide +kernel, by decide⟩, mem_lwg (mem_t4 (List.mem_of_getElem? (i := 84) (by decide +kernel))) rfl, mem_lwg (mem_t0 (List.mem_of_getElem? (i := 15) (by decide +kernel))) rfl, _, _, rfl⟩
abbrev mX11_adopt : am_M := (yX11_adopt, cX11_adopt, 4, (some .int))
theorem ky_X11_adopt : am_yV mX11_adopt 1 11 := ⟨⟨mem_lwg (mem_t4 (List.mem_of_getElem? (i := 180) rfl)) rfl, mem_lwg (mem_t1 (List.mem_of_getElem? (i := 1) (by decide +kernel))) rfl, by decide +kernel, by decide⟩, mem_lwg (mem_t4 (List.mem_of_getElem? (i := 179) (by decide +kernel))) rfl, mem_lwg (mem_t0 (List.mem_of_getElem? (i := 30) (by decide +kernel))) rfl, _, _, rfl⟩
abbrev mX11_passYear : am_M := (yX11_passYear, cX11_passYear, 1, none)
theorem ky_X11_passYear : am_yV mX11_passYear 0 11 := ⟨⟨mem_lwg (mem_t5 (List.mem_of_getElem? (i := 151) rfl)) rfl, mem_lwg (mem_t1 (List.mem_of_getElem? (i := 1) (by decide +kernel))) rfl, by decide +kernel, by decide⟩, mem_lwg (mem_t5 (List.mem_of_getElem? (i := 150) (by decide +kernel))) rfl, mem_lwg (mem_t0 (List.mem_of_getElem? (i := 44) (by decide +kernel))) rfl, _, _, rfl⟩
abbrev mX11_passNight : am_M := (yX11_passNight, cX11_passNight, 3, none)
theorem ky_X11_passNight : am_yV mX11_passNight 0 11 := ⟨⟨mem_lwg (mem_t5 (List.mem_of_getElem? (i := 155) rfl)) rfl, mem_lwg (mem_t1 (List.mem_of_getElem? (i := 1) (by decide +kernel))) rfl, by decide +kernel, by decide⟩, mem_lwg (mem_t5 (List.mem_of_getElem? (i := 154) (by decide +kernel))) rfl, mem_lwg (mem_t0 (List.mem_of_getElem? (i := 45) (by decide +kernel))) rfl, _, _, rfl⟩
abbrev mX12_init : am_M := (yX12_init, cX12_init, 1, none)
theorem ky_X12_init : am_yI mX12_init 0 := ⟨⟨mem_lwg (mem_t5 (List.mem_of_getElem? (i := 189) rfl)) rfl, mem_lwg (mem_t1 (List.mem_of_getElem? (i := 13) (by decide +kernel))) rfl, by decide +kernel, by decide⟩, mem_lwg (mem_t5 (List.mem_of_getElem? (i := 188) (by decide +kernel))) rfl, rfl, rfl⟩
abbrev mX12_isIn : am_M := (yX12_isIn, cX12_isIn, 4, (some .boolean))
theorem ky_X12_isIn : am_yV mX12_isIn 3 12 := ⟨⟨mem_lwg (mem_t6 (List.mem_of_getElem? (i := 167) rfl)) rfl, mem_lwg (mem_t1 (List.mem_of_getElem? (i := 13) (by decide +kernel))) rfl, by decide +kernel, by decide⟩, mem_lwg (mem_t6 (List.mem_of_getElem? (i := 166) (by decide +kernel))) rfl, mem_lwg (mem_t0 (List.mem_of_getElem? (i := 46) (by decide +kernel))) rfl, _, _, rfl⟩
abbrev mX12_ones : am_M := (yX12_ones, cX12_ones, 4, (some .int))
theorem ky_X12_ones : am_yV mX12_ones 1 12 := ⟨⟨mem_lwg (mem_t7 (List.mem_of_getElem? (i := 196) rfl)) rfl, mem_lwg (mem_t1 (List.mem_of_getElem? (i := 13) (by decide +kernel))) rfl, by decide +kernel, by decide⟩, mem_lwg (mem_t7 (List.mem_of_getElem? (i := 195) (by decide +kernel))) rfl, mem_lwg (mem_t0 (List.mem_of_getElem? (i := 91) (by decide +kernel))) rfl, _, _, rfl⟩
abbrev mX12_state : am_M := (yX12_state, cX12_state, 3, (some .int))
theorem ky_X12_state : am_yV mX12_state 1 12 := ⟨⟨mem_lwg (mem_t6 (List.mem_of_getElem? (i := 159) rfl)) rfl, mem_lwg (mem_t1 (List.mem_of_getElem? (i := 13) (by decide +kernel))) rfl, by decide +kernel, by decide⟩, mem_lwg (mem_t6 (List.mem_of_getElem? (i := 157) (by decide +kernel))) rfl, mem_lwg (mem_t6 (List.mem_of_getElem? (i := 158) (by decide +kernel))) rfl, _, _, rfl⟩
abbrev mX12_draw : am_M := (yX12_draw, cX12_draw, 2, (some .int))
theorem ky_X12_draw : am_yV mX12_draw 1 12 := ⟨⟨mem_lwg (mem_t8 (List.mem_of_getElem? (i := 17) rfl)) rfl, mem_lwg (mem_t1 (List.mem_of_getElem? (i := 13) (by decide +kernel))) rfl, by decide +kernel, by decide⟩, mem_lwg (mem_t8 (List.mem_of_getElem? (i := 16) (by decide +kernel))) rfl, mem_lwg (mem_t0 (List.mem_of_getElem? (i := 98) (by decide +kernel))) rfl, _, _, rfl⟩
abbrev mX12_isColour : am_M := (yX12_isColour, cX12_isColour, 2, (some .boolean))
theorem ky_X12_isColour : am_yV mX12_isColour 1 12 := ⟨⟨mem_lwg (mem_t6 (List.mem_of_getElem? (i := 175) rfl)) rfl, mem_lwg (mem_t1 (List.mem_of_getElem? (i := 13) (by decide +kernel))) rfl, by decide +kernel, by decide⟩, mem_lwg (mem_t6 (List.mem_of_getElem? (i := 174) (by decide +kernel))) rfl, mem_lwg (mem_t0 (List.mem_of_getElem? (i := 47) (by decide +kernel))) rfl, _, _, rfl⟩
abbrev mX12_isWall : am_M := (yX12_isWall, cX12_isWall, 2, (some .boolean))
theorem ky_X12_isWall : am_yV mX12_isWall 1 12 := ⟨⟨mem_lwg (mem_t6 (List.mem_of_getElem? (i := 207) rfl)) rfl, mem_lwg (mem_t1 (List.mem_of_getElem? (i := 13) (by decide +kernel))) rfl, by decide +kernel, by decide⟩, mem_lwg (mem_t6 (List.mem_of_getElem? (i := 206) (by decide +kernel))) rfl, mem_lwg (mem_t0 (List.mem_of_getElem? (i := 51) (by decide +kernel))) rfl, _, _, rfl⟩
abbrev mX12_isOne : am_M := (yX12_isOne, cX12_isOne, 2, (some .boolean))
theorem ky_X12_isOne : am_yV mX12_isOne 1 12 := ⟨⟨mem_lwg (mem_t6 (List.mem_of_getElem? (i := 199) rfl)) rfl, mem_lwg (mem_t1 (List.mem_of_getElem? (i := 13) (by decide +kernel))) rfl, by decide +kernel, by decide⟩, mem_lwg (mem_t6 (List.mem_of_getElem? (i := 198) (by decide +kernel))) rfl, mem_lwg (mem_t0 (List.mem_of_getElem? (i := 50) (by decide +kernel))) rfl, _, _, rfl⟩
abbrev mX12_isHouse : am_M := (yX12_isHouse, cX12_isHouse, 2, (some .boolean))
theorem ky_X12_isHouse : am_yV mX12_isHouse 1 12 := ⟨⟨mem_lwg (mem_t6 (List.mem_of_getElem? (i := 187) rfl)) rfl, mem_lwg (mem_t1 (List.mem_of_getElem? (i := 13) (by decide +kernel))) rfl, by decide +kernel, by decide⟩, mem_lwg (mem_t6 (List.mem_of_getElem? (i := 186) (by decide +kernel))) rfl, mem_lwg (mem_t0 (List.mem_of_getElem? (i := 48) (by decide +kernel))) rfl, _, _, rfl⟩
abbrev mX12_colours : am_M := (yX12_colours, cX12_colours, 3, (some .boolean))
theorem ky_X12_colours : am_yV mX12_colours 1 12 := ⟨⟨mem_lwg (mem_t6 (List.mem_of_getElem? (i := 163) rfl)) rfl, mem_lwg (mem_t1 (List.mem_of_getElem? (i := 13) (by decide +kernel))) rfl, by decide +kernel, by decide⟩, mem_lwg (mem_t6 (List.mem_of_getElem? (i := 161) (by decide +kernel))) rfl, mem_lwg (mem_t6 (List.mem_of_getElem? (i := 162) (by decide +kernel))) rfl, _, _, rfl⟩
abbrev mX12_pot : am_M := (yX12_pot, cX12_pot, 3, (some .boolean))
theorem ky_X12_pot : am_yV mX12_pot 2 12 := ⟨⟨mem_lwg (mem_t6 (List.mem_of_getElem? (i := 171) rfl)) rfl, mem_lwg (mem_t1 (List.mem_of_getElem? (i := 13) (by decide +kernel))) rfl, by decide +kernel, by decide⟩, mem_lwg (mem_t6 (List.mem_of_getElem? (i := 169) (by decide +kernel))) rfl, mem_lwg (mem_t6 (List.mem_of_getElem? (i := 170) (by decide +kernel))) rfl, _, _, rfl⟩
abbrev mX12_wall : am_M := (yX12_wall, cX12_wall, 2, (some .int))
theorem ky_X12_wall : am_yV mX12_wall 1 12 := ⟨⟨mem_lwg (mem_t6 (List.mem_of_getElem? (i := 179) rfl)) rfl, mem_lwg (mem_t1 (List.mem_of_getElem? (i := 13) (by decide +kernel))) rfl, by decide +kernel, by decide⟩, mem_lwg (mem_t6 (List.mem_of_getElem? (i := 177) (by decide +kernel))) rfl, mem_lwg (mem_t6 (List.mem_of_getElem? (i := 178) (by decide +kernel))) rfl, _, _, rfl⟩
abbrev mX12_livesIn : am_M := (yX12_livesIn, cX12_livesIn, 3, (some .int))
theorem ky_X12_livesIn : am_yV mX12_livesIn 1 12 := ⟨⟨mem_lwg (mem_t6 (List.mem_of_getElem? (i := 191) rfl)) rfl, mem_lwg (mem_t1 (List.mem_of_getElem? (i := 13) (by decide +kernel))) rfl, by decide +kernel, by decide⟩, mem_lwg (mem_t6 (List.mem_of_getElem? (i := 190) (by decide +kernel))) rfl, mem_lwg (mem_t0 (List.mem_of_getElem? (i := 49) (by decide +kernel))) rfl, _, _, rfl⟩
abbrev mX12_person : am_M := (yX12_person, cX12_person, 3, (some .int))
theorem ky_X12_person : am_yV mX12_person 1 12 := ⟨⟨mem_lwg (mem_t6 (List.mem_of_getElem? (i := 183) rfl)) rfl, mem_lwg (mem_t1 (List.mem_of_getElem? (i := 13) (by decide +kernel))) rfl, by decide +kernel, by decide⟩, mem_lwg (mem_t6 (List.mem_of_getElem? (i := 181) (by decide +kernel))) rfl, mem_lwg (mem_t6 (List.mem_of_getElem? (i := 182) (by decide +kernel))) rfl, _, _, rfl⟩
abbrev mX12_move : am_M := (yX12_move, cX12_move, 4, (some .boolean))
theorem ky_X12_move : am_yV mX12_move 2 12 := ⟨⟨mem_lwg (mem_t6 (List.mem_of_getElem? (i := 195) rfl)) rfl, mem_lwg (mem_t1 (List.mem_of_getElem? (i := 13) (by decide +kernel))) rfl, by decide +kernel, by decide⟩, mem_lwg (mem_t6 (List.mem_of_getElem? (i := 193) (by decide +kernel))) rfl, mem_lwg (mem_t6 (List.mem_of_getElem? (i := 194) (by decide +kernel))) rfl, _, _, rfl⟩
abbrev mX12_view : am_M := (yX12_view, cX12_view, 4, (some .boolean))
theorem ky_X12_view : am_yV mX12_view 3 12 := ⟨⟨mem_lwg (mem_t6 (List.mem_of_getElem? (i := 203) rfl)) rfl, mem_lwg (mem_t1 (List.mem_of_getElem? (i := 13) (by decide +kernel))) rfl, by decide +kernel, by decide⟩, mem_lwg (mem_t6 (List.mem_of_getElem? (i := 201) (by decide +kernel))) rfl, mem_lwg (mem_t6 (List.mem_of_getElem? (i := 202) (by decide +kernel))) rfl, _, _, rfl⟩
abbrev mX12_tree : am_M := (yX12_tree, cX12_tree, 4, (some .int))
theorem ky_X12_tree : am_yV mX12_tree 3 12 := ⟨⟨mem_lwg (mem_t6 (List.mem_of_getElem? (i := 211) rfl)) rfl, mem_lwg (mem_t1 (List.mem_of_getElem? (i := 13) (by decide +kernel))) rfl, by decide +kernel, by decide⟩, mem_lwg (mem_t6 (List.mem_of_getElem? (i := 209) (by decide +kernel))) rfl, mem_lwg (mem_t6 (List.mem_of_getElem? (i := 210) (by decide +kernel))) rfl, _, _, rfl⟩
abbrev mX12_tell : am_M := (yX12_tell, cX12_tell, 6, (some .boolean))
theorem ky_X12_tell : am_yV mX12_tell 4 12 := ⟨⟨mem_lwg (mem_t6 (List.mem_of_getElem? (i := 215) rfl)) rfl, mem_lwg (mem_t1 (List.mem_of_getElem? (i := 13) (by decide +kernel))) rfl, by decide +kernel, by decide⟩, mem_lwg (mem_t6 (List.mem_of_getElem? (i := 213) (by decide +kernel))) rfl, mem_lwg (mem_t6 (List.mem_of_getElem? (i := 214) (by decide +kernel))) rfl, _, _, rfl⟩
abbrev mX12_beside : am_M := (yX12_beside, cX12_beside, 4, (some .boolean))
theorem ky_X12_beside : am_yV mX12_beside 3 12 := ⟨⟨mem_lwg (mem_t6 (List.mem_of_getElem? (i := 219) rfl)) rfl, mem_lwg (mem_t1 (List.mem_of_getElem? (i := 13) (by decide +kernel))) rfl, by decide +kernel, by decide⟩, mem_lwg (mem_t6 (List.mem_of_getElem? (i := 217) (by decide +kernel))) rfl, mem_lwg (mem_t6 (List.mem_of_getElem? (i := 218) (by decide +kernel))) rfl, _, _, rfl⟩
abbrev mX12_paint : am_M := (yX12_paint, cX12_paint, 3, (some .boolean))
theorem ky_X12_paint : am_yV mX12_paint 2 12 := ⟨⟨mem_lwg (mem_t6 (List.mem_of_getElem? (i := 223) rfl)) rfl, mem_lwg (mem_t1 (List.mem_of_getElem? (i := 13) (by decide +kernel))) rfl, by decide +kernel, by decide⟩, mem_lwg (mem_t6 (List.mem_of_getElem? (i := 221) (by decide +kernel))) rfl, mem_lwg (mem_t6 (List.mem_of_getElem? (i := 222) (by decide +kernel))) rfl, _, _, rfl⟩
abbrev mX12_types : am_M := (yX12_types, cX12_types, 3, none)
theorem ky_X12_types : am_yV mX12_types 1 12 := ⟨⟨mem_lwg (mem_t6 (List.mem_of_getElem? (i := 231) rfl)) rfl, mem_lwg (mem_t1 (List.mem_of_getElem? (i := 13) (by decide +kernel))) rfl, by decide +kernel, by decide⟩, mem_lwg (mem_t6 (List.mem_of_getElem? (i := 230) (by decide +kernel))) rfl, mem_lwg (mem_t0 (List.mem_of_getElem? (i := 52) (by decide +kernel))) rfl, _, _, rfl⟩
abbrev mX12_feed : am_M := (yX12_feed, cX12_feed, 6, (some .int))
theorem ky_X12_feed : am_yV mX12_feed 5 12 := ⟨⟨mem_lwg (mem_t6 (List.mem_of_getElem? (i := 227) rfl)) rfl, mem_lwg (mem_t1 (List.mem_of_getElem? (i := 13) (by decide +kernel))) rfl, by decide +kernel, by decide⟩, mem_lwg (mem_t6 (List.mem_of_getElem? (i := 225) (by decide +kernel))) rfl, mem_lwg (mem_t6 (List.mem_of_getElem? (i := 226) (by decide +kernel))) rfl, _, _, rfl⟩
abbrev mX12_end : am_M := (yX12_end, cX12_end, 2, (some .boolean))
theorem ky_X12_end : am_yV mX12_end 1 12 := ⟨⟨mem_lwg (mem_t6 (List.mem_of_getElem? (i := 235) rfl)) rfl, mem_lwg (mem_t1 (List.mem_of_getElem? (i := 13) (by decide +kernel))) rfl, by decide +kernel, by decide⟩, mem_lwg (mem_t6 (List.mem_of_getElem? (i := 233) (by decide +kernel))) rfl, mem_lwg (mem_t6 (List.mem_of_getElem? (i := 234) (by decide +kernel))) rfl, _, _, rfl⟩
abbrev mX12_raw : am_M := (yX12_raw, cX12_raw, 2, (some .int))
theorem ky_X12_raw : am_yV mX12_raw 1 12 := ⟨⟨mem_lwg (mem_t7 (List.mem_of_getElem? (i := 7) rfl)) rfl, mem_lwg (mem_t1 (List.mem_of_getElem? (i := 13) (by decide +kernel))) rfl, by decide +kernel, by decide⟩, mem_lwg (mem_t7 (List.mem_of_getElem? (i := 6) (by decide +kernel))) rfl, mem_lwg (mem_t0 (List.mem_of_getElem? (i := 54) (by decide +kernel))) rfl, _, _, rfl⟩
abbrev mX12_isLetter : am_M := (yX12_isLetter, cX12_isLetter, 2, (some .boolean))
theorem ky_X12_isLetter : am_yV mX12_isLetter 1 12 := ⟨⟨mem_lwg (mem_t7 (List.mem_of_getElem? (i := 11) rfl)) rfl, mem_lwg (mem_t1 (List.mem_of_getElem? (i := 13) (by decide +kernel))) rfl, by decide +kernel, by decide⟩, mem_lwg (mem_t7 (List.mem_of_getElem? (i := 10) (by decide +kernel))) rfl, mem_lwg (mem_t0 (List.mem_of_getElem? (i := 55) (by decide +kernel))) rfl, _, _, rfl⟩
abbrev mX12_isDigit : am_M := (yX12_isDigit, cX12_isDigit, 2, (some .boolean))
theorem ky_X12_isDigit : am_yV mX12_isDigit 1 12 := ⟨⟨mem_lwg (mem_t7 (List.mem_of_getElem? (i := 19) rfl)) rfl, mem_lwg (mem_t1 (List.mem_of_getElem? (i := 13) (by decide +kernel))) rfl, by decide +kernel, by decide⟩, mem_lwg (mem_t7 (List.mem_of_getElem? (i := 18) (by decide +kernel))) rfl, mem_lwg (mem_t0 (List.mem_of_getElem? (i := 57) (by decide +kernel))) rfl, _, _, rfl⟩
abbrev mX12_isMarkSign : am_M := (yX12_isMarkSign, cX12_isMarkSign, 2, (some .boolean))
theorem ky_X12_isMarkSign : am_yV mX12_isMarkSign 1 12 := ⟨⟨mem_lwg (mem_t7 (List.mem_of_getElem? (i := 23) rfl)) rfl, mem_lwg (mem_t1 (List.mem_of_getElem? (i := 13) (by decide +kernel))) rfl, by decide +kernel, by decide⟩, mem_lwg (mem_t7 (List.mem_of_getElem? (i := 22) (by decide +kernel))) rfl, mem_lwg (mem_t0 (List.mem_of_getElem? (i := 58) (by decide +kernel))) rfl, _, _, rfl⟩
abbrev mX12_wordAt : am_M := (yX12_wordAt, cX12_wordAt, 6, (some .int))
theorem ky_X12_wordAt : am_yV mX12_wordAt 2 12 := ⟨⟨mem_lwg (mem_t7 (List.mem_of_getElem? (i := 15) rfl)) rfl, mem_lwg (mem_t1 (List.mem_of_getElem? (i := 13) (by decide +kernel))) rfl, by decide +kernel, by decide⟩, mem_lwg (mem_t7 (List.mem_of_getElem? (i := 14) (by decide +kernel))) rfl, mem_lwg (mem_t0 (List.mem_of_getElem? (i := 56) (by decide +kernel))) rfl, _, _, rfl⟩
abbrev mX12_reads : am_M := (yX12_reads, cX12_reads, 2, none)
theorem ky_X12_reads : am_yV mX12_reads 0 12 := ⟨⟨mem_lwg (mem_t7 (List.mem_of_getElem? (i := 3) rfl)) rfl, mem_lwg (mem_t1 (List.mem_of_getElem? (i := 13) (by decide +kernel))) rfl, by decide +kernel, by decide⟩, mem_lwg (mem_t7 (List.mem_of_getElem? (i := 2) (by decide +kernel))) rfl, mem_lwg (mem_t0 (List.mem_of_getElem? (i := 53) (by decide +kernel))) rfl, _, _, rfl⟩
abbrev mX12_errs : am_M := (yX12_errs, cX12_errs, 2, (some .int))
theorem ky_X12_errs : am_yV mX12_errs 1 12 := ⟨⟨mem_lwg (mem_t7 (List.mem_of_getElem? (i := 35) rfl)) rfl, mem_lwg (mem_t1 (List.mem_of_getElem? (i := 13) (by decide +kernel))) rfl, by decide +kernel, by decide⟩, mem_lwg (mem_t7 (List.mem_of_getElem? (i := 34) (by decide +kernel))) rfl, mem_lwg (mem_t0 (List.mem_of_getElem? (i := 61) (by decide +kernel))) rfl, _, _, rfl⟩
abbrev mX12_isWord : am_M := (yX12_isWord, cX12_isWord, 2, (some .boolean))
theorem ky_X12_isWord : am_yV mX12_isWord 1 12 := ⟨⟨mem_lwg (mem_t7 (List.mem_of_getElem? (i := 31) rfl)) rfl, mem_lwg (mem_t1 (List.mem_of_getElem? (i := 13) (by decide +kernel))) rfl, by decide +kernel, by decide⟩, mem_lwg (mem_t7 (List.mem_of_getElem? (i := 30) (by decide +kernel))) rfl, mem_lwg (mem_t0 (List.mem_of_getElem? (i := 60) (by decide +kernel))) rfl, _, _, rfl⟩
abbrev mX12_isSign : am_M := (yX12_isSign, cX12_isSign, 2, (some .boolean))
theorem ky_X12_isSign : am_yV mX12_isSign 1 12 := ⟨⟨mem_lwg (mem_t7 (List.mem_of_getElem? (i := 43) rfl)) rfl, mem_lwg (mem_t1 (List.mem_of_getElem? (i := 13) (by decide +kernel))) rfl, by decide +kernel, by decide⟩, mem_lwg (mem_t7 (List.mem_of_getElem? (i := 42) (by decide +kernel))) rfl, mem_lwg (mem_t0 (List.mem_of_getElem? (i := 63) (by decide +kernel))) rfl, _, _, rfl⟩
abbrev mX12_emits : am_M := (yX12_emits, cX12_emits, 3, none)
theorem ky_X12_emits : am_yV mX12_emits 2 12 := ⟨⟨mem_lwg (mem_t7 (List.mem_of_getElem? (i := 67) rfl)) rfl, mem_lwg (mem_t1 (List.mem_of_getElem? (i := 13) (by decide +kernel))) rfl, by decide +kernel, by decide⟩, mem_lwg (mem_t7 (List.mem_of_getElem? (i := 66) (by decide +kernel))) rfl, mem_lwg (mem_t0 (List.mem_of_getElem? (i := 69) (by decide +kernel))) rfl, _, _, rfl⟩
abbrev mX12_readUnit : am_M := (yX12_readUnit, cX12_readUnit, 2, (some .int))
theorem ky_X12_readUnit : am_yV mX12_readUnit 0 12 := ⟨⟨mem_lwg (mem_t7 (List.mem_of_getElem? (i := 63) rfl)) rfl, mem_lwg (mem_t1 (List.mem_of_getElem? (i := 13) (by decide +kernel))) rfl, by decide +kernel, by decide⟩, mem_lwg (mem_t7 (List.mem_of_getElem? (i := 62) (by decide +kernel))) rfl, mem_lwg (mem_t0 (List.mem_of_getElem? (i := 68) (by decide +kernel))) rfl, _, _, rfl⟩
abbrev mX12_readProduct : am_M := (yX12_readProduct, cX12_readProduct, 2, (some .int))
theorem ky_X12_readProduct : am_yV mX12_readProduct 0 12 := ⟨⟨mem_lwg (mem_t7 (List.mem_of_getElem? (i := 59) rfl)) rfl, mem_lwg (mem_t1 (List.mem_of_getElem? (i := 13) (by decide +kernel))) rfl, by decide +kernel, by decide⟩, mem_lwg (mem_t7 (List.mem_of_getElem? (i := 58) (by decide +kernel))) rfl, mem_lwg (mem_t0 (List.mem_of_getElem? (i := 67) (by decide +kernel))) rfl, _, _, rfl⟩
abbrev mX12_readSum : am_M := (yX12_readSum, cX12_readSum, 2, (some .int))
theorem ky_X12_readSum : am_yV mX12_readSum 0 12 := ⟨⟨mem_lwg (mem_t7 (List.mem_of_getElem? (i := 55) rfl)) rfl, mem_lwg (mem_t1 (List.mem_of_getElem? (i := 13) (by decide +kernel))) rfl, by decide +kernel, by decide⟩, mem_lwg (mem_t7 (List.mem_of_getElem? (i := 54) (by decide +kernel))) rfl, mem_lwg (mem_t0 (List.mem_of_getElem? (i := 66) (by decide +kernel))) rfl, _, _, rfl⟩
abbrev mX12_readCompared : am_M := (yX12_readCompared, cX12_readCompared, 2, (some .int))
theorem ky_X12_readCompared : am_yV mX12_readCompared 0 12 := ⟨⟨mem_lwg (mem_t7 (List.mem_of_getElem? (i := 51) rfl)) rfl, mem_lwg (mem_t1 (List.mem_of_getElem? (i := 13) (by decide +kernel))) rfl, by decide +kernel, by decide⟩, mem_lwg (mem_t7 (List.mem_of_getElem? (i := 50) (by decide +kernel))) rfl, mem_lwg (mem_t0 (List.mem_of_getElem? (i := 65) (by decide +kernel))) rfl, _, _, rfl⟩
abbrev mX12_waits : am_M := (yX12_waits, cX12_waits, 2, none)
theorem ky_X12_waits : am_yV mX12_waits 1 12 := ⟨⟨mem_lwg (mem_t7 (List.mem_of_getElem? (i := 47) rfl)) rfl, mem_lwg (mem_t1 (List.mem_of_getElem? (i := 13) (by decide +kernel))) rfl, by decide +kernel, by decide⟩, mem_lwg (mem_t7 (List.mem_of_getElem? (i := 46) (by decide +kernel))) rfl, mem_lwg (mem_t0 (List.mem_of_getElem? (i := 64) (by decide +kernel))) rfl, _, _, rfl⟩
abbrev mX12_settles : am_M := (yX12_settles, cX12_settles, 2, none)
theorem ky_X12_settles : am_yV mX12_settles 1 12 := ⟨⟨mem_lwg (mem_t7 (List.mem_of_getElem? (i := 71) rfl)) rfl, mem_lwg (mem_t1 (List.mem_of_getElem? (i := 13) (by decide +kernel))) rfl, by decide +kernel, by decide⟩, mem_lwg (mem_t7 (List.mem_of_getElem? (i := 70) (by decide +kernel))) rfl, mem_lwg (mem_t0 (List.mem_of_getElem? (i := 70) (by decide +kernel))) rfl, _, _, rfl⟩
abbrev mX12_readAny : am_M := (yX12_readAny, cX12_readAny, 4, (some .int))
theorem ky_X12_readAny : am_yV mX12_readAny 0 12 := ⟨⟨mem_lwg (mem_t7 (List.mem_of_getElem? (i := 39) rfl)) rfl, mem_lwg (mem_t1 (List.mem_of_getElem? (i := 13) (by decide +kernel))) rfl, by decide +kernel, by decide⟩, mem_lwg (mem_t7 (List.mem_of_getElem? (i := 38) (by decide +kernel))) rfl, mem_lwg (mem_t0 (List.mem_of_getElem? (i := 62) (by decide +kernel))) rfl, _, _, rfl⟩
abbrev mX12_readText : am_M := (yX12_readText, cX12_readText, 3, (some .int))
theorem ky_X12_readText : am_yV mX12_readText 0 12 := ⟨⟨mem_lwg (mem_t7 (List.mem_of_getElem? (i := 27) rfl)) rfl, mem_lwg (mem_t1 (List.mem_of_getElem? (i := 13) (by decide +kernel))) rfl, by decide +kernel, by decide⟩, mem_lwg (mem_t7 (List.mem_of_getElem? (i := 26) (by decide +kernel))) rfl, mem_lwg (mem_t0 (List.mem_of_getElem? (i := 59) (by decide +kernel))) rfl, _, _, rfl⟩
abbrev mX12_text : am_M := (yX12_text, cX12_text, 3, (some .int))
theorem ky_X12_text : am_yV mX12_text 0 12 := ⟨⟨mem_lwg (mem_t6 (List.mem_of_getElem? (i := 239) rfl)) rfl, mem_lwg (mem_t1 (List.mem_of_getElem? (i := 13) (by decide +kernel))) rfl, by decide +kernel, by decide⟩, mem_lwg (mem_t6 (List.mem_of_getElem? (i := 237) (by decide +kernel))) rfl, mem_lwg (mem_t6 (List.mem_of_getElem? (i := 238) (by decide +kernel))) rfl, _, _, rfl⟩
abbrev mX12_fault : am_M := (yX12_fault, cX12_fault, 2, (some .int))
theorem ky_X12_fault : am_yV mX12_fault 1 12 := ⟨⟨mem_lwg (mem_t7 (List.mem_of_getElem? (i := 75) rfl)) rfl, mem_lwg (mem_t1 (List.mem_of_getElem? (i := 13) (by decide +kernel))) rfl, by decide +kernel, by decide⟩, mem_lwg (mem_t7 (List.mem_of_getElem? (i := 73) (by decide +kernel))) rfl, mem_lwg (mem_t7 (List.mem_of_getElem? (i := 74) (by decide +kernel))) rfl, _, _, rfl⟩
abbrev mX12_twoOf : am_M := (yX12_twoOf, cX12_twoOf, 4, (some .int))
theorem ky_X12_twoOf : am_yV mX12_twoOf 3 12 := ⟨⟨mem_lwg (mem_t7 (List.mem_of_getElem? (i := 124) rfl)) rfl, mem_lwg (mem_t1 (List.mem_of_getElem? (i := 13) (by decide +kernel))) rfl, by decide +kernel, by decide⟩, mem_lwg (mem_t7 (List.mem_of_getElem? (i := 123) (by decide +kernel))) rfl, mem_lwg (mem_t0 (List.mem_of_getElem? (i := 79) (by decide +kernel))) rfl, _, _, rfl⟩
abbrev mX12_isSo : am_M := (yX12_isSo, cX12_isSo, 5, (some .boolean))
theorem ky_X12_isSo : am_yV mX12_isSo 2 12 := ⟨⟨mem_lwg (mem_t7 (List.mem_of_getElem? (i := 120) rfl)) rfl, mem_lwg (mem_t1 (List.mem_of_getElem? (i := 13) (by decide +kernel))) rfl, by decide +kernel, by decide⟩, mem_lwg (mem_t7 (List.mem_of_getElem? (i := 119) (by decide +kernel))) rfl, mem_lwg (mem_t0 (List.mem_of_getElem? (i := 78) (by decide +kernel))) rfl, _, _, rfl⟩
abbrev mX12_seenFrom : am_M := (yX12_seenFrom, cX12_seenFrom, 5, (some .int))
theorem ky_X12_seenFrom : am_yV mX12_seenFrom 2 12 := ⟨⟨mem_lwg (mem_t7 (List.mem_of_getElem? (i := 83) rfl)) rfl, mem_lwg (mem_t1 (List.mem_of_getElem? (i := 13) (by decide +kernel))) rfl, by decide +kernel, by decide⟩, mem_lwg (mem_t7 (List.mem_of_getElem? (i := 82) (by decide +kernel))) rfl, mem_lwg (mem_t0 (List.mem_of_getElem? (i := 71) (by decide +kernel))) rfl, _, _, rfl⟩
abbrev mX12_sees : am_M := (yX12_sees, cX12_sees, 3, (some .int))
theorem ky_X12_sees : am_yV mX12_sees 2 12 := ⟨⟨mem_lwg (mem_t7 (List.mem_of_getElem? (i := 79) rfl)) rfl, mem_lwg (mem_t1 (List.mem_of_getElem? (i := 13) (by decide +kernel))) rfl, by decide +kernel, by decide⟩, mem_lwg (mem_t7 (List.mem_of_getElem? (i := 77) (by decide +kernel))) rfl, mem_lwg (mem_t7 (List.mem_of_getElem? (i := 78) (by decide +kernel))) rfl, _, _, rfl⟩
abbrev mX12_findsYards : am_M := (yX12_findsYards, cX12_findsYards, 3, none)
theorem ky_X12_findsYards : am_yV mX12_findsYards 0 12 := ⟨⟨mem_lwg (mem_t7 (List.mem_of_getElem? (i := 92) rfl)) rfl, mem_lwg (mem_t1 (List.mem_of_getElem? (i := 13) (by decide +kernel))) rfl, by decide +kernel, by decide⟩, mem_lwg (mem_t7 (List.mem_of_getElem? (i := 91) (by decide +kernel))) rfl, mem_lwg (mem_t0 (List.mem_of_getElem? (i := 72) (by decide +kernel))) rfl, _, _, rfl⟩
abbrev mX12_worthFrom : am_M := (yX12_worthFrom, cX12_worthFrom, 9, (some .int))
theorem ky_X12_worthFrom : am_yV mX12_worthFrom 3 12 := ⟨⟨mem_lwg (mem_t7 (List.mem_of_getElem? (i := 100) rfl)) rfl, mem_lwg (mem_t1 (List.mem_of_getElem? (i := 13) (by decide +kernel))) rfl, by decide +kernel, by decide⟩, mem_lwg (mem_t7 (List.mem_of_getElem? (i := 99) (by decide +kernel))) rfl, mem_lwg (mem_t0 (List.mem_of_getElem? (i := 74) (by decide +kernel))) rfl, _, _, rfl⟩
abbrev mX12_worthOf : am_M := (yX12_worthOf, cX12_worthOf, 3, (some .int))
theorem ky_X12_worthOf : am_yV mX12_worthOf 2 12 := ⟨⟨mem_lwg (mem_t7 (List.mem_of_getElem? (i := 96) rfl)) rfl, mem_lwg (mem_t1 (List.mem_of_getElem? (i := 13) (by decide +kernel))) rfl, by decide +kernel, by decide⟩, mem_lwg (mem_t7 (List.mem_of_getElem? (i := 95) (by decide +kernel))) rfl, mem_lwg (mem_t0 (List.mem_of_getElem? (i := 73) (by decide +kernel))) rfl, _, _, rfl⟩
abbrev mX12_worth : am_M := (yX12_worth, cX12_worth, 2, (some .int))
theorem ky_X12_worth : am_yV mX12_worth 1 12 := ⟨⟨mem_lwg (mem_t7 (List.mem_of_getElem? (i := 87) rfl)) rfl, mem_lwg (mem_t1 (List.mem_of_getElem? (i := 13) (by decide +kernel))) rfl, by decide +kernel, by decide⟩, mem_lwg (mem_t7 (List.mem_of_getElem? (i := 85) (by decide +kernel))) rfl, mem_lwg (mem_t7 (List.mem_of_getElem? (i := 86) (by decide +kernel))) rfl, _, _, rfl⟩
abbrev mX12_says : am_M := (yX12_says, cX12_says, 3, (some .int))
theorem ky_X12_says : am_yV mX12_says 2 12 := ⟨⟨mem_lwg (mem_t7 (List.mem_of_getElem? (i := 132) rfl)) rfl, mem_lwg (mem_t1 (List.mem_of_getElem? (i := 13) (by decide +kernel))) rfl, by decide +kernel, by decide⟩, mem_lwg (mem_t7 (List.mem_of_getElem? (i := 131) (by decide +kernel))) rfl, mem_lwg (mem_t0 (List.mem_of_getElem? (i := 81) (by decide +kernel))) rfl, _, _, rfl⟩
abbrev mX12_bestColourOf : am_M := (yX12_bestColourOf, cX12_bestColourOf, 4, (some .int))
theorem ky_X12_bestColourOf : am_yV mX12_bestColourOf 1 12 := ⟨⟨mem_lwg (mem_t7 (List.mem_of_getElem? (i := 128) rfl)) rfl, mem_lwg (mem_t1 (List.mem_of_getElem? (i := 13) (by decide +kernel))) rfl, by decide +kernel, by decide⟩, mem_lwg (mem_t7 (List.mem_of_getElem? (i := 127) (by decide +kernel))) rfl, mem_lwg (mem_t0 (List.mem_of_getElem? (i := 80) (by decide +kernel))) rfl, _, _, rfl⟩
abbrev mX12_greatest : am_M := (yX12_greatest, cX12_greatest, 3, (some .int))
theorem ky_X12_greatest : am_yV mX12_greatest 0 12 := ⟨⟨mem_lwg (mem_t7 (List.mem_of_getElem? (i := 140) rfl)) rfl, mem_lwg (mem_t1 (List.mem_of_getElem? (i := 13) (by decide +kernel))) rfl, by decide +kernel, by decide⟩, mem_lwg (mem_t7 (List.mem_of_getElem? (i := 139) (by decide +kernel))) rfl, mem_lwg (mem_t0 (List.mem_of_getElem? (i := 83) (by decide +kernel))) rfl, _, _, rfl⟩
abbrev mX12_byScores : am_M := (yX12_byScores, cX12_byScores, 7, (some .int))
theorem ky_X12_byScores : am_yV mX12_byScores 2 12 := ⟨⟨mem_lwg (mem_t7 (List.mem_of_getElem? (i := 136) rfl)) rfl, mem_lwg (mem_t1 (List.mem_of_getElem? (i := 13) (by decide +kernel))) rfl, by decide +kernel, by decide⟩, mem_lwg (mem_t7 (List.mem_of_getElem? (i := 135) (by decide +kernel))) rfl, mem_lwg (mem_t0 (List.mem_of_getElem? (i := 82) (by decide +kernel))) rfl, _, _, rfl⟩
abbrev mX12_methodFor : am_M := (yX12_methodFor, cX12_methodFor, 6, (some .int))
theorem ky_X12_methodFor : am_yV mX12_methodFor 4 12 := ⟨⟨mem_lwg (mem_t7 (List.mem_of_getElem? (i := 116) rfl)) rfl, mem_lwg (mem_t1 (List.mem_of_getElem? (i := 13) (by decide +kernel))) rfl, by decide +kernel, by decide⟩, mem_lwg (mem_t7 (List.mem_of_getElem? (i := 115) (by decide +kernel))) rfl, mem_lwg (mem_t0 (List.mem_of_getElem? (i := 77) (by decide +kernel))) rfl, _, _, rfl⟩
abbrev mX12_judgedColour : am_M := (yX12_judgedColour, cX12_judgedColour, 8, (some .int))
theorem ky_X12_judgedColour : am_yV mX12_judgedColour 1 12 := ⟨⟨mem_lwg (mem_t7 (List.mem_of_getElem? (i := 112) rfl)) rfl, mem_lwg (mem_t1 (List.mem_of_getElem? (i := 13) (by decide +kernel))) rfl, by decide +kernel, by decide⟩, mem_lwg (mem_t7 (List.mem_of_getElem? (i := 111) (by decide +kernel))) rfl, mem_lwg (mem_t0 (List.mem_of_getElem? (i := 76) (by decide +kernel))) rfl, _, _, rfl⟩
abbrev mX12_judges : am_M := (yX12_judges, cX12_judges, 3, none)
theorem ky_X12_judges : am_yV mX12_judges 1 12 := ⟨⟨mem_lwg (mem_t7 (List.mem_of_getElem? (i := 108) rfl)) rfl, mem_lwg (mem_t1 (List.mem_of_getElem? (i := 13) (by decide +kernel))) rfl, by decide +kernel, by decide⟩, mem_lwg (mem_t7 (List.mem_of_getElem? (i := 107) (by decide +kernel))) rfl, mem_lwg (mem_t0 (List.mem_of_getElem? (i := 75) (by decide +kernel))) rfl, _, _, rfl⟩
abbrev mX12_gains : am_M := (yX12_gains, cX12_gains, 8, (some .int))
theorem ky_X12_gains : am_yV mX12_gains 2 12 := ⟨⟨mem_lwg (mem_t7 (List.mem_of_getElem? (i := 104) rfl)) rfl, mem_lwg (mem_t1 (List.mem_of_getElem? (i := 13) (by decide +kernel))) rfl, by decide +kernel, by decide⟩, mem_lwg (mem_t7 (List.mem_of_getElem? (i := 102) (by decide +kernel))) rfl, mem_lwg (mem_t7 (List.mem_of_getElem? (i := 103) (by decide +kernel))) rfl, _, _, rfl⟩
abbrev mX12_potsOf : am_M := (yX12_potsOf, cX12_potsOf, 5, (some .int))
theorem ky_X12_potsOf : am_yV mX12_potsOf 1 12 := ⟨⟨mem_lwg (mem_t7 (List.mem_of_getElem? (i := 152) rfl)) rfl, mem_lwg (mem_t1 (List.mem_of_getElem? (i := 13) (by decide +kernel))) rfl, by decide +kernel, by decide⟩, mem_lwg (mem_t7 (List.mem_of_getElem? (i := 151) (by decide +kernel))) rfl, mem_lwg (mem_t0 (List.mem_of_getElem? (i := 85) (by decide +kernel))) rfl, _, _, rfl⟩
abbrev mX12_triesNext : am_M := (yX12_triesNext, cX12_triesNext, 2, (some .boolean))
theorem ky_X12_triesNext : am_yV mX12_triesNext 0 12 := ⟨⟨mem_lwg (mem_t7 (List.mem_of_getElem? (i := 156) rfl)) rfl, mem_lwg (mem_t1 (List.mem_of_getElem? (i := 13) (by decide +kernel))) rfl, by decide +kernel, by decide⟩, mem_lwg (mem_t7 (List.mem_of_getElem? (i := 155) (by decide +kernel))) rfl, mem_lwg (mem_t0 (List.mem_of_getElem? (i := 86) (by decide +kernel))) rfl, _, _, rfl⟩
abbrev mX12_findsBest : am_M := (yX12_findsBest, cX12_findsBest, 6, none)
theorem ky_X12_findsBest : am_yV mX12_findsBest 0 12 := ⟨⟨mem_lwg (mem_t7 (List.mem_of_getElem? (i := 148) rfl)) rfl, mem_lwg (mem_t1 (List.mem_of_getElem? (i := 13) (by decide +kernel))) rfl, by decide +kernel, by decide⟩, mem_lwg (mem_t7 (List.mem_of_getElem? (i := 147) (by decide +kernel))) rfl, mem_lwg (mem_t0 (List.mem_of_getElem? (i := 84) (by decide +kernel))) rfl, _, _, rfl⟩
abbrev mX12_dueOf : am_M := (yX12_dueOf, cX12_dueOf, 2, (some .int))
theorem ky_X12_dueOf : am_yV mX12_dueOf 1 12 := ⟨⟨mem_lwg (mem_t7 (List.mem_of_getElem? (i := 160) rfl)) rfl, mem_lwg (mem_t1 (List.mem_of_getElem? (i := 13) (by decide +kernel))) rfl, by decide +kernel, by decide⟩, mem_lwg (mem_t7 (List.mem_of_getElem? (i := 159) (by decide +kernel))) rfl, mem_lwg (mem_t0 (List.mem_of_getElem? (i := 87) (by decide +kernel))) rfl, _, _, rfl⟩
abbrev mX12_best : am_M := (yX12_best, cX12_best, 4, (some .int))
theorem ky_X12_best : am_yV mX12_best 1 12 := ⟨⟨mem_lwg (mem_t7 (List.mem_of_getElem? (i := 144) rfl)) rfl, mem_lwg (mem_t1 (List.mem_of_getElem? (i := 13) (by decide +kernel))) rfl, by decide +kernel, by decide⟩, mem_lwg (mem_t7 (List.mem_of_getElem? (i := 142) (by decide +kernel))) rfl, mem_lwg (mem_t7 (List.mem_of_getElem? (i := 143) (by decide +kernel))) rfl, _, _, rfl⟩
abbrev mX12_colour : am_M := (yX12_colour, cX12_colour, 3, (some .int))
theorem ky_X12_colour : am_yV mX12_colour 2 12 := ⟨⟨mem_lwg (mem_t7 (List.mem_of_getElem? (i := 164) rfl)) rfl, mem_lwg (mem_t1 (List.mem_of_getElem? (i := 13) (by decide +kernel))) rfl, by decide +kernel, by decide⟩, mem_lwg (mem_t7 (List.mem_of_getElem? (i := 162) (by decide +kernel))) rfl, mem_lwg (mem_t7 (List.mem_of_getElem? (i := 163) (by decide +kernel))) rfl, _, _, rfl⟩
abbrev mX12_becomes : am_M := (yX12_becomes, cX12_becomes, 4, (some .int))
theorem ky_X12_becomes : am_yV mX12_becomes 1 12 := ⟨⟨mem_lwg (mem_t7 (List.mem_of_getElem? (i := 172) rfl)) rfl, mem_lwg (mem_t1 (List.mem_of_getElem? (i := 13) (by decide +kernel))) rfl, by decide +kernel, by decide⟩, mem_lwg (mem_t7 (List.mem_of_getElem? (i := 171) (by decide +kernel))) rfl, mem_lwg (mem_t0 (List.mem_of_getElem? (i := 88) (by decide +kernel))) rfl, _, _, rfl⟩
abbrev mX12_become : am_M := (yX12_become, cX12_become, 2, (some .int))
theorem ky_X12_become : am_yV mX12_become 1 12 := ⟨⟨mem_lwg (mem_t7 (List.mem_of_getElem? (i := 168) rfl)) rfl, mem_lwg (mem_t1 (List.mem_of_getElem? (i := 13) (by decide +kernel))) rfl, by decide +kernel, by decide⟩, mem_lwg (mem_t7 (List.mem_of_getElem? (i := 166) (by decide +kernel))) rfl, mem_lwg (mem_t7 (List.mem_of_getElem? (i := 167) (by decide +kernel))) rfl, _, _, rfl⟩
abbrev mX12_tradesOf : am_M := (yX12_tradesOf, cX12_tradesOf, 10, (some .boolean))
theorem ky_X12_tradesOf : am_yV mX12_tradesOf 2 12 := ⟨⟨mem_lwg (mem_t7 (List.mem_of_getElem? (i := 184) rfl)) rfl, mem_lwg (mem_t1 (List.mem_of_getElem? (i := 13) (by decide +kernel))) rfl, by decide +kernel, by decide⟩, mem_lwg (mem_t7 (List.mem_of_getElem? (i := 183) (by decide +kernel))) rfl, mem_lwg (mem_t0 (List.mem_of_getElem? (i := 90) (by decide +kernel))) rfl, _, _, rfl⟩
abbrev mX12_round : am_M := (yX12_round, cX12_round, 4, (some .int))
theorem ky_X12_round : am_yV mX12_round 0 12 := ⟨⟨mem_lwg (mem_t7 (List.mem_of_getElem? (i := 180) rfl)) rfl, mem_lwg (mem_t1 (List.mem_of_getElem? (i := 13) (by decide +kernel))) rfl, by decide +kernel, by decide⟩, mem_lwg (mem_t7 (List.mem_of_getElem? (i := 179) (by decide +kernel))) rfl, mem_lwg (mem_t0 (List.mem_of_getElem? (i := 89) (by decide +kernel))) rfl, _, _, rfl⟩
abbrev mX12_trade : am_M := (yX12_trade, cX12_trade, 1, (some .int))
theorem ky_X12_trade : am_yV mX12_trade 0 12 := ⟨⟨mem_lwg (mem_t7 (List.mem_of_getElem? (i := 176) rfl)) rfl, mem_lwg (mem_t1 (List.mem_of_getElem? (i := 13) (by decide +kernel))) rfl, by decide +kernel, by decide⟩, mem_lwg (mem_t7 (List.mem_of_getElem? (i := 174) (by decide +kernel))) rfl, mem_lwg (mem_t7 (List.mem_of_getElem? (i := 175) (by decide +kernel))) rfl, _, _, rfl⟩
abbrev mX12_stand : am_M := (yX12_stand, cX12_stand, 4, (some .int))
theorem ky_X12_stand : am_yV mX12_stand 0 12 := ⟨⟨mem_lwg (mem_t7 (List.mem_of_getElem? (i := 188) rfl)) rfl, mem_lwg (mem_t1 (List.mem_of_getElem? (i := 13) (by decide +kernel))) rfl, by decide +kernel, by decide⟩, mem_lwg (mem_t7 (List.mem_of_getElem? (i := 186) (by decide +kernel))) rfl, mem_lwg (mem_t7 (List.mem_of_getElem? (i := 187) (by decide +kernel))) rfl, _, _, rfl⟩
abbrev mX12_hope : am_M := (yX12_hope, cX12_hope, 15, (some .int))
theorem ky_X12_hope : am_yV mX12_hope 5 12 := ⟨⟨mem_lwg (mem_t7 (List.mem_of_getElem? (i := 192) rfl)) rfl, mem_lwg (mem_t1 (List.mem_of_getElem? (i := 13) (by decide +kernel))) rfl, by decide +kernel, by decide⟩, mem_lwg (mem_t7 (List.mem_of_getElem? (i := 190) (by decide +kernel))) rfl, mem_lwg (mem_t7 (List.mem_of_getElem? (i := 191) (by decide +kernel))) rfl, _, _, rfl⟩
abbrev mX12_restWith : am_M := (yX12_restWith, cX12_restWith, 6, (some .int))
theorem ky_X12_restWith : am_yV mX12_restWith 2 12 := ⟨⟨mem_lwg (mem_t7 (List.mem_of_getElem? (i := 208) rfl)) rfl, mem_lwg (mem_t1 (List.mem_of_getElem? (i := 13) (by decide +kernel))) rfl, by decide +kernel, by decide⟩, mem_lwg (mem_t7 (List.mem_of_getElem? (i := 207) (by decide +kernel))) rfl, mem_lwg (mem_t0 (List.mem_of_getElem? (i := 93) (by decide +kernel))) rfl, _, _, rfl⟩
abbrev mX12_findsHomes : am_M := (yX12_findsHomes, cX12_findsHomes, 4, none)
theorem ky_X12_findsHomes : am_yV mX12_findsHomes 0 12 := ⟨⟨mem_lwg (mem_t7 (List.mem_of_getElem? (i := 204) rfl)) rfl, mem_lwg (mem_t1 (List.mem_of_getElem? (i := 13) (by decide +kernel))) rfl, by decide +kernel, by decide⟩, mem_lwg (mem_t7 (List.mem_of_getElem? (i := 203) (by decide +kernel))) rfl, mem_lwg (mem_t0 (List.mem_of_getElem? (i := 92) (by decide +kernel))) rfl, _, _, rfl⟩
abbrev mX12_homes : am_M := (yX12_homes, cX12_homes, 2, (some .int))
theorem ky_X12_homes : am_yV mX12_homes 1 12 := ⟨⟨mem_lwg (mem_t7 (List.mem_of_getElem? (i := 200) rfl)) rfl, mem_lwg (mem_t1 (List.mem_of_getElem? (i := 13) (by decide +kernel))) rfl, by decide +kernel, by decide⟩, mem_lwg (mem_t7 (List.mem_of_getElem? (i := 198) (by decide +kernel))) rfl, mem_lwg (mem_t7 (List.mem_of_getElem? (i := 199) (by decide +kernel))) rfl, _, _, rfl⟩
abbrev mX12_swap : am_M := (yX12_swap, cX12_swap, 3, (some .int))
theorem ky_X12_swap : am_yV mX12_swap 0 12 := ⟨⟨mem_lwg (mem_t7 (List.mem_of_getElem? (i := 213) rfl)) rfl, mem_lwg (mem_t1 (List.mem_of_getElem? (i := 13) (by decide +kernel))) rfl, by decide +kernel, by decide⟩, mem_lwg (mem_t7 (List.mem_of_getElem? (i := 211) (by decide +kernel))) rfl, mem_lwg (mem_t7 (List.mem_of_getElem? (i := 212) (by decide +kernel))) rfl, _, _, rfl⟩
abbrev mX12_deed : am_M := (yX12_deed, cX12_deed, 4, (some .boolean))
theorem ky_X12_deed : am_yV mX12_deed 3 12 := ⟨⟨mem_lwg (mem_t7 (List.mem_of_getElem? (i := 217) rfl)) rfl, mem_lwg (mem_t1 (List.mem_of_getElem? (i := 13) (by decide +kernel))) rfl, by decide +kernel, by decide⟩, mem_lwg (mem_t7 (List.mem_of_getElem? (i := 215) (by decide +kernel))) rfl, mem_lwg (mem_t7 (List.mem_of_getElem? (i := 216) (by decide +kernel))) rfl, _, _, rfl⟩
abbrev mX12_must : am_M := (yX12_must, cX12_must, 7, (some .int))
theorem ky_X12_must : am_yV mX12_must 3 12 := ⟨⟨mem_lwg (mem_t7 (List.mem_of_getElem? (i := 221) rfl)) rfl, mem_lwg (mem_t1 (List.mem_of_getElem? (i := 13) (by decide +kernel))) rfl, by decide +kernel, by decide⟩, mem_lwg (mem_t7 (List.mem_of_getElem? (i := 219) (by decide +kernel))) rfl, mem_lwg (mem_t7 (List.mem_of_getElem? (i := 220) (by decide +kernel))) rfl, _, _, rfl⟩
abbrev mX12_isPlace : am_M := (yX12_isPlace, cX12_isPlace, 2, (some .boolean))
theorem ky_X12_isPlace : am_yV mX12_isPlace 1 12 := ⟨⟨mem_lwg (mem_t7 (List.mem_of_getElem? (i := 229) rfl)) rfl, mem_lwg (mem_t1 (List.mem_of_getElem? (i := 13) (by decide +kernel))) rfl, by decide +kernel, by decide⟩, mem_lwg (mem_t7 (List.mem_of_getElem? (i := 228) (by decide +kernel))) rfl, mem_lwg (mem_t0 (List.mem_of_getElem? (i := 94) (by decide +kernel))) rfl, _, _, rfl⟩
abbrev mX12_looks : am_M := (yX12_looks, cX12_looks, 3, (some .boolean))
theorem ky_X12_looks : am_yV mX12_looks 2 12 := ⟨⟨mem_lwg (mem_t7 (List.mem_of_getElem? (i := 225) rfl)) rfl, mem_lwg (mem_t1 (List.mem_of_getElem? (i := 13) (by decide +kernel))) rfl, by decide +kernel, by decide⟩, mem_lwg (mem_t7 (List.mem_of_getElem? (i := 223) (by decide +kernel))) rfl, mem_lwg (mem_t7 (List.mem_of_getElem? (i := 224) (by decide +kernel))) rfl, _, _, rfl⟩
abbrev mX12_link : am_M := (yX12_link, cX12_link, 4, (some .boolean))
theorem ky_X12_link : am_yV mX12_link 3 12 := ⟨⟨mem_lwg (mem_t7 (List.mem_of_getElem? (i := 233) rfl)) rfl, mem_lwg (mem_t1 (List.mem_of_getElem? (i := 13) (by decide +kernel))) rfl, by decide +kernel, by decide⟩, mem_lwg (mem_t7 (List.mem_of_getElem? (i := 231) (by decide +kernel))) rfl, mem_lwg (mem_t7 (List.mem_of_getElem? (i := 232) (by decide +kernel))) rfl, _, _, rfl⟩
abbrev mX12_notesWay : am_M := (yX12_notesWay, cX12_notesWay, 4, none)
theorem ky_X12_notesWay : am_yV mX12_notesWay 1 12 := ⟨⟨mem_lwg (mem_t8 (List.mem_of_getElem? (i := 5) rfl)) rfl, mem_lwg (mem_t1 (List.mem_of_getElem? (i := 13) (by decide +kernel))) rfl, by decide +kernel, by decide⟩, mem_lwg (mem_t8 (List.mem_of_getElem? (i := 4) (by decide +kernel))) rfl, mem_lwg (mem_t0 (List.mem_of_getElem? (i := 96) (by decide +kernel))) rfl, _, _, rfl⟩
abbrev mX12_findsWay : am_M := (yX12_findsWay, cX12_findsWay, 8, none)
theorem ky_X12_findsWay : am_yV mX12_findsWay 3 12 := ⟨⟨mem_lwg (mem_t8 (List.mem_of_getElem? (i := 1) rfl)) rfl, mem_lwg (mem_t1 (List.mem_of_getElem? (i := 13) (by decide +kernel))) rfl, by decide +kernel, by decide⟩, mem_lwg (mem_t8 (List.mem_of_getElem? (i := 0) (by decide +kernel))) rfl, mem_lwg (mem_t0 (List.mem_of_getElem? (i := 95) (by decide +kernel))) rfl, _, _, rfl⟩
abbrev mX12_way : am_M := (yX12_way, cX12_way, 5, (some .int))
theorem ky_X12_way : am_yV mX12_way 4 12 := ⟨⟨mem_lwg (mem_t7 (List.mem_of_getElem? (i := 237) rfl)) rfl, mem_lwg (mem_t1 (List.mem_of_getElem? (i := 13) (by decide +kernel))) rfl, by decide +kernel, by decide⟩, mem_lwg (mem_t7 (List.mem_of_getElem? (i := 235) (by decide +kernel))) rfl, mem_lwg (mem_t7 (List.mem_of_getElem? (i := 236) (by decide +kernel))) rfl, _, _, rfl⟩
abbrev mX12_goesBy : am_M := (yX12_goesBy, cX12_goesBy, 5, none)
theorem ky_X12_goesBy : am_yV mX12_goesBy 0 12 := ⟨⟨mem_lwg (mem_t8 (List.mem_of_getElem? (i := 13) rfl)) rfl, mem_lwg (mem_t1 (List.mem_of_getElem? (i := 13) (by decide +kernel))) rfl, by decide +kernel, by decide⟩, mem_lwg (mem_t8 (List.mem_of_getElem? (i := 12) (by decide +kernel))) rfl, mem_lwg (mem_t0 (List.mem_of_getElem? (i := 97) (by decide +kernel))) rfl, _, _, rfl⟩
abbrev mX12_years : am_M := (yX12_years, cX12_years, 3, (some .int))
theorem ky_X12_years : am_yV mX12_years 1 12 := ⟨⟨mem_lwg (mem_t8 (List.mem_of_getElem? (i := 9) rfl)) rfl, mem_lwg (mem_t1 (List.mem_of_getElem? (i := 13) (by decide +kernel))) rfl, by decide +kernel, by decide⟩, mem_lwg (mem_t8 (List.mem_of_getElem? (i := 7) (by decide +kernel))) rfl, mem_lwg (mem_t8 (List.mem_of_getElem? (i := 8) (by decide +kernel))) rfl, _, _, rfl⟩
abbrev mX12_kept : am_M := (yX12_kept, cX12_kept, 2, (some .int))
theorem ky_X12_kept : am_yV mX12_kept 1 12 := ⟨⟨mem_lwg (mem_t8 (List.mem_of_getElem? (i := 27) rfl)) rfl, mem_lwg (mem_t1 (List.mem_of_getElem? (i := 13) (by decide +kernel))) rfl, by decide +kernel, by decide⟩, mem_lwg (mem_t8 (List.mem_of_getElem? (i := 26) (by decide +kernel))) rfl, mem_lwg (mem_t0 (List.mem_of_getElem? (i := 99) (by decide +kernel))) rfl, _, _, rfl⟩
abbrev mX12_keepsPeople : am_M := (yX12_keepsPeople, cX12_keepsPeople, 2, none)
theorem ky_X12_keepsPeople : am_yV mX12_keepsPeople 0 12 := ⟨⟨mem_lwg (mem_t8 (List.mem_of_getElem? (i := 31) rfl)) rfl, mem_lwg (mem_t1 (List.mem_of_getElem? (i := 13) (by decide +kernel))) rfl, by decide +kernel, by decide⟩, mem_lwg (mem_t8 (List.mem_of_getElem? (i := 30) (by decide +kernel))) rfl, mem_lwg (mem_t0 (List.mem_of_getElem? (i := 100) (by decide +kernel))) rfl, _, _, rfl⟩
abbrev mX12_keepsRule : am_M := (yX12_keepsRule, cX12_keepsRule, 2, none)
theorem ky_X12_keepsRule : am_yV mX12_keepsRule 0 12 := ⟨⟨mem_lwg (mem_t8 (List.mem_of_getElem? (i := 35) rfl)) rfl, mem_lwg (mem_t1 (List.mem_of_getElem? (i := 13) (by decide +kernel))) rfl, by decide +kernel, by decide⟩, mem_lwg (mem_t8 (List.mem_of_getElem? (i := 34) (by decide +kernel))) rfl, mem_lwg (mem_t0 (List.mem_of_getElem? (i := 101) (by decide +kernel))) rfl, _, _, rfl⟩
abbrev mX12_image : am_M := (yX12_image, cX12_image, 3, (some .boolean))
theorem ky_X12_image : am_yV mX12_image 1 12 := ⟨⟨mem_lwg (mem_t8 (List.mem_of_getElem? (i := 23) rfl)) rfl, mem_lwg (mem_t1 (List.mem_of_getElem? (i := 13) (by decide +kernel))) rfl, by decide +kernel, by decide⟩, mem_lwg (mem_t8 (List.mem_of_getElem? (i := 21) (by decide +kernel))) rfl, mem_lwg (mem_t8 (List.mem_of_getElem? (i := 22) (by decide +kernel))) rfl, _, _, rfl⟩
abbrev mX12_look : am_M := (yX12_look, cX12_look, 2, (some .int))
theorem ky_X12_look : am_yV mX12_look 1 12 := ⟨⟨mem_lwg (mem_t8 (List.mem_of_getElem? (i := 39) rfl)) rfl, mem_lwg (mem_t1 (List.mem_of_getElem? (i := 13) (by decide +kernel))) rfl, by decide +kernel, by decide⟩, mem_lwg (mem_t8 (List.mem_of_getElem? (i := 37) (by decide +kernel))) rfl, mem_lwg (mem_t8 (List.mem_of_getElem? (i := 38) (by decide +kernel))) rfl, _, _, rfl⟩
abbrev mJ7_fill_53178 : am_M := (yJ7_fill_53178, cJ7_fill_53178, 4, none)
theorem ky_J7_fill_53178 : am_yS mJ7_fill_53178 2 := ⟨⟨mem_lwg (mem_t2 (List.mem_of_getElem? (i := 224) rfl)) rfl, mem_lwg (mem_t1 (List.mem_of_getElem? (i := 14) (by decide +kernel))) rfl, by decide +kernel, by decide⟩, mem_lwg (mem_t2 (List.mem_of_getElem? (i := 223) (by decide +kernel))) rfl⟩
abbrev mJ6_bitCount_0f7a4 : am_M := (yJ6_bitCount_0f7a4, cJ6_bitCount_0f7a4, 1, (some .int))
theorem ky_J6_bitCount_0f7a4 : am_yS mJ6_bitCount_0f7a4 1 := ⟨⟨mem_lwg (mem_t5 (List.mem_of_getElem? (i := 40) rfl)) rfl, mem_lwg (mem_t1 (List.mem_of_getElem? (i := 22) (by decide +kernel))) rfl, by decide +kernel, by decide⟩, mem_lwg (mem_t5 (List.mem_of_getElem? (i := 39) (by decide +kernel))) rfl⟩
theorem kl_X11_3 : Cond.methodLink RX11 3 ⟨"java/lang/Object", "<init>", "()V"⟩ ∈ lwg := mem_lwg (mem_t1 (List.mem_of_getElem? (i := 28) (by decide +kernel))) rfl
theorem kl_X11_18 : Cond.methodLink RX11 18 yX8_init ∈ lwg := mem_lwg (mem_t1 (List.mem_of_getElem? (i := 225) (by decide +kernel))) rfl
theorem kl_X11_27 : Cond.methodLink RX11 27 yX2_init ∈ lwg := mem_lwg (mem_t1 (List.mem_of_getElem? (i := 238) (by decide +kernel))) rfl
theorem kl_X11_36 : Cond.methodLink RX11 36 yX0_init ∈ lwg := mem_lwg (mem_t2 (List.mem_of_getElem? (i := 32) (by decide +kernel))) rfl
theorem kl_X11_43 : Cond.methodLink RX11 43 yX10_init ∈ lwg := mem_lwg (mem_t2 (List.mem_of_getElem? (i := 64) (by decide +kernel))) rfl
theorem kl_X11_50 : Cond.methodLink RX11 50 yX4_init ∈ lwg := mem_lwg (mem_t2 (List.mem_of_getElem? (i := 86) (by decide +kernel))) rfl
theorem kl_X11_57 : Cond.methodLink RX11 57 yX3_init ∈ lwg := mem_lwg (mem_t2 (List.mem_of_getElem? (i := 113) (by decide +kernel))) rfl
theorem kl_X11_89 : Cond.methodLink RX11 89 yX9_clear ∈ lwg := mem_lwg (mem_t2 (List.mem_of_getElem? (i := 218) (by decide +kernel))) rfl
theorem kl_X11_93 : Cond.methodLink RX11 93 yX9_hasColour ∈ lwg := mem_lwg (mem_t3 (List.mem_of_getElem? (i := 3) (by decide +kernel))) rfl
theorem kl_X11_97 : Cond.methodLink RX11 97 yX11_isWithin ∈ lwg := mem_lwg (mem_t3 (List.mem_of_getElem? (i := 7) (by decide +kernel))) rfl
theorem kl_X11_110 : Cond.methodLink RX11 110 yX11_isHouse ∈ lwg := mem_lwg (mem_t3 (List.mem_of_getElem? (i := 18) (by decide +kernel))) rfl
theorem kl_X11_116 : Cond.methodLink RX11 116 yX9_livingIn ∈ lwg := mem_lwg (mem_t3 (List.mem_of_getElem? (i := 21) (by decide +kernel))) rfl
theorem kl_X11_123 : Cond.methodLink RX11 123 yX9_hasPerson ∈ lwg := mem_lwg (mem_t3 (List.mem_of_getElem? (i := 29) (by decide +kernel))) rfl
theorem kl_X11_126 : Cond.methodLink RX11 126 yX9_hasWall ∈ lwg := mem_lwg (mem_t3 (List.mem_of_getElem? (i := 37) (by decide +kernel))) rfl
theorem kl_X11_153 : Cond.methodLink RX11 153 yX11_putNumber ∈ lwg := mem_lwg (mem_t3 (List.mem_of_getElem? (i := 61) (by decide +kernel))) rfl
theorem kl_X11_156 : Cond.methodLink RX11 156 yX7_read ∈ lwg := mem_lwg (mem_t3 (List.mem_of_getElem? (i := 73) (by decide +kernel))) rfl
theorem kl_X11_169 : Cond.methodLink RX11 169 yX6_copyFrom ∈ lwg := mem_lwg (mem_t4 (List.mem_of_getElem? (i := 30) (by decide +kernel))) rfl
theorem kl_X11_178 : Cond.methodLink RX11 178 yX8_measure ∈ lwg := mem_lwg (mem_t4 (List.mem_of_getElem? (i := 46) (by decide +kernel))) rfl
theorem kl_X11_181 : Cond.methodLink RX11 181 yX8_yardsOf ∈ lwg := mem_lwg (mem_t4 (List.mem_of_getElem? (i := 52) (by decide +kernel))) rfl
theorem kl_X11_186 : Cond.methodLink RX11 186 yX8_worthTo ∈ lwg := mem_lwg (mem_t4 (List.mem_of_getElem? (i := 61) (by decide +kernel))) rfl
theorem kl_X11_190 : Cond.methodLink RX11 190 yX11_imagined ∈ lwg := mem_lwg (mem_t4 (List.mem_of_getElem? (i := 82) (by decide +kernel))) rfl
theorem kl_X11_194 : Cond.methodLink RX11 194 yX11_adopt ∈ lwg := mem_lwg (mem_t4 (List.mem_of_getElem? (i := 177) (by decide +kernel))) rfl
theorem kl_X11_198 : Cond.methodLink RX11 198 yX2_weighSayings ∈ lwg := mem_lwg (mem_t4 (List.mem_of_getElem? (i := 185) (by decide +kernel))) rfl
theorem kl_X11_207 : Cond.methodLink RX11 207 yX0_choose ∈ lwg := mem_lwg (mem_t4 (List.mem_of_getElem? (i := 143) (by decide +kernel))) rfl
theorem kl_X11_211 : Cond.methodLink RX11 211 yX0_potsOfChosen ∈ lwg := mem_lwg (mem_t4 (List.mem_of_getElem? (i := 200) (by decide +kernel))) rfl
theorem kl_X11_214 : Cond.methodLink RX11 214 yX0_dueOf ∈ lwg := mem_lwg (mem_t4 (List.mem_of_getElem? (i := 204) (by decide +kernel))) rfl
theorem kl_X11_217 : Cond.methodLink RX11 217 yX0_lackOfChosen ∈ lwg := mem_lwg (mem_t4 (List.mem_of_getElem? (i := 214) (by decide +kernel))) rfl
theorem kl_X11_220 : Cond.methodLink RX11 220 yX10_round ∈ lwg := mem_lwg (mem_t4 (List.mem_of_getElem? (i := 223) (by decide +kernel))) rfl
theorem kl_X11_223 : Cond.methodLink RX11 223 yX10_tradesTillRest ∈ lwg := mem_lwg (mem_t5 (List.mem_of_getElem? (i := 11) (by decide +kernel))) rfl
theorem kl_X11_226 : Cond.methodLink RX11 226 yX4_consider ∈ lwg := mem_lwg (mem_t5 (List.mem_of_getElem? (i := 22) (by decide +kernel))) rfl
theorem kl_X11_236 : Cond.methodLink RX11 236 yX3_plan ∈ lwg := mem_lwg (mem_t5 (List.mem_of_getElem? (i := 48) (by decide +kernel))) rfl
theorem kl_X11_242 : Cond.methodLink RX11 242 yX3_greatestSum ∈ lwg := mem_lwg (mem_t5 (List.mem_of_getElem? (i := 69) (by decide +kernel))) rfl
theorem kl_X11_245 : Cond.methodLink RX11 245 yX3_firstSwap ∈ lwg := mem_lwg (mem_t5 (List.mem_of_getElem? (i := 77) (by decide +kernel))) rfl
theorem kl_X11_252 : Cond.methodLink RX11 252 yX1_add ∈ lwg := mem_lwg (mem_t5 (List.mem_of_getElem? (i := 90) (by decide +kernel))) rfl
theorem kl_X11_257 : Cond.methodLink RX11 257 yX1_follow ∈ lwg := mem_lwg (mem_t5 (List.mem_of_getElem? (i := 98) (by decide +kernel))) rfl
theorem kl_X11_260 : Cond.methodLink RX11 260 yX1_isTorn ∈ lwg := mem_lwg (mem_t5 (List.mem_of_getElem? (i := 107) (by decide +kernel))) rfl
theorem kl_X11_264 : Cond.methodLink RX11 264 yX1_isAbove ∈ lwg := mem_lwg (mem_t5 (List.mem_of_getElem? (i := 111) (by decide +kernel))) rfl
theorem kl_X11_268 : Cond.methodLink RX11 268 yX11_isPlace ∈ lwg := mem_lwg (mem_t5 (List.mem_of_getElem? (i := 116) (by decide +kernel))) rfl
theorem kl_X11_280 : Cond.methodLink RX11 280 yX5_join ∈ lwg := mem_lwg (mem_t5 (List.mem_of_getElem? (i := 123) (by decide +kernel))) rfl
theorem kl_X11_284 : Cond.methodLink RX11 284 yX5_findWay ∈ lwg := mem_lwg (mem_t5 (List.mem_of_getElem? (i := 131) (by decide +kernel))) rfl
theorem kl_X11_296 : Cond.methodLink RX11 296 yX11_passYear ∈ lwg := mem_lwg (mem_t5 (List.mem_of_getElem? (i := 148) (by decide +kernel))) rfl
theorem kl_X11_299 : Cond.methodLink RX11 299 yX9_copyFrom ∈ lwg := mem_lwg (mem_t5 (List.mem_of_getElem? (i := 167) (by decide +kernel))) rfl
theorem kl_X11_307 : Cond.methodLink RX11 307 yX2_decide ∈ lwg := mem_lwg (mem_t4 (List.mem_of_getElem? (i := 86) (by decide +kernel))) rfl
theorem kl_X11_317 : Cond.methodLink RX11 317 yX11_passNight ∈ lwg := mem_lwg (mem_t5 (List.mem_of_getElem? (i := 152) (by decide +kernel))) rfl
theorem kl_X11_320 : Cond.methodLink RX11 320 yX9_draw ∈ lwg := mem_lwg (mem_t5 (List.mem_of_getElem? (i := 156) (by decide +kernel))) rfl
theorem kl_X11_323 : Cond.methodLink RX11 323 yX9_favourite ∈ lwg := mem_lwg (mem_t5 (List.mem_of_getElem? (i := 162) (by decide +kernel))) rfl
theorem kl_X0_3 : Cond.methodLink RX0 3 ⟨"java/lang/Object", "<init>", "()V"⟩ ∈ lwg := mem_lwg (mem_t2 (List.mem_of_getElem? (i := 35) (by decide +kernel))) rfl
theorem kl_X0_39 : Cond.methodLink RX0 39 yX8_measure ∈ lwg := mem_lwg (mem_t4 (List.mem_of_getElem? (i := 147) (by decide +kernel))) rfl
theorem kl_X0_44 : Cond.methodLink RX0 44 yX0_greatestWithout ∈ lwg := mem_lwg (mem_t4 (List.mem_of_getElem? (i := 148) (by decide +kernel))) rfl
theorem kl_X0_48 : Cond.methodLink RX0 48 ⟨"java/lang/System", "arraycopy", "(Ljava/lang/Object;ILjava/lang/Object;II)V"⟩ ∈ lwg := mem_lwg (mem_t4 (List.mem_of_getElem? (i := 168) (by decide +kernel))) rfl
theorem kl_X0_62 : Cond.methodLink RX0 62 yX0_worthsOfChosenWithout ∈ lwg := mem_lwg (mem_t4 (List.mem_of_getElem? (i := 208) (by decide +kernel))) rfl
theorem kl_X0_65 : Cond.methodLink RX0 65 yX0_potsOfChosen ∈ lwg := mem_lwg (mem_t4 (List.mem_of_getElem? (i := 213) (by decide +kernel))) rfl
theorem kl_X0_72 : Cond.methodLink RX0 72 yX0_dueOf ∈ lwg := mem_lwg (mem_t4 (List.mem_of_getElem? (i := 218) (by decide +kernel))) rfl
theorem kl_X0_75 : Cond.methodLink RX0 75 yX8_worthTo ∈ lwg := mem_lwg (mem_t4 (List.mem_of_getElem? (i := 212) (by decide +kernel))) rfl
theorem kl_X0_79 : Cond.methodLink RX0 79 yX0_addUp ∈ lwg := mem_lwg (mem_t4 (List.mem_of_getElem? (i := 152) (by decide +kernel))) rfl
theorem kl_X0_84 : Cond.methodLink RX0 84 yX0_tryFrom ∈ lwg := mem_lwg (mem_t4 (List.mem_of_getElem? (i := 164) (by decide +kernel))) rfl
theorem kl_X0_88 : Cond.methodLink RX0 88 yJ7_fill_53178 ∈ lwg := mem_lwg (mem_t4 (List.mem_of_getElem? (i := 156) (by decide +kernel))) rfl
theorem kl_X0_94 : Cond.methodLink RX0 94 yX0_addOne ∈ lwg := mem_lwg (mem_t4 (List.mem_of_getElem? (i := 157) (by decide +kernel))) rfl
theorem kl_X0_100 : Cond.methodLink RX0 100 yX8_yardsOf ∈ lwg := mem_lwg (mem_t4 (List.mem_of_getElem? (i := 161) (by decide +kernel))) rfl
theorem kl_X0_110 : Cond.methodLink RX0 110 yX8_worthOfTwo ∈ lwg := mem_lwg (mem_t4 (List.mem_of_getElem? (i := 162) (by decide +kernel))) rfl
theorem kl_X0_114 : Cond.methodLink RX0 114 yX0_worthOfNext ∈ lwg := mem_lwg (mem_t4 (List.mem_of_getElem? (i := 169) (by decide +kernel))) rfl
theorem kl_X1_3 : Cond.methodLink RX1 3 ⟨"java/lang/Object", "<init>", "()V"⟩ ∈ lwg := mem_lwg (mem_t1 (List.mem_of_getElem? (i := 70) (by decide +kernel))) rfl
theorem kl_X1_22 : Cond.methodLink RX1 22 yJ7_fill_53178 ∈ lwg := mem_lwg (mem_t2 (List.mem_of_getElem? (i := 233) (by decide +kernel))) rfl
theorem kl_X1_28 : Cond.methodLink RX1 28 ⟨"java/lang/System", "arraycopy", "(Ljava/lang/Object;ILjava/lang/Object;II)V"⟩ ∈ lwg := mem_lwg (mem_t5 (List.mem_of_getElem? (i := 102) (by decide +kernel))) rfl
theorem kl_X1_34 : Cond.methodLink RX1 34 yX1_isAbove ∈ lwg := mem_lwg (mem_t5 (List.mem_of_getElem? (i := 103) (by decide +kernel))) rfl
theorem kl_X2_3 : Cond.methodLink RX2 3 ⟨"java/lang/Object", "<init>", "()V"⟩ ∈ lwg := mem_lwg (mem_t2 (List.mem_of_getElem? (i := 1) (by decide +kernel))) rfl
theorem kl_X2_39 : Cond.methodLink RX2 39 yX8_measure ∈ lwg := mem_lwg (mem_t4 (List.mem_of_getElem? (i := 90) (by decide +kernel))) rfl
theorem kl_X2_49 : Cond.methodLink RX2 49 yX2_decideWall ∈ lwg := mem_lwg (mem_t4 (List.mem_of_getElem? (i := 91) (by decide +kernel))) rfl
theorem kl_X2_56 : Cond.methodLink RX2 56 yX2_decide ∈ lwg := mem_lwg (mem_t4 (List.mem_of_getElem? (i := 189) (by decide +kernel))) rfl
theorem kl_X2_60 : Cond.methodLink RX2 60 yX8_worthTo ∈ lwg := mem_lwg (mem_t4 (List.mem_of_getElem? (i := 190) (by decide +kernel))) rfl
theorem kl_X2_67 : Cond.methodLink RX2 67 yX2_sayAlone ∈ lwg := mem_lwg (mem_t4 (List.mem_of_getElem? (i := 191) (by decide +kernel))) rfl
theorem kl_X2_71 : Cond.methodLink RX2 71 ⟨"java/lang/System", "arraycopy", "(Ljava/lang/Object;ILjava/lang/Object;II)V"⟩ ∈ lwg := mem_lwg (mem_t4 (List.mem_of_getElem? (i := 195) (by decide +kernel))) rfl
theorem kl_X2_77 : Cond.methodLink RX2 77 yX2_gatherFacts ∈ lwg := mem_lwg (mem_t4 (List.mem_of_getElem? (i := 95) (by decide +kernel))) rfl
theorem kl_X2_84 : Cond.methodLink RX2 84 yX2_chosenMethod ∈ lwg := mem_lwg (mem_t4 (List.mem_of_getElem? (i := 101) (by decide +kernel))) rfl
theorem kl_X2_88 : Cond.methodLink RX2 88 yX2_seerOfMost ∈ lwg := mem_lwg (mem_t4 (List.mem_of_getElem? (i := 123) (by decide +kernel))) rfl
theorem kl_X2_92 : Cond.methodLink RX2 92 yX9_favourite ∈ lwg := mem_lwg (mem_t4 (List.mem_of_getElem? (i := 127) (by decide +kernel))) rfl
theorem kl_X2_95 : Cond.methodLink RX2 95 yX2_colourOfMost ∈ lwg := mem_lwg (mem_t4 (List.mem_of_getElem? (i := 131) (by decide +kernel))) rfl
theorem kl_X2_99 : Cond.methodLink RX2 99 yX2_colourByTurn ∈ lwg := mem_lwg (mem_t4 (List.mem_of_getElem? (i := 139) (by decide +kernel))) rfl
theorem kl_X2_105 : Cond.methodLink RX2 105 yX8_yardsOf ∈ lwg := mem_lwg (mem_t4 (List.mem_of_getElem? (i := 99) (by decide +kernel))) rfl
theorem kl_X2_109 : Cond.methodLink RX2 109 yJ9_max_7cf53 ∈ lwg := mem_lwg (mem_t4 (List.mem_of_getElem? (i := 100) (by decide +kernel))) rfl
theorem kl_X2_126 : Cond.methodLink RX2 126 yX6_stepsFrom ∈ lwg := mem_lwg (mem_t4 (List.mem_of_getElem? (i := 105) (by decide +kernel))) rfl
theorem kl_X2_132 : Cond.methodLink RX2 132 yX2_holds ∈ lwg := mem_lwg (mem_t4 (List.mem_of_getElem? (i := 109) (by decide +kernel))) rfl
theorem kl_X2_142 : Cond.methodLink RX2 142 yX2_factAt ∈ lwg := mem_lwg (mem_t4 (List.mem_of_getElem? (i := 113) (by decide +kernel))) rfl
theorem kl_X2_145 : Cond.methodLink RX2 145 yX2_part ∈ lwg := mem_lwg (mem_t4 (List.mem_of_getElem? (i := 117) (by decide +kernel))) rfl
theorem kl_X2_148 : Cond.methodLink RX2 148 yX2_joined ∈ lwg := mem_lwg (mem_t4 (List.mem_of_getElem? (i := 120) (by decide +kernel))) rfl
theorem kl_X2_152 : Cond.methodLink RX2 152 yX2_pointsOf ∈ lwg := mem_lwg (mem_t4 (List.mem_of_getElem? (i := 135) (by decide +kernel))) rfl
theorem kl_X3_3 : Cond.methodLink RX3 3 ⟨"java/lang/Object", "<init>", "()V"⟩ ∈ lwg := mem_lwg (mem_t2 (List.mem_of_getElem? (i := 116) (by decide +kernel))) rfl
theorem kl_X3_29 : Cond.methodLink RX3 29 yX8_measure ∈ lwg := mem_lwg (mem_t5 (List.mem_of_getElem? (i := 52) (by decide +kernel))) rfl
theorem kl_X3_43 : Cond.methodLink RX3 43 yX8_worthIn ∈ lwg := mem_lwg (mem_t5 (List.mem_of_getElem? (i := 53) (by decide +kernel))) rfl
theorem kl_X3_47 : Cond.methodLink RX3 47 yX3_greatestFrom ∈ lwg := mem_lwg (mem_t5 (List.mem_of_getElem? (i := 54) (by decide +kernel))) rfl
theorem kl_X3_51 : Cond.methodLink RX3 51 yX3_firstHouse ∈ lwg := mem_lwg (mem_t5 (List.mem_of_getElem? (i := 65) (by decide +kernel))) rfl
theorem kl_X3_55 : Cond.methodLink RX3 55 yX3_likesHouseOf ∈ lwg := mem_lwg (mem_t5 (List.mem_of_getElem? (i := 81) (by decide +kernel))) rfl
theorem kl_X3_62 : Cond.methodLink RX3 62 yX8_worthTo ∈ lwg := mem_lwg (mem_t5 (List.mem_of_getElem? (i := 85) (by decide +kernel))) rfl
theorem kl_X3_66 : Cond.methodLink RX3 66 yJ6_bitCount_0f7a4 ∈ lwg := mem_lwg (mem_t5 (List.mem_of_getElem? (i := 58) (by decide +kernel))) rfl
theorem kl_X3_72 : Cond.methodLink RX3 72 yX3_sumWith ∈ lwg := mem_lwg (mem_t5 (List.mem_of_getElem? (i := 60) (by decide +kernel))) rfl
theorem kl_X3_76 : Cond.methodLink RX3 76 yJ9_max_7cf53 ∈ lwg := mem_lwg (mem_t5 (List.mem_of_getElem? (i := 64) (by decide +kernel))) rfl
theorem kl_X4_3 : Cond.methodLink RX4 3 ⟨"java/lang/Object", "<init>", "()V"⟩ ∈ lwg := mem_lwg (mem_t2 (List.mem_of_getElem? (i := 89) (by decide +kernel))) rfl
theorem kl_X4_33 : Cond.methodLink RX4 33 yX4_weighGains ∈ lwg := mem_lwg (mem_t5 (List.mem_of_getElem? (i := 26) (by decide +kernel))) rfl
theorem kl_X4_42 : Cond.methodLink RX4 42 yX4_isKept ∈ lwg := mem_lwg (mem_t5 (List.mem_of_getElem? (i := 34) (by decide +kernel))) rfl
theorem kl_X4_46 : Cond.methodLink RX4 46 yX8_measure ∈ lwg := mem_lwg (mem_t5 (List.mem_of_getElem? (i := 30) (by decide +kernel))) rfl
theorem kl_X4_54 : Cond.methodLink RX4 54 ⟨"java/lang/System", "arraycopy", "(Ljava/lang/Object;ILjava/lang/Object;II)V"⟩ ∈ lwg := mem_lwg (mem_t5 (List.mem_of_getElem? (i := 31) (by decide +kernel))) rfl
theorem kl_X4_60 : Cond.methodLink RX4 60 yX9_hasWall ∈ lwg := mem_lwg (mem_t5 (List.mem_of_getElem? (i := 32) (by decide +kernel))) rfl
theorem kl_X4_64 : Cond.methodLink RX4 64 yX8_worthTo ∈ lwg := mem_lwg (mem_t5 (List.mem_of_getElem? (i := 33) (by decide +kernel))) rfl
theorem kl_X4_68 : Cond.methodLink RX4 68 yJ6_bitCount_0f7a4 ∈ lwg := mem_lwg (mem_t5 (List.mem_of_getElem? (i := 38) (by decide +kernel))) rfl
theorem kl_X5_3 : Cond.methodLink RX5 3 ⟨"java/lang/Object", "<init>", "()V"⟩ ∈ lwg := mem_lwg (mem_t1 (List.mem_of_getElem? (i := 87) (by decide +kernel))) rfl
theorem kl_X5_37 : Cond.methodLink RX5 37 yJ7_fill_53178 ∈ lwg := mem_lwg (mem_t2 (List.mem_of_getElem? (i := 238) (by decide +kernel))) rfl
theorem kl_X5_43 : Cond.methodLink RX5 43 ⟨"java/lang/System", "arraycopy", "(Ljava/lang/Object;ILjava/lang/Object;II)V"⟩ ∈ lwg := mem_lwg (mem_t5 (List.mem_of_getElem? (i := 143) (by decide +kernel))) rfl
theorem kl_X5_49 : Cond.methodLink RX5 49 yX5_walk ∈ lwg := mem_lwg (mem_t5 (List.mem_of_getElem? (i := 135) (by decide +kernel))) rfl
theorem kl_X5_53 : Cond.methodLink RX5 53 yX5_keepRoute ∈ lwg := mem_lwg (mem_t5 (List.mem_of_getElem? (i := 139) (by decide +kernel))) rfl
theorem kl_X6_3 : Cond.methodLink RX6 3 ⟨"java/lang/Object", "<init>", "()V"⟩ ∈ lwg := mem_lwg (mem_t1 (List.mem_of_getElem? (i := 42) (by decide +kernel))) rfl
theorem kl_X6_28 : Cond.methodLink RX6 28 ⟨"java/lang/System", "arraycopy", "(Ljava/lang/Object;ILjava/lang/Object;II)V"⟩ ∈ lwg := mem_lwg (mem_t4 (List.mem_of_getElem? (i := 34) (by decide +kernel))) rfl
theorem kl_X7_3 : Cond.methodLink RX7 3 ⟨"java/lang/Object", "<init>", "()V"⟩ ∈ lwg := mem_lwg (mem_t2 (List.mem_of_getElem? (i := 139) (by decide +kernel))) rfl
theorem kl_X7_41 : Cond.methodLink RX7 41 yX6_clear ∈ lwg := mem_lwg (mem_t3 (List.mem_of_getElem? (i := 77) (by decide +kernel))) rfl
theorem kl_X7_44 : Cond.methodLink RX7 44 yJ9_min_7cf53 ∈ lwg := mem_lwg (mem_t3 (List.mem_of_getElem? (i := 78) (by decide +kernel))) rfl
theorem kl_X7_50 : Cond.methodLink RX7 50 yX7_split ∈ lwg := mem_lwg (mem_t3 (List.mem_of_getElem? (i := 81) (by decide +kernel))) rfl
theorem kl_X7_54 : Cond.methodLink RX7 54 yX7_readLine ∈ lwg := mem_lwg (mem_t3 (List.mem_of_getElem? (i := 211) (by decide +kernel))) rfl
theorem kl_X7_58 : Cond.methodLink RX7 58 yX7_refuse ∈ lwg := mem_lwg (mem_t3 (List.mem_of_getElem? (i := 215) (by decide +kernel))) rfl
theorem kl_X7_61 : Cond.methodLink RX7 61 yX7_advance ∈ lwg := mem_lwg (mem_t3 (List.mem_of_getElem? (i := 219) (by decide +kernel))) rfl
theorem kl_X7_64 : Cond.methodLink RX7 64 yX7_readAny ∈ lwg := mem_lwg (mem_t3 (List.mem_of_getElem? (i := 223) (by decide +kernel))) rfl
theorem kl_X7_67 : Cond.methodLink RX7 67 yX6_addLine ∈ lwg := mem_lwg (mem_t4 (List.mem_of_getElem? (i := 26) (by decide +kernel))) rfl
theorem kl_X7_71 : Cond.methodLink RX7 71 yX7_readAll ∈ lwg := mem_lwg (mem_t3 (List.mem_of_getElem? (i := 227) (by decide +kernel))) rfl
theorem kl_X7_74 : Cond.methodLink RX7 74 yX6_addStep ∈ lwg := mem_lwg (mem_t4 (List.mem_of_getElem? (i := 7) (by decide +kernel))) rfl
theorem kl_X7_78 : Cond.methodLink RX7 78 yX7_readOne ∈ lwg := mem_lwg (mem_t3 (List.mem_of_getElem? (i := 231) (by decide +kernel))) rfl
theorem kl_X7_81 : Cond.methodLink RX7 81 yX7_readComparison ∈ lwg := mem_lwg (mem_t3 (List.mem_of_getElem? (i := 235) (by decide +kernel))) rfl
theorem kl_X7_85 : Cond.methodLink RX7 85 yX7_readDenied ∈ lwg := mem_lwg (mem_t4 (List.mem_of_getElem? (i := 18) (by decide +kernel))) rfl
theorem kl_X7_88 : Cond.methodLink RX7 88 yX7_readBracket ∈ lwg := mem_lwg (mem_t4 (List.mem_of_getElem? (i := 22) (by decide +kernel))) rfl
theorem kl_X7_91 : Cond.methodLink RX7 91 yX7_readSum ∈ lwg := mem_lwg (mem_t3 (List.mem_of_getElem? (i := 239) (by decide +kernel))) rfl
theorem kl_X7_94 : Cond.methodLink RX7 94 yX7_readUnit ∈ lwg := mem_lwg (mem_t4 (List.mem_of_getElem? (i := 3) (by decide +kernel))) rfl
theorem kl_X7_97 : Cond.methodLink RX7 97 yX7_isJoining ∈ lwg := mem_lwg (mem_t4 (List.mem_of_getElem? (i := 11) (by decide +kernel))) rfl
theorem kl_X7_100 : Cond.methodLink RX7 100 yX7_readPart ∈ lwg := mem_lwg (mem_t4 (List.mem_of_getElem? (i := 14) (by decide +kernel))) rfl
theorem kl_X7_103 : Cond.methodLink RX7 103 yX7_kindOf ∈ lwg := mem_lwg (mem_t3 (List.mem_of_getElem? (i := 85) (by decide +kernel))) rfl
theorem kl_X7_107 : Cond.methodLink RX7 107 yX7_tokenOf ∈ lwg := mem_lwg (mem_t3 (List.mem_of_getElem? (i := 88) (by decide +kernel))) rfl
theorem kl_X7_111 : Cond.methodLink RX7 111 yX7_addToken ∈ lwg := mem_lwg (mem_t3 (List.mem_of_getElem? (i := 207) (by decide +kernel))) rfl
theorem kl_X7_114 : Cond.methodLink RX7 114 yX7_keywordAt ∈ lwg := mem_lwg (mem_t3 (List.mem_of_getElem? (i := 91) (by decide +kernel))) rfl
theorem kl_X7_118 : Cond.methodLink RX7 118 yX7_numberAt ∈ lwg := mem_lwg (mem_t3 (List.mem_of_getElem? (i := 146) (by decide +kernel))) rfl
theorem kl_X7_123 : Cond.methodLink RX7 123 yJ0_indexOf_0f7a4 ∈ lwg := mem_lwg (mem_t3 (List.mem_of_getElem? (i := 150) (by decide +kernel))) rfl
theorem kl_X7_130 : Cond.methodLink RX7 130 yJ0_length_8abf5 ∈ lwg := mem_lwg (mem_t3 (List.mem_of_getElem? (i := 95) (by decide +kernel))) rfl
theorem kl_X7_134 : Cond.methodLink RX7 134 yJ0_charAt_5068e ∈ lwg := mem_lwg (mem_t3 (List.mem_of_getElem? (i := 105) (by decide +kernel))) rfl
theorem kl_X7_138 : Cond.methodLink RX7 138 yX7_isKeyword ∈ lwg := mem_lwg (mem_t3 (List.mem_of_getElem? (i := 143) (by decide +kernel))) rfl
theorem kl_X8_3 : Cond.methodLink RX8 3 ⟨"java/lang/Object", "<init>", "()V"⟩ ∈ lwg := mem_lwg (mem_t1 (List.mem_of_getElem? (i := 228) (by decide +kernel))) rfl
theorem kl_X8_24 : Cond.methodLink RX8 24 ⟨"java/lang/System", "arraycopy", "(Ljava/lang/Object;ILjava/lang/Object;II)V"⟩ ∈ lwg := mem_lwg (mem_t4 (List.mem_of_getElem? (i := 50) (by decide +kernel))) rfl
theorem kl_X8_40 : Cond.methodLink RX8 40 yJ9_max_7cf53 ∈ lwg := mem_lwg (mem_t4 (List.mem_of_getElem? (i := 51) (by decide +kernel))) rfl
theorem kl_X8_55 : Cond.methodLink RX8 55 yX8_yardsFrom ∈ lwg := mem_lwg (mem_t4 (List.mem_of_getElem? (i := 69) (by decide +kernel))) rfl
theorem kl_X8_58 : Cond.methodLink RX8 58 yJ9_min_7cf53 ∈ lwg := mem_lwg (mem_t4 (List.mem_of_getElem? (i := 77) (by decide +kernel))) rfl
theorem kl_X8_67 : Cond.methodLink RX8 67 yX8_worthOfTwo ∈ lwg := mem_lwg (mem_t4 (List.mem_of_getElem? (i := 73) (by decide +kernel))) rfl
theorem kl_X8_71 : Cond.methodLink RX8 71 yX8_worthIn ∈ lwg := mem_lwg (mem_t4 (List.mem_of_getElem? (i := 65) (by decide +kernel))) rfl
theorem kl_X9_3 : Cond.methodLink RX9 3 ⟨"java/lang/Object", "<init>", "()V"⟩ ∈ lwg := mem_lwg (mem_t1 (List.mem_of_getElem? (i := 36) (by decide +kernel))) rfl
theorem kl_X9_79 : Cond.methodLink RX9 79 yJ7_fill_53178 ∈ lwg := mem_lwg (mem_t2 (List.mem_of_getElem? (i := 222) (by decide +kernel))) rfl
theorem kl_X9_85 : Cond.methodLink RX9 85 yX6_clear ∈ lwg := mem_lwg (mem_t2 (List.mem_of_getElem? (i := 225) (by decide +kernel))) rfl
theorem kl_X9_88 : Cond.methodLink RX9 88 yX1_clear ∈ lwg := mem_lwg (mem_t2 (List.mem_of_getElem? (i := 229) (by decide +kernel))) rfl
theorem kl_X9_89 : Cond.methodLink RX9 89 yX5_clear ∈ lwg := mem_lwg (mem_t2 (List.mem_of_getElem? (i := 234) (by decide +kernel))) rfl
theorem kl_X9_90 : Cond.methodLink RX9 90 ⟨"java/lang/System", "arraycopy", "(Ljava/lang/Object;ILjava/lang/Object;II)V"⟩ ∈ lwg := mem_lwg (mem_t5 (List.mem_of_getElem? (i := 171) (by decide +kernel))) rfl
theorem kl_X9_96 : Cond.methodLink RX9 96 yX6_copyFrom ∈ lwg := mem_lwg (mem_t5 (List.mem_of_getElem? (i := 172) (by decide +kernel))) rfl
theorem kl_X9_100 : Cond.methodLink RX9 100 yX1_copyFrom ∈ lwg := mem_lwg (mem_t5 (List.mem_of_getElem? (i := 173) (by decide +kernel))) rfl
theorem kl_X9_103 : Cond.methodLink RX9 103 yX5_copyFrom ∈ lwg := mem_lwg (mem_t5 (List.mem_of_getElem? (i := 177) (by decide +kernel))) rfl
theorem kl_X10_3 : Cond.methodLink RX10 3 ⟨"java/lang/Object", "<init>", "()V"⟩ ∈ lwg := mem_lwg (mem_t2 (List.mem_of_getElem? (i := 67) (by decide +kernel))) rfl
theorem kl_X10_29 : Cond.methodLink RX10 29 yX8_measure ∈ lwg := mem_lwg (mem_t5 (List.mem_of_getElem? (i := 15) (by decide +kernel))) rfl
theorem kl_X10_39 : Cond.methodLink RX10 39 ⟨"java/lang/System", "arraycopy", "(Ljava/lang/Object;ILjava/lang/Object;II)V"⟩ ∈ lwg := mem_lwg (mem_t5 (List.mem_of_getElem? (i := 16) (by decide +kernel))) rfl
theorem kl_X10_45 : Cond.methodLink RX10 45 yX10_round ∈ lwg := mem_lwg (mem_t5 (List.mem_of_getElem? (i := 17) (by decide +kernel))) rfl
theorem kl_X10_53 : Cond.methodLink RX10 53 yX10_hasTraded ∈ lwg := mem_lwg (mem_t4 (List.mem_of_getElem? (i := 227) (by decide +kernel))) rfl
theorem kl_X10_57 : Cond.methodLink RX10 57 yX10_weighParts ∈ lwg := mem_lwg (mem_t4 (List.mem_of_getElem? (i := 231) (by decide +kernel))) rfl
theorem kl_X10_64 : Cond.methodLink RX10 64 yX10_hasRepainted ∈ lwg := mem_lwg (mem_t4 (List.mem_of_getElem? (i := 237) (by decide +kernel))) rfl
theorem kl_X10_71 : Cond.methodLink RX10 71 yX8_yardsOf ∈ lwg := mem_lwg (mem_t4 (List.mem_of_getElem? (i := 235) (by decide +kernel))) rfl
theorem kl_X10_81 : Cond.methodLink RX10 81 yX8_worthOfTwo ∈ lwg := mem_lwg (mem_t4 (List.mem_of_getElem? (i := 236) (by decide +kernel))) rfl
theorem kl_X10_85 : Cond.methodLink RX10 85 yX10_pairsGained ∈ lwg := mem_lwg (mem_t5 (List.mem_of_getElem? (i := 1) (by decide +kernel))) rfl
theorem kl_X10_88 : Cond.methodLink RX10 88 yX10_change ∈ lwg := mem_lwg (mem_t5 (List.mem_of_getElem? (i := 4) (by decide +kernel))) rfl
theorem kl_L_9 : Cond.methodLink RL 9 yX11_init ∈ lwg := mem_lwg (mem_t1 (List.mem_of_getElem? (i := 25) (by decide +kernel))) rfl
theorem kl_L_12 : Cond.methodLink RL 12 yX12_init ∈ lwg := mem_lwg (mem_t5 (List.mem_of_getElem? (i := 187) (by decide +kernel))) rfl
theorem kl_L_13 : Cond.methodLink RL 13 yX11_state ∈ lwg := mem_lwg (mem_t2 (List.mem_of_getElem? (i := 210) (by decide +kernel))) rfl
theorem kl_L_17 : Cond.methodLink RL 17 yX12_state ∈ lwg := mem_lwg (mem_t6 (List.mem_of_getElem? (i := 156) (by decide +kernel))) rfl
theorem kl_L_18 : Cond.methodLink RL 18 yX11_colours ∈ lwg := mem_lwg (mem_t2 (List.mem_of_getElem? (i := 214) (by decide +kernel))) rfl
theorem kl_L_22 : Cond.methodLink RL 22 yX12_colours ∈ lwg := mem_lwg (mem_t6 (List.mem_of_getElem? (i := 160) (by decide +kernel))) rfl
theorem kl_L_23 : Cond.methodLink RL 23 yX11_pot ∈ lwg := mem_lwg (mem_t2 (List.mem_of_getElem? (i := 239) (by decide +kernel))) rfl
theorem kl_L_27 : Cond.methodLink RL 27 yX12_pot ∈ lwg := mem_lwg (mem_t6 (List.mem_of_getElem? (i := 168) (by decide +kernel))) rfl
theorem kl_L_28 : Cond.methodLink RL 28 yX11_wall ∈ lwg := mem_lwg (mem_t3 (List.mem_of_getElem? (i := 10) (by decide +kernel))) rfl
theorem kl_L_31 : Cond.methodLink RL 31 yX12_wall ∈ lwg := mem_lwg (mem_t6 (List.mem_of_getElem? (i := 176) (by decide +kernel))) rfl
theorem kl_L_32 : Cond.methodLink RL 32 yX11_person ∈ lwg := mem_lwg (mem_t3 (List.mem_of_getElem? (i := 14) (by decide +kernel))) rfl
theorem kl_L_35 : Cond.methodLink RL 35 yX12_person ∈ lwg := mem_lwg (mem_t6 (List.mem_of_getElem? (i := 180) (by decide +kernel))) rfl
theorem kl_L_36 : Cond.methodLink RL 36 yX11_move ∈ lwg := mem_lwg (mem_t3 (List.mem_of_getElem? (i := 25) (by decide +kernel))) rfl
theorem kl_L_39 : Cond.methodLink RL 39 yX12_move ∈ lwg := mem_lwg (mem_t6 (List.mem_of_getElem? (i := 192) (by decide +kernel))) rfl
theorem kl_L_40 : Cond.methodLink RL 40 yX11_view ∈ lwg := mem_lwg (mem_t3 (List.mem_of_getElem? (i := 33) (by decide +kernel))) rfl
theorem kl_L_44 : Cond.methodLink RL 44 yX12_view ∈ lwg := mem_lwg (mem_t6 (List.mem_of_getElem? (i := 200) (by decide +kernel))) rfl
theorem kl_L_45 : Cond.methodLink RL 45 yX11_tree ∈ lwg := mem_lwg (mem_t3 (List.mem_of_getElem? (i := 41) (by decide +kernel))) rfl
theorem kl_L_49 : Cond.methodLink RL 49 yX12_tree ∈ lwg := mem_lwg (mem_t6 (List.mem_of_getElem? (i := 208) (by decide +kernel))) rfl
theorem kl_L_50 : Cond.methodLink RL 50 yX11_tell ∈ lwg := mem_lwg (mem_t3 (List.mem_of_getElem? (i := 45) (by decide +kernel))) rfl
theorem kl_L_54 : Cond.methodLink RL 54 yX12_tell ∈ lwg := mem_lwg (mem_t6 (List.mem_of_getElem? (i := 212) (by decide +kernel))) rfl
theorem kl_L_55 : Cond.methodLink RL 55 yX11_beside ∈ lwg := mem_lwg (mem_t3 (List.mem_of_getElem? (i := 49) (by decide +kernel))) rfl
theorem kl_L_59 : Cond.methodLink RL 59 yX12_beside ∈ lwg := mem_lwg (mem_t6 (List.mem_of_getElem? (i := 216) (by decide +kernel))) rfl
theorem kl_L_60 : Cond.methodLink RL 60 yX11_paint ∈ lwg := mem_lwg (mem_t3 (List.mem_of_getElem? (i := 53) (by decide +kernel))) rfl
theorem kl_L_63 : Cond.methodLink RL 63 yX12_paint ∈ lwg := mem_lwg (mem_t6 (List.mem_of_getElem? (i := 220) (by decide +kernel))) rfl
theorem kl_L_64 : Cond.methodLink RL 64 yX11_feed ∈ lwg := mem_lwg (mem_t3 (List.mem_of_getElem? (i := 57) (by decide +kernel))) rfl
theorem kl_L_68 : Cond.methodLink RL 68 yX12_feed ∈ lwg := mem_lwg (mem_t6 (List.mem_of_getElem? (i := 224) (by decide +kernel))) rfl
theorem kl_L_69 : Cond.methodLink RL 69 yX11_end ∈ lwg := mem_lwg (mem_t3 (List.mem_of_getElem? (i := 65) (by decide +kernel))) rfl
theorem kl_L_72 : Cond.methodLink RL 72 yX12_end ∈ lwg := mem_lwg (mem_t6 (List.mem_of_getElem? (i := 232) (by decide +kernel))) rfl
theorem kl_L_73 : Cond.methodLink RL 73 yX11_text ∈ lwg := mem_lwg (mem_t3 (List.mem_of_getElem? (i := 69) (by decide +kernel))) rfl
theorem kl_L_77 : Cond.methodLink RL 77 yX12_text ∈ lwg := mem_lwg (mem_t6 (List.mem_of_getElem? (i := 236) (by decide +kernel))) rfl
theorem kl_L_78 : Cond.methodLink RL 78 yX11_fault ∈ lwg := mem_lwg (mem_t4 (List.mem_of_getElem? (i := 38) (by decide +kernel))) rfl
theorem kl_L_81 : Cond.methodLink RL 81 yX12_fault ∈ lwg := mem_lwg (mem_t7 (List.mem_of_getElem? (i := 72) (by decide +kernel))) rfl
theorem kl_L_82 : Cond.methodLink RL 82 yX11_sees ∈ lwg := mem_lwg (mem_t4 (List.mem_of_getElem? (i := 42) (by decide +kernel))) rfl
theorem kl_L_86 : Cond.methodLink RL 86 yX12_sees ∈ lwg := mem_lwg (mem_t7 (List.mem_of_getElem? (i := 76) (by decide +kernel))) rfl
theorem kl_L_87 : Cond.methodLink RL 87 yX11_worth ∈ lwg := mem_lwg (mem_t4 (List.mem_of_getElem? (i := 56) (by decide +kernel))) rfl
theorem kl_L_90 : Cond.methodLink RL 90 yX12_worth ∈ lwg := mem_lwg (mem_t7 (List.mem_of_getElem? (i := 84) (by decide +kernel))) rfl
theorem kl_L_91 : Cond.methodLink RL 91 yX11_colour ∈ lwg := mem_lwg (mem_t4 (List.mem_of_getElem? (i := 78) (by decide +kernel))) rfl
theorem kl_L_94 : Cond.methodLink RL 94 yX12_colour ∈ lwg := mem_lwg (mem_t7 (List.mem_of_getElem? (i := 161) (by decide +kernel))) rfl
theorem kl_L_95 : Cond.methodLink RL 95 yX11_become ∈ lwg := mem_lwg (mem_t4 (List.mem_of_getElem? (i := 173) (by decide +kernel))) rfl
theorem kl_L_98 : Cond.methodLink RL 98 yX12_become ∈ lwg := mem_lwg (mem_t7 (List.mem_of_getElem? (i := 165) (by decide +kernel))) rfl
theorem kl_L_99 : Cond.methodLink RL 99 yX11_gains ∈ lwg := mem_lwg (mem_t4 (List.mem_of_getElem? (i := 181) (by decide +kernel))) rfl
theorem kl_L_102 : Cond.methodLink RL 102 yX12_gains ∈ lwg := mem_lwg (mem_t7 (List.mem_of_getElem? (i := 101) (by decide +kernel))) rfl
theorem kl_L_103 : Cond.methodLink RL 103 yX11_best ∈ lwg := mem_lwg (mem_t4 (List.mem_of_getElem? (i := 196) (by decide +kernel))) rfl
theorem kl_L_106 : Cond.methodLink RL 106 yX12_best ∈ lwg := mem_lwg (mem_t7 (List.mem_of_getElem? (i := 141) (by decide +kernel))) rfl
theorem kl_L_107 : Cond.methodLink RL 107 yX11_trade ∈ lwg := mem_lwg (mem_t4 (List.mem_of_getElem? (i := 219) (by decide +kernel))) rfl
theorem kl_L_110 : Cond.methodLink RL 110 yX12_trade ∈ lwg := mem_lwg (mem_t7 (List.mem_of_getElem? (i := 173) (by decide +kernel))) rfl
theorem kl_L_111 : Cond.methodLink RL 111 yX11_stand ∈ lwg := mem_lwg (mem_t5 (List.mem_of_getElem? (i := 7) (by decide +kernel))) rfl
theorem kl_L_114 : Cond.methodLink RL 114 yX12_stand ∈ lwg := mem_lwg (mem_t7 (List.mem_of_getElem? (i := 185) (by decide +kernel))) rfl
theorem kl_L_115 : Cond.methodLink RL 115 yX11_hope ∈ lwg := mem_lwg (mem_t5 (List.mem_of_getElem? (i := 18) (by decide +kernel))) rfl
theorem kl_L_118 : Cond.methodLink RL 118 yX12_hope ∈ lwg := mem_lwg (mem_t7 (List.mem_of_getElem? (i := 189) (by decide +kernel))) rfl
theorem kl_L_119 : Cond.methodLink RL 119 yX11_homes ∈ lwg := mem_lwg (mem_t5 (List.mem_of_getElem? (i := 44) (by decide +kernel))) rfl
theorem kl_L_122 : Cond.methodLink RL 122 yX12_homes ∈ lwg := mem_lwg (mem_t7 (List.mem_of_getElem? (i := 197) (by decide +kernel))) rfl
theorem kl_L_123 : Cond.methodLink RL 123 yX11_swap ∈ lwg := mem_lwg (mem_t5 (List.mem_of_getElem? (i := 73) (by decide +kernel))) rfl
theorem kl_L_126 : Cond.methodLink RL 126 yX12_swap ∈ lwg := mem_lwg (mem_t7 (List.mem_of_getElem? (i := 210) (by decide +kernel))) rfl
theorem kl_L_127 : Cond.methodLink RL 127 yX11_deed ∈ lwg := mem_lwg (mem_t5 (List.mem_of_getElem? (i := 86) (by decide +kernel))) rfl
theorem kl_L_130 : Cond.methodLink RL 130 yX12_deed ∈ lwg := mem_lwg (mem_t7 (List.mem_of_getElem? (i := 214) (by decide +kernel))) rfl
theorem kl_L_131 : Cond.methodLink RL 131 yX11_must ∈ lwg := mem_lwg (mem_t5 (List.mem_of_getElem? (i := 94) (by decide +kernel))) rfl
theorem kl_L_134 : Cond.methodLink RL 134 yX12_must ∈ lwg := mem_lwg (mem_t7 (List.mem_of_getElem? (i := 218) (by decide +kernel))) rfl
theorem kl_L_135 : Cond.methodLink RL 135 yX11_looks ∈ lwg := mem_lwg (mem_t5 (List.mem_of_getElem? (i := 112) (by decide +kernel))) rfl
theorem kl_L_138 : Cond.methodLink RL 138 yX12_looks ∈ lwg := mem_lwg (mem_t7 (List.mem_of_getElem? (i := 222) (by decide +kernel))) rfl
theorem kl_L_139 : Cond.methodLink RL 139 yX11_link ∈ lwg := mem_lwg (mem_t5 (List.mem_of_getElem? (i := 119) (by decide +kernel))) rfl
theorem kl_L_142 : Cond.methodLink RL 142 yX12_link ∈ lwg := mem_lwg (mem_t7 (List.mem_of_getElem? (i := 230) (by decide +kernel))) rfl
theorem kl_L_143 : Cond.methodLink RL 143 yX11_way ∈ lwg := mem_lwg (mem_t5 (List.mem_of_getElem? (i := 127) (by decide +kernel))) rfl
theorem kl_L_147 : Cond.methodLink RL 147 yX12_way ∈ lwg := mem_lwg (mem_t7 (List.mem_of_getElem? (i := 234) (by decide +kernel))) rfl
theorem kl_L_148 : Cond.methodLink RL 148 yX11_years ∈ lwg := mem_lwg (mem_t5 (List.mem_of_getElem? (i := 144) (by decide +kernel))) rfl
theorem kl_L_151 : Cond.methodLink RL 151 yX12_years ∈ lwg := mem_lwg (mem_t8 (List.mem_of_getElem? (i := 6) (by decide +kernel))) rfl
theorem kl_L_152 : Cond.methodLink RL 152 yX11_image ∈ lwg := mem_lwg (mem_t5 (List.mem_of_getElem? (i := 163) (by decide +kernel))) rfl
theorem kl_L_156 : Cond.methodLink RL 156 yX12_image ∈ lwg := mem_lwg (mem_t8 (List.mem_of_getElem? (i := 20) (by decide +kernel))) rfl
theorem kl_L_157 : Cond.methodLink RL 157 yX11_look ∈ lwg := mem_lwg (mem_t5 (List.mem_of_getElem? (i := 181) (by decide +kernel))) rfl
theorem kl_L_160 : Cond.methodLink RL 160 yX12_look ∈ lwg := mem_lwg (mem_t8 (List.mem_of_getElem? (i := 36) (by decide +kernel))) rfl
theorem kl_X12_1 : Cond.methodLink RX12 1 ⟨"java/lang/Object", "<init>", "()V"⟩ ∈ lwg := mem_lwg (mem_t5 (List.mem_of_getElem? (i := 190) (by decide +kernel))) rfl
theorem kl_X12_148 : Cond.methodLink RX12 148 yX12_isIn ∈ lwg := mem_lwg (mem_t6 (List.mem_of_getElem? (i := 164) (by decide +kernel))) rfl
theorem kl_X12_164 : Cond.methodLink RX12 164 yX12_isColour ∈ lwg := mem_lwg (mem_t6 (List.mem_of_getElem? (i := 172) (by decide +kernel))) rfl
theorem kl_X12_168 : Cond.methodLink RX12 168 yX12_isHouse ∈ lwg := mem_lwg (mem_t6 (List.mem_of_getElem? (i := 184) (by decide +kernel))) rfl
theorem kl_X12_171 : Cond.methodLink RX12 171 yX12_livesIn ∈ lwg := mem_lwg (mem_t6 (List.mem_of_getElem? (i := 188) (by decide +kernel))) rfl
theorem kl_X12_175 : Cond.methodLink RX12 175 yX12_isOne ∈ lwg := mem_lwg (mem_t6 (List.mem_of_getElem? (i := 196) (by decide +kernel))) rfl
theorem kl_X12_178 : Cond.methodLink RX12 178 yX12_isWall ∈ lwg := mem_lwg (mem_t6 (List.mem_of_getElem? (i := 204) (by decide +kernel))) rfl
theorem kl_X12_184 : Cond.methodLink RX12 184 yX12_types ∈ lwg := mem_lwg (mem_t6 (List.mem_of_getElem? (i := 228) (by decide +kernel))) rfl
theorem kl_X12_191 : Cond.methodLink RX12 191 yX12_raw ∈ lwg := mem_lwg (mem_t7 (List.mem_of_getElem? (i := 4) (by decide +kernel))) rfl
theorem kl_X12_203 : Cond.methodLink RX12 203 yX12_isLetter ∈ lwg := mem_lwg (mem_t7 (List.mem_of_getElem? (i := 8) (by decide +kernel))) rfl
theorem kl_X12_206 : Cond.methodLink RX12 206 yX12_wordAt ∈ lwg := mem_lwg (mem_t7 (List.mem_of_getElem? (i := 12) (by decide +kernel))) rfl
theorem kl_X12_210 : Cond.methodLink RX12 210 yX12_isDigit ∈ lwg := mem_lwg (mem_t7 (List.mem_of_getElem? (i := 16) (by decide +kernel))) rfl
theorem kl_X12_213 : Cond.methodLink RX12 213 yX12_isMarkSign ∈ lwg := mem_lwg (mem_t7 (List.mem_of_getElem? (i := 20) (by decide +kernel))) rfl
theorem kl_X12_225 : Cond.methodLink RX12 225 yX12_errs ∈ lwg := mem_lwg (mem_t7 (List.mem_of_getElem? (i := 32) (by decide +kernel))) rfl
theorem kl_X12_228 : Cond.methodLink RX12 228 yX12_emits ∈ lwg := mem_lwg (mem_t7 (List.mem_of_getElem? (i := 64) (by decide +kernel))) rfl
theorem kl_X12_232 : Cond.methodLink RX12 232 yX12_reads ∈ lwg := mem_lwg (mem_t7 (List.mem_of_getElem? (i := 0) (by decide +kernel))) rfl
theorem kl_X12_235 : Cond.methodLink RX12 235 yX12_readUnit ∈ lwg := mem_lwg (mem_t7 (List.mem_of_getElem? (i := 60) (by decide +kernel))) rfl
theorem kl_X12_239 : Cond.methodLink RX12 239 yX12_isSign ∈ lwg := mem_lwg (mem_t7 (List.mem_of_getElem? (i := 40) (by decide +kernel))) rfl
theorem kl_X12_242 : Cond.methodLink RX12 242 yX12_readProduct ∈ lwg := mem_lwg (mem_t7 (List.mem_of_getElem? (i := 56) (by decide +kernel))) rfl
theorem kl_X12_245 : Cond.methodLink RX12 245 yX12_readSum ∈ lwg := mem_lwg (mem_t7 (List.mem_of_getElem? (i := 52) (by decide +kernel))) rfl
theorem kl_X12_254 : Cond.methodLink RX12 254 yX12_isWord ∈ lwg := mem_lwg (mem_t7 (List.mem_of_getElem? (i := 28) (by decide +kernel))) rfl
theorem kl_X12_257 : Cond.methodLink RX12 257 yX12_waits ∈ lwg := mem_lwg (mem_t7 (List.mem_of_getElem? (i := 44) (by decide +kernel))) rfl
theorem kl_X12_260 : Cond.methodLink RX12 260 yX12_readCompared ∈ lwg := mem_lwg (mem_t7 (List.mem_of_getElem? (i := 48) (by decide +kernel))) rfl
theorem kl_X12_263 : Cond.methodLink RX12 263 yX12_settles ∈ lwg := mem_lwg (mem_t7 (List.mem_of_getElem? (i := 68) (by decide +kernel))) rfl
theorem kl_X12_266 : Cond.methodLink RX12 266 yX12_readAny ∈ lwg := mem_lwg (mem_t7 (List.mem_of_getElem? (i := 36) (by decide +kernel))) rfl
theorem kl_X12_272 : Cond.methodLink RX12 272 yX12_readText ∈ lwg := mem_lwg (mem_t7 (List.mem_of_getElem? (i := 24) (by decide +kernel))) rfl
theorem kl_X12_275 : Cond.methodLink RX12 275 yX12_twoOf ∈ lwg := mem_lwg (mem_t7 (List.mem_of_getElem? (i := 121) (by decide +kernel))) rfl
theorem kl_X12_279 : Cond.methodLink RX12 279 yX12_seenFrom ∈ lwg := mem_lwg (mem_t7 (List.mem_of_getElem? (i := 80) (by decide +kernel))) rfl
theorem kl_X12_282 : Cond.methodLink RX12 282 yX12_worthFrom ∈ lwg := mem_lwg (mem_t7 (List.mem_of_getElem? (i := 97) (by decide +kernel))) rfl
theorem kl_X12_286 : Cond.methodLink RX12 286 yX12_findsYards ∈ lwg := mem_lwg (mem_t7 (List.mem_of_getElem? (i := 89) (by decide +kernel))) rfl
theorem kl_X12_289 : Cond.methodLink RX12 289 yX12_worthOf ∈ lwg := mem_lwg (mem_t7 (List.mem_of_getElem? (i := 93) (by decide +kernel))) rfl
theorem kl_X12_295 : Cond.methodLink RX12 295 yX12_says ∈ lwg := mem_lwg (mem_t7 (List.mem_of_getElem? (i := 129) (by decide +kernel))) rfl
theorem kl_X12_298 : Cond.methodLink RX12 298 yX12_bestColourOf ∈ lwg := mem_lwg (mem_t7 (List.mem_of_getElem? (i := 125) (by decide +kernel))) rfl
theorem kl_X12_301 : Cond.methodLink RX12 301 yX12_greatest ∈ lwg := mem_lwg (mem_t7 (List.mem_of_getElem? (i := 137) (by decide +kernel))) rfl
theorem kl_X12_304 : Cond.methodLink RX12 304 yX12_isSo ∈ lwg := mem_lwg (mem_t7 (List.mem_of_getElem? (i := 117) (by decide +kernel))) rfl
theorem kl_X12_308 : Cond.methodLink RX12 308 yX12_methodFor ∈ lwg := mem_lwg (mem_t7 (List.mem_of_getElem? (i := 113) (by decide +kernel))) rfl
theorem kl_X12_312 : Cond.methodLink RX12 312 yX12_byScores ∈ lwg := mem_lwg (mem_t7 (List.mem_of_getElem? (i := 133) (by decide +kernel))) rfl
theorem kl_X12_315 : Cond.methodLink RX12 315 yX12_judgedColour ∈ lwg := mem_lwg (mem_t7 (List.mem_of_getElem? (i := 109) (by decide +kernel))) rfl
theorem kl_X12_318 : Cond.methodLink RX12 318 yX12_judges ∈ lwg := mem_lwg (mem_t7 (List.mem_of_getElem? (i := 105) (by decide +kernel))) rfl
theorem kl_X12_321 : Cond.methodLink RX12 321 yX12_potsOf ∈ lwg := mem_lwg (mem_t7 (List.mem_of_getElem? (i := 149) (by decide +kernel))) rfl
theorem kl_X12_330 : Cond.methodLink RX12 330 yX12_triesNext ∈ lwg := mem_lwg (mem_t7 (List.mem_of_getElem? (i := 153) (by decide +kernel))) rfl
theorem kl_X12_334 : Cond.methodLink RX12 334 yX12_findsBest ∈ lwg := mem_lwg (mem_t7 (List.mem_of_getElem? (i := 145) (by decide +kernel))) rfl
theorem kl_X12_337 : Cond.methodLink RX12 337 yX12_dueOf ∈ lwg := mem_lwg (mem_t7 (List.mem_of_getElem? (i := 157) (by decide +kernel))) rfl
theorem kl_X12_340 : Cond.methodLink RX12 340 yX12_becomes ∈ lwg := mem_lwg (mem_t7 (List.mem_of_getElem? (i := 169) (by decide +kernel))) rfl
theorem kl_X12_343 : Cond.methodLink RX12 343 yX12_tradesOf ∈ lwg := mem_lwg (mem_t7 (List.mem_of_getElem? (i := 181) (by decide +kernel))) rfl
theorem kl_X12_346 : Cond.methodLink RX12 346 yX12_round ∈ lwg := mem_lwg (mem_t7 (List.mem_of_getElem? (i := 177) (by decide +kernel))) rfl
theorem kl_X12_349 : Cond.methodLink RX12 349 yX12_ones ∈ lwg := mem_lwg (mem_t7 (List.mem_of_getElem? (i := 193) (by decide +kernel))) rfl
theorem kl_X12_353 : Cond.methodLink RX12 353 yX12_restWith ∈ lwg := mem_lwg (mem_t7 (List.mem_of_getElem? (i := 205) (by decide +kernel))) rfl
theorem kl_X12_356 : Cond.methodLink RX12 356 yX12_findsHomes ∈ lwg := mem_lwg (mem_t7 (List.mem_of_getElem? (i := 201) (by decide +kernel))) rfl
theorem kl_X12_359 : Cond.methodLink RX12 359 yX12_isPlace ∈ lwg := mem_lwg (mem_t7 (List.mem_of_getElem? (i := 226) (by decide +kernel))) rfl
theorem kl_X12_368 : Cond.methodLink RX12 368 yX12_notesWay ∈ lwg := mem_lwg (mem_t8 (List.mem_of_getElem? (i := 2) (by decide +kernel))) rfl
theorem kl_X12_371 : Cond.methodLink RX12 371 yX12_findsWay ∈ lwg := mem_lwg (mem_t7 (List.mem_of_getElem? (i := 238) (by decide +kernel))) rfl
theorem kl_X12_375 : Cond.methodLink RX12 375 yX12_draw ∈ lwg := mem_lwg (mem_t8 (List.mem_of_getElem? (i := 14) (by decide +kernel))) rfl
theorem kl_X12_378 : Cond.methodLink RX12 378 yX12_goesBy ∈ lwg := mem_lwg (mem_t8 (List.mem_of_getElem? (i := 10) (by decide +kernel))) rfl
theorem kl_X12_388 : Cond.methodLink RX12 388 yX12_kept ∈ lwg := mem_lwg (mem_t8 (List.mem_of_getElem? (i := 24) (by decide +kernel))) rfl
theorem kl_X12_394 : Cond.methodLink RX12 394 yX12_keepsPeople ∈ lwg := mem_lwg (mem_t8 (List.mem_of_getElem? (i := 28) (by decide +kernel))) rfl
theorem kl_X12_397 : Cond.methodLink RX12 397 yX12_keepsRule ∈ lwg := mem_lwg (mem_t8 (List.mem_of_getElem? (i := 32) (by decide +kernel))) rfl
theorem kc_X11_185 : Cond.constant RX11 185 (-100000) ∈ lwg := mem_lwg (mem_t4 (List.mem_of_getElem? (i := 60) (by decide +kernel))) rfl
theorem kc_X0_83 : Cond.constant RX0 83 (-2147483648) ∈ lwg := mem_lwg (mem_t4 (List.mem_of_getElem? (i := 163) (by decide +kernel))) rfl
theorem kc_X3_71 : Cond.constant RX3 71 (-2147483648) ∈ lwg := mem_lwg (mem_t5 (List.mem_of_getElem? (i := 59) (by decide +kernel))) rfl
theorem kc_X9_106 : Cond.constant RX9 106 (1664525) ∈ lwg := mem_lwg (mem_t5 (List.mem_of_getElem? (i := 160) (by decide +kernel))) rfl
theorem kc_X9_107 : Cond.constant RX9 107 (1013904223) ∈ lwg := mem_lwg (mem_t5 (List.mem_of_getElem? (i := 161) (by decide +kernel))) rfl
theorem kc_X12_140 : Cond.constant RX12 140 (1664525) ∈ lwg := mem_lwg (mem_t8 (List.mem_of_getElem? (i := 18) (by decide +kernel))) rfl
theorem kc_X12_141 : Cond.constant RX12 141 (1013904223) ∈ lwg := mem_lwg (mem_t8 (List.mem_of_getElem? (i := 19) (by decide +kernel))) rfl
theorem kc_X12_285 : Cond.constant RX12 285 (-100000) ∈ lwg := mem_lwg (mem_t7 (List.mem_of_getElem? (i := 88) (by decide +kernel))) rfl
theorem kc_X12_352 : Cond.constant RX12 352 (-1000000000) ∈ lwg := mem_lwg (mem_t7 (List.mem_of_getElem? (i := 209) (by decide +kernel))) rfl
theorem kc_J11_76 : Cond.constant RJ11 76 (56320) ∈ lwg := mem_lwg (mem_t3 (List.mem_of_getElem? (i := 206) (by decide +kernel))) rfl
theorem kc_J11_110 : Cond.constant RJ11 110 (55232) ∈ lwg := mem_lwg (mem_t3 (List.mem_of_getElem? (i := 202) (by decide +kernel))) rfl
theorem kc_J6_265 : Cond.constant RJ6 265 (1431655765) ∈ lwg := mem_lwg (mem_t5 (List.mem_of_getElem? (i := 41) (by decide +kernel))) rfl
theorem kc_J6_266 : Cond.constant RJ6 266 (858993459) ∈ lwg := mem_lwg (mem_t5 (List.mem_of_getElem? (i := 42) (by decide +kernel))) rfl
theorem kc_J6_267 : Cond.constant RJ6 267 (252645135) ∈ lwg := mem_lwg (mem_t5 (List.mem_of_getElem? (i := 43) (by decide +kernel))) rfl
theorem kc_J2_227 : Cond.constant RJ2 227 (65536) ∈ lwg := mem_lwg (mem_t3 (List.mem_of_getElem? (i := 177) (by decide +kernel))) rfl
theorem kn_X11_9 : am_nw1 RX11 9 9 18 := ⟨_, _, _, kw_X9, mem_lwg (mem_t1 (List.mem_of_getElem? (i := 31) (by decide +kernel))) rfl, mem_lwg (mem_t1 (List.mem_of_getElem? (i := 32) (by decide +kernel))) rfl, mem_lwg (mem_t1 (List.mem_of_getElem? (i := 2) (by decide +kernel))) rfl⟩
theorem kn_X11_16 : am_nw1 RX11 16 8 2 := ⟨_, _, _, kw_X8, mem_lwg (mem_t1 (List.mem_of_getElem? (i := 223) (by decide +kernel))) rfl, mem_lwg (mem_t1 (List.mem_of_getElem? (i := 224) (by decide +kernel))) rfl, mem_lwg (mem_t1 (List.mem_of_getElem? (i := 6) (by decide +kernel))) rfl⟩
theorem kn_X11_25 : am_nw1 RX11 25 2 8 := ⟨_, _, _, kw_X2, mem_lwg (mem_t1 (List.mem_of_getElem? (i := 236) (by decide +kernel))) rfl, mem_lwg (mem_t1 (List.mem_of_getElem? (i := 237) (by decide +kernel))) rfl, mem_lwg (mem_t1 (List.mem_of_getElem? (i := 7) (by decide +kernel))) rfl⟩
theorem kn_X11_34 : am_nw1 RX11 34 0 8 := ⟨_, _, _, kw_X0, mem_lwg (mem_t2 (List.mem_of_getElem? (i := 30) (by decide +kernel))) rfl, mem_lwg (mem_t2 (List.mem_of_getElem? (i := 31) (by decide +kernel))) rfl, mem_lwg (mem_t1 (List.mem_of_getElem? (i := 8) (by decide +kernel))) rfl⟩
theorem kn_X11_41 : am_nw1 RX11 41 10 5 := ⟨_, _, _, kw_X10, mem_lwg (mem_t2 (List.mem_of_getElem? (i := 62) (by decide +kernel))) rfl, mem_lwg (mem_t2 (List.mem_of_getElem? (i := 63) (by decide +kernel))) rfl, mem_lwg (mem_t1 (List.mem_of_getElem? (i := 9) (by decide +kernel))) rfl⟩
theorem kn_X11_48 : am_nw1 RX11 48 4 6 := ⟨_, _, _, kw_X4, mem_lwg (mem_t2 (List.mem_of_getElem? (i := 84) (by decide +kernel))) rfl, mem_lwg (mem_t2 (List.mem_of_getElem? (i := 85) (by decide +kernel))) rfl, mem_lwg (mem_t1 (List.mem_of_getElem? (i := 10) (by decide +kernel))) rfl⟩
theorem kn_X11_55 : am_nw1 RX11 55 3 5 := ⟨_, _, _, kw_X3, mem_lwg (mem_t2 (List.mem_of_getElem? (i := 111) (by decide +kernel))) rfl, mem_lwg (mem_t2 (List.mem_of_getElem? (i := 112) (by decide +kernel))) rfl, mem_lwg (mem_t1 (List.mem_of_getElem? (i := 11) (by decide +kernel))) rfl⟩
theorem kn_X11_62 : am_nw1 RX11 62 7 8 := ⟨_, _, _, kw_X7, mem_lwg (mem_t2 (List.mem_of_getElem? (i := 134) (by decide +kernel))) rfl, mem_lwg (mem_t2 (List.mem_of_getElem? (i := 135) (by decide +kernel))) rfl, mem_lwg (mem_t1 (List.mem_of_getElem? (i := 12) (by decide +kernel))) rfl⟩
theorem kn_X7_9 : am_nw1 RX7 9 6 5 := ⟨_, _, _, kw_X6, mem_lwg (mem_t2 (List.mem_of_getElem? (i := 140) (by decide +kernel))) rfl, mem_lwg (mem_t1 (List.mem_of_getElem? (i := 38) (by decide +kernel))) rfl, mem_lwg (mem_t1 (List.mem_of_getElem? (i := 3) (by decide +kernel))) rfl⟩
theorem kn_X9_58 : am_nw1 RX9 58 6 5 := ⟨_, _, _, kw_X6, mem_lwg (mem_t1 (List.mem_of_getElem? (i := 37) (by decide +kernel))) rfl, mem_lwg (mem_t1 (List.mem_of_getElem? (i := 38) (by decide +kernel))) rfl, mem_lwg (mem_t1 (List.mem_of_getElem? (i := 3) (by decide +kernel))) rfl⟩
theorem kn_X9_65 : am_nw1 RX9 65 1 3 := ⟨_, _, _, kw_X1, mem_lwg (mem_t1 (List.mem_of_getElem? (i := 65) (by decide +kernel))) rfl, mem_lwg (mem_t1 (List.mem_of_getElem? (i := 66) (by decide +kernel))) rfl, mem_lwg (mem_t1 (List.mem_of_getElem? (i := 4) (by decide +kernel))) rfl⟩
theorem kn_X9_72 : am_nw1 RX9 72 5 8 := ⟨_, _, _, kw_X5, mem_lwg (mem_t1 (List.mem_of_getElem? (i := 82) (by decide +kernel))) rfl, mem_lwg (mem_t1 (List.mem_of_getElem? (i := 83) (by decide +kernel))) rfl, mem_lwg (mem_t1 (List.mem_of_getElem? (i := 5) (by decide +kernel))) rfl⟩
theorem kn_L_7 : am_nw1 RL 7 11 13 := ⟨_, _, _, kw_X11, mem_lwg (mem_t1 (List.mem_of_getElem? (i := 23) (by decide +kernel))) rfl, mem_lwg (mem_t1 (List.mem_of_getElem? (i := 24) (by decide +kernel))) rfl, mem_lwg (mem_t1 (List.mem_of_getElem? (i := 1) (by decide +kernel))) rfl⟩
theorem kn_L_10 : am_nw1 RL 10 12 68 := ⟨_, _, _, kw_X12, mem_lwg (mem_t5 (List.mem_of_getElem? (i := 185) (by decide +kernel))) rfl, mem_lwg (mem_t5 (List.mem_of_getElem? (i := 186) (by decide +kernel))) rfl, mem_lwg (mem_t1 (List.mem_of_getElem? (i := 13) (by decide +kernel))) rfl⟩
theorem kz_arr : Cond.arrayClass .int ∈ lwg := mem_lwg (mem_t1 (List.mem_of_getElem? (i := 64) (by decide +kernel))) rfl
theorem kz_cn : Cond.native arraycopyName ∈ lwg := mem_lwg (mem_t4 (List.mem_of_getElem? (i := 36) (by decide +kernel))) rfl
theorem kz_cs : Cond.static arraycopyName ∈ lwg := mem_lwg (mem_t4 (List.mem_of_getElem? (i := 35) (by decide +kernel))) rfl
theorem kz_ci : Cond.initialized "java/lang/System" ∈ lwg := mem_lwg (mem_t1 (List.mem_of_getElem? (i := 21) (by decide +kernel))) rfl
theorem kz_maxs : Cond.static Lib.Math.max.name ∈ lwg := mem_lwg (mem_t3 (List.mem_of_getElem? (i := 166) (by decide +kernel))) rfl
theorem kz_maxc : Cond.code Lib.Math.max.name Lib.Math.max.code 2 (some .int) ∈ lwg := mem_lwg (mem_t3 (List.mem_of_getElem? (i := 167) (by decide +kernel))) rfl
theorem kz_mins : Cond.static Lib.Math.min.name ∈ lwg := mem_lwg (mem_t3 (List.mem_of_getElem? (i := 79) (by decide +kernel))) rfl
theorem kz_minc : Cond.code Lib.Math.min.name Lib.Math.min.code 2 (some .int) ∈ lwg := mem_lwg (mem_t3 (List.mem_of_getElem? (i := 80) (by decide +kernel))) rfl
theorem kz_mi : Cond.initialized "java/lang/Math" ∈ lwg := mem_lwg (mem_t1 (List.mem_of_getElem? (i := 15) (by decide +kernel))) rfl
theorem kz_oi : Cond.instanceMethod Lib.objectInit ∈ lwg := mem_lwg (mem_t1 (List.mem_of_getElem? (i := 29) (by decide +kernel))) rfl
theorem kz_oc : Cond.code Lib.objectInit ⟨#[0xb1]⟩ 1 none ∈ lwg := mem_lwg (mem_t1 (List.mem_of_getElem? (i := 30) (by decide +kernel))) rfl
