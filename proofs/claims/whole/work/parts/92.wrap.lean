/-! The law's helpers: their contracts. -/
abbrev rmL_heap : Room := { frames := 10, cells := 1, slots := 6, locals := 170 }
set_option maxHeartbeats 4000000 in
set_option maxRecDepth 100000 in
theorem kL_heap (l : Launch) (v1 : Int32) (v2 : Int32) (σ : Mem) : KW l yL_heap wsL_heap rmL_heap (fun ad => [.ref (ad 0), .int v1, .int v2, .ref (ad 50)]) σ (wrp (tt 1 2) (fX2_heap v1 v2 σ)) := by
  refine kw_of (by decide +kernel) rfl (fun _ => Nat.le_of_ble_eq_true rfl) (fun r hr C X hcl hT hq => ?_)
  refine g_sub [0, 1, 2, 3] (L' := [(0, .ref (adr C 0)), (1, .int v1), (2, .int v2), (3, .ref (adr C 50))]) rfl ?_
  refine g_aload_n X dL_heap_0 3 rfl rfl ?_
  refine g_iconst (v := 0) X dL_heap_1 (by decide) ?_
  refine g_aload_n X dL_heap_2 0 rfl rfl ?_
  refine g_iload_n X dL_heap_3 1 rfl rfl ?_
  refine g_iload_n X dL_heap_4 2 rfl rfl ?_
  refine c_WXI (q := 0) (vs := [.int v1, .int v2]) (rest := [.int 0, .ref (adr C 50)]) X (kX2_heap (cL C) v1 v2 σ) (fun s a hts => cwV 2 hts gL_heap_X2_heap rfl rfl rfl (by decide +kernel) ⟨Nat.le_of_ble_eq_true rfl, Nat.le_of_ble_eq_true rfl⟩) obj_x (rfl : vwCl[2]? = some (RX2, TX2, 15)) rfl rfl rfl rfl (Nat.le_of_ble_eq_true rfl) dL_heap_5 ⟨Nat.le_of_ble_eq_true rfl, Nat.le_of_ble_eq_true rfl⟩ hr (fun v σ' e => ?_) (fun e k σ' hk e2 => ?_)
  · refine g_outW X dL_heap_8 dL_heap_9 ?_
    refine g_goto (tgt := 21) X dL_heap_10 (by decide) ?_
    refine g_iconst (v := 0) X dL_heap_21 (by decide) ?_
    exact e_iretW X hq ⟨Nat.zero_le _, Nat.zero_le _⟩ e dL_heap_22
  · rcases tt_some hk with ⟨rfl, rfl⟩ | ⟨⟨rfl, hb⟩, rfl⟩
    · refine g_catch1 X hT (E := iIA) (Or.inr (Or.inl rfl)) ⟨Nat.zero_le _, by decide⟩ (by decide) (by decide +kernel) (fun q => ?_)
      refine g_astore (L' := (4, .ref q) :: [(0, .ref (adr C 0)), (1, .int v1), (2, .int v2), (3, .ref (adr C 50))]) X dL_heap_13 (by decide) rfl ?_
      refine g_iconst (v := 1) X dL_heap_15 (by decide) ?_
      exact e_iretW X hq ⟨Nat.le_refl _, Nat.le_refl _⟩ e2 dL_heap_16
    · refine g_catch2 X hT (E := iIS) (E' := iIA) (Or.inr (Or.inr rfl)) (by decide) ⟨Nat.zero_le _, by decide⟩ (by decide) (by decide) (by decide +kernel) (by decide +kernel) (fun q => ?_)
      refine g_astore (L' := (4, .ref q) :: [(0, .ref (adr C 0)), (1, .int v1), (2, .int v2), (3, .ref (adr C 50))]) X dL_heap_17 (by decide) rfl ?_
      refine g_iconst (v := 2) X dL_heap_19 (by decide) ?_
      exact e_iretW X hq ⟨Nat.le_refl _, Nat.le_refl _⟩ e2 dL_heap_20
abbrev rmL_hole : Room := { frames := 10, cells := 1, slots := 6, locals := 170 }
set_option maxHeartbeats 4000000 in
set_option maxRecDepth 100000 in
theorem kL_hole (l : Launch) (v1 : Int32) (v2 : Int32) (σ : Mem) : KW l yL_hole wsL_hole rmL_hole (fun ad => [.ref (ad 0), .int v1, .int v2, .ref (ad 50)]) σ (wrp (tt 1 2) (fX2_hole v1 v2 σ)) := by
  refine kw_of (by decide +kernel) rfl (fun _ => Nat.le_of_ble_eq_true rfl) (fun r hr C X hcl hT hq => ?_)
  refine g_sub [0, 1, 2, 3] (L' := [(0, .ref (adr C 0)), (1, .int v1), (2, .int v2), (3, .ref (adr C 50))]) rfl ?_
  refine g_aload_n X dL_hole_0 3 rfl rfl ?_
  refine g_iconst (v := 0) X dL_hole_1 (by decide) ?_
  refine g_aload_n X dL_hole_2 0 rfl rfl ?_
  refine g_iload_n X dL_hole_3 1 rfl rfl ?_
  refine g_iload_n X dL_hole_4 2 rfl rfl ?_
  refine c_WXI (q := 0) (vs := [.int v1, .int v2]) (rest := [.int 0, .ref (adr C 50)]) X (kX2_hole (cL C) v1 v2 σ) (fun s a hts => cwV 2 hts gL_hole_X2_hole rfl rfl rfl (by decide +kernel) ⟨Nat.le_of_ble_eq_true rfl, Nat.le_of_ble_eq_true rfl⟩) obj_x (rfl : vwCl[2]? = some (RX2, TX2, 15)) rfl rfl rfl rfl (Nat.le_of_ble_eq_true rfl) dL_hole_5 ⟨Nat.le_of_ble_eq_true rfl, Nat.le_of_ble_eq_true rfl⟩ hr (fun v σ' e => ?_) (fun e k σ' hk e2 => ?_)
  · refine g_outW X dL_hole_8 dL_hole_9 ?_
    refine g_goto (tgt := 21) X dL_hole_10 (by decide) ?_
    refine g_iconst (v := 0) X dL_hole_21 (by decide) ?_
    exact e_iretW X hq ⟨Nat.zero_le _, Nat.zero_le _⟩ e dL_hole_22
  · rcases tt_some hk with ⟨rfl, rfl⟩ | ⟨⟨rfl, hb⟩, rfl⟩
    · refine g_catch1 X hT (E := iIA) (Or.inr (Or.inl rfl)) ⟨Nat.zero_le _, by decide⟩ (by decide) (by decide +kernel) (fun q => ?_)
      refine g_astore (L' := (4, .ref q) :: [(0, .ref (adr C 0)), (1, .int v1), (2, .int v2), (3, .ref (adr C 50))]) X dL_hole_13 (by decide) rfl ?_
      refine g_iconst (v := 1) X dL_hole_15 (by decide) ?_
      exact e_iretW X hq ⟨Nat.le_refl _, Nat.le_refl _⟩ e2 dL_hole_16
    · refine g_catch2 X hT (E := iIS) (E' := iIA) (Or.inr (Or.inr rfl)) (by decide) ⟨Nat.zero_le _, by decide⟩ (by decide) (by decide) (by decide +kernel) (by decide +kernel) (fun q => ?_)
      refine g_astore (L' := (4, .ref q) :: [(0, .ref (adr C 0)), (1, .int v1), (2, .int v2), (3, .ref (adr C 50))]) X dL_hole_17 (by decide) rfl ?_
      refine g_iconst (v := 2) X dL_hole_19 (by decide) ?_
      exact e_iretW X hq ⟨Nat.le_refl _, Nat.le_refl _⟩ e2 dL_hole_20
abbrev rmL_alter : Room := { frames := 9, cells := 1, slots := 6, locals := 151 }
set_option maxHeartbeats 4000000 in
set_option maxRecDepth 100000 in
theorem kL_alter (l : Launch) (v1 : Int32) (v2 : Int32) (v3 : Int32) (v4 : Int32) (σ : Mem) : KW l yL_alter wsL_alter rmL_alter (fun ad => [.ref (ad 0), .int v1, .int v2, .int v3, .int v4, .ref (ad 50)]) σ (wrp (tt 0 1) (fX2_alter v1 v2 v3 v4 σ)) := by
  refine kw_of (by decide +kernel) rfl (fun _ => Nat.le_of_ble_eq_true rfl) (fun r hr C X hcl hT hq => ?_)
  refine g_sub [0, 1, 2, 3, 4, 5] (L' := [(0, .ref (adr C 0)), (1, .int v1), (2, .int v2), (3, .int v3), (4, .int v4), (5, .ref (adr C 50))]) rfl ?_
  refine g_aload X dL_alter_0 5 rfl ?_
  refine g_iconst (v := 0) X dL_alter_2 (by decide) ?_
  refine g_aload_n X dL_alter_3 0 rfl rfl ?_
  refine g_iload_n X dL_alter_4 1 rfl rfl ?_
  refine g_iload_n X dL_alter_5 2 rfl rfl ?_
  refine g_iload_n X dL_alter_6 3 rfl rfl ?_
  refine g_iload X dL_alter_7 4 rfl ?_
  refine c_WXI (q := 0) (vs := [.int v1, .int v2, .int v3, .int v4]) (rest := [.int 0, .ref (adr C 50)]) X (kX2_alter (cL C) v1 v2 v3 v4 σ) (fun s a hts => cwV 4 hts gL_alter_X2_alter rfl rfl rfl (by decide +kernel) ⟨Nat.le_of_ble_eq_true rfl, Nat.le_of_ble_eq_true rfl⟩) obj_x (rfl : vwCl[2]? = some (RX2, TX2, 15)) rfl rfl rfl rfl (Nat.le_of_ble_eq_true rfl) dL_alter_9 ⟨Nat.le_of_ble_eq_true rfl, Nat.le_of_ble_eq_true rfl⟩ hr (fun v σ' e => ?_) (fun e k σ' hk e2 => ?_)
  · refine g_outW X dL_alter_12 dL_alter_13 ?_
    refine g_goto (tgt := 25) X dL_alter_14 (by decide) ?_
    refine g_iconst (v := 0) X dL_alter_25 (by decide) ?_
    exact e_iretW X hq ⟨Nat.zero_le _, Nat.zero_le _⟩ e dL_alter_26
  · rcases tt_some hk with ⟨rfl, rfl⟩ | ⟨⟨rfl, hb⟩, rfl⟩
    · refine g_catch1 X hT (E := iIO) (Or.inl rfl) ⟨Nat.zero_le _, by decide⟩ (by decide) (by decide +kernel) (fun q => ?_)
      refine g_astore (L' := (6, .ref q) :: [(0, .ref (adr C 0)), (1, .int v1), (2, .int v2), (3, .int v3), (4, .int v4), (5, .ref (adr C 50))]) X dL_alter_17 (by decide) rfl ?_
      refine g_iconst (v := 1) X dL_alter_19 (by decide) ?_
      exact e_iretW X hq ⟨Nat.le_refl _, Nat.le_refl _⟩ e2 dL_alter_20
    · refine g_catch2 X hT (E := iIA) (E' := iIO) (Or.inr (Or.inl rfl)) (by decide) ⟨Nat.zero_le _, by decide⟩ (by decide) (by decide) (by decide +kernel) (by decide +kernel) (fun q => ?_)
      refine g_astore (L' := (6, .ref q) :: [(0, .ref (adr C 0)), (1, .int v1), (2, .int v2), (3, .int v3), (4, .int v4), (5, .ref (adr C 50))]) X dL_alter_21 (by decide) rfl ?_
      refine g_iconst (v := 2) X dL_alter_23 (by decide) ?_
      exact e_iretW X hq ⟨Nat.le_refl _, Nat.le_refl _⟩ e2 dL_alter_24
abbrev rmL_measure : Room := { frames := 8, cells := 1, slots := 6, locals := 127 }
set_option maxHeartbeats 4000000 in
set_option maxRecDepth 100000 in
theorem kL_measure (l : Launch) (v1 : Int32) (v2 : Int32) (σ : Mem) : KW l yL_measure wsL_measure rmL_measure (fun ad => [.ref (ad 0), .int v1, .int v2, .ref (ad 50)]) σ (wrp (tt 1 9) (fX2_measure v1 v2 σ)) := by
  refine kw_of (by decide +kernel) rfl (fun _ => Nat.le_of_ble_eq_true rfl) (fun r hr C X hcl hT hq => ?_)
  refine g_sub [0, 1, 2, 3] (L' := [(0, .ref (adr C 0)), (1, .int v1), (2, .int v2), (3, .ref (adr C 50))]) rfl ?_
  refine g_aload_n X dL_measure_0 3 rfl rfl ?_
  refine g_iconst (v := 0) X dL_measure_1 (by decide) ?_
  refine g_aload_n X dL_measure_2 0 rfl rfl ?_
  refine g_iload_n X dL_measure_3 1 rfl rfl ?_
  refine g_iload_n X dL_measure_4 2 rfl rfl ?_
  refine c_WXI (q := 0) (vs := [.int v1, .int v2]) (rest := [.int 0, .ref (adr C 50)]) X (kX2_measure (cL C) v1 v2 σ) (fun s a hts => cwV 2 hts gL_measure_X2_measure rfl rfl rfl (by decide +kernel) ⟨Nat.le_of_ble_eq_true rfl, Nat.le_of_ble_eq_true rfl⟩) obj_x (rfl : vwCl[2]? = some (RX2, TX2, 15)) rfl rfl rfl rfl (Nat.le_of_ble_eq_true rfl) dL_measure_5 ⟨Nat.le_of_ble_eq_true rfl, Nat.le_of_ble_eq_true rfl⟩ hr (fun v σ' e => ?_) (fun e k σ' hk e2 => ?_)
  · refine g_outW X dL_measure_8 dL_measure_9 ?_
    refine g_goto (tgt := 17) X dL_measure_10 (by decide) ?_
    refine g_iconst (v := 0) X dL_measure_17 (by decide) ?_
    exact e_iretW X hq ⟨Nat.zero_le _, Nat.zero_le _⟩ e dL_measure_18
  · rcases tt_some hk with ⟨rfl, rfl⟩ | ⟨⟨rfl, hb⟩, rfl⟩
    · refine g_catch1 X hT (E := iIA) (Or.inr (Or.inl rfl)) ⟨Nat.zero_le _, by decide⟩ (by decide) (by decide +kernel) (fun q => ?_)
      refine g_astore (L' := (4, .ref q) :: [(0, .ref (adr C 0)), (1, .int v1), (2, .int v2), (3, .ref (adr C 50))]) X dL_measure_13 (by decide) rfl ?_
      refine g_iconst (v := 1) X dL_measure_15 (by decide) ?_
      exact e_iretW X hq ⟨Nat.le_refl _, Nat.le_refl _⟩ e2 dL_measure_16
    · exact absurd hb (by decide)
abbrev rmL_own : Room := { frames := 9, cells := 1, slots := 6, locals := 149 }
set_option maxHeartbeats 4000000 in
set_option maxRecDepth 100000 in
theorem kL_own (l : Launch) (v1 : Int32) (v2 : Int32) (v3 : Int32) (σ : Mem) : KW l yL_own wsL_own rmL_own (fun ad => [.ref (ad 0), .int v1, .int v2, .int v3, .ref (ad 50)]) σ (wrp (tt 0 1) (fX2_own v1 v2 v3 σ)) := by
  refine kw_of (by decide +kernel) rfl (fun _ => Nat.le_of_ble_eq_true rfl) (fun r hr C X hcl hT hq => ?_)
  refine g_sub [0, 1, 2, 3, 4] (L' := [(0, .ref (adr C 0)), (1, .int v1), (2, .int v2), (3, .int v3), (4, .ref (adr C 50))]) rfl ?_
  refine g_aload X dL_own_0 4 rfl ?_
  refine g_iconst (v := 0) X dL_own_2 (by decide) ?_
  refine g_aload_n X dL_own_3 0 rfl rfl ?_
  refine g_iload_n X dL_own_4 1 rfl rfl ?_
  refine g_iload_n X dL_own_5 2 rfl rfl ?_
  refine g_iload_n X dL_own_6 3 rfl rfl ?_
  refine c_WXI (q := 0) (vs := [.int v1, .int v2, .int v3]) (rest := [.int 0, .ref (adr C 50)]) X (kX2_own (cL C) v1 v2 v3 σ) (fun s a hts => cwV 3 hts gL_own_X2_own rfl rfl rfl (by decide +kernel) ⟨Nat.le_of_ble_eq_true rfl, Nat.le_of_ble_eq_true rfl⟩) obj_x (rfl : vwCl[2]? = some (RX2, TX2, 15)) rfl rfl rfl rfl (Nat.le_of_ble_eq_true rfl) dL_own_7 ⟨Nat.le_of_ble_eq_true rfl, Nat.le_of_ble_eq_true rfl⟩ hr (fun v σ' e => ?_) (fun e k σ' hk e2 => ?_)
  · refine g_outW X dL_own_10 dL_own_11 ?_
    refine g_goto (tgt := 23) X dL_own_12 (by decide) ?_
    refine g_iconst (v := 0) X dL_own_23 (by decide) ?_
    exact e_iretW X hq ⟨Nat.zero_le _, Nat.zero_le _⟩ e dL_own_24
  · rcases tt_some hk with ⟨rfl, rfl⟩ | ⟨⟨rfl, hb⟩, rfl⟩
    · refine g_catch1 X hT (E := iIO) (Or.inl rfl) ⟨Nat.zero_le _, by decide⟩ (by decide) (by decide +kernel) (fun q => ?_)
      refine g_astore (L' := (5, .ref q) :: [(0, .ref (adr C 0)), (1, .int v1), (2, .int v2), (3, .int v3), (4, .ref (adr C 50))]) X dL_own_15 (by decide) rfl ?_
      refine g_iconst (v := 1) X dL_own_17 (by decide) ?_
      exact e_iretW X hq ⟨Nat.le_refl _, Nat.le_refl _⟩ e2 dL_own_18
    · refine g_catch2 X hT (E := iIA) (E' := iIO) (Or.inr (Or.inl rfl)) (by decide) ⟨Nat.zero_le _, by decide⟩ (by decide) (by decide) (by decide +kernel) (by decide +kernel) (fun q => ?_)
      refine g_astore (L' := (5, .ref q) :: [(0, .ref (adr C 0)), (1, .int v1), (2, .int v2), (3, .int v3), (4, .ref (adr C 50))]) X dL_own_19 (by decide) rfl ?_
      refine g_iconst (v := 2) X dL_own_21 (by decide) ?_
      exact e_iretW X hq ⟨Nat.le_refl _, Nat.le_refl _⟩ e2 dL_own_22
abbrev rmL_cap : Room := { frames := 9, cells := 1, slots := 6, locals := 149 }
set_option maxHeartbeats 4000000 in
set_option maxRecDepth 100000 in
theorem kL_cap (l : Launch) (v1 : Int32) (v2 : Int32) (v3 : Int32) (σ : Mem) : KW l yL_cap wsL_cap rmL_cap (fun ad => [.ref (ad 0), .int v1, .int v2, .int v3, .ref (ad 50)]) σ (wrp (tt 0 1) (fX2_cap v1 v2 v3 σ)) := by
  refine kw_of (by decide +kernel) rfl (fun _ => Nat.le_of_ble_eq_true rfl) (fun r hr C X hcl hT hq => ?_)
  refine g_sub [0, 1, 2, 3, 4] (L' := [(0, .ref (adr C 0)), (1, .int v1), (2, .int v2), (3, .int v3), (4, .ref (adr C 50))]) rfl ?_
  refine g_aload X dL_cap_0 4 rfl ?_
  refine g_iconst (v := 0) X dL_cap_2 (by decide) ?_
  refine g_aload_n X dL_cap_3 0 rfl rfl ?_
  refine g_iload_n X dL_cap_4 1 rfl rfl ?_
  refine g_iload_n X dL_cap_5 2 rfl rfl ?_
  refine g_iload_n X dL_cap_6 3 rfl rfl ?_
  refine c_WXI (q := 0) (vs := [.int v1, .int v2, .int v3]) (rest := [.int 0, .ref (adr C 50)]) X (kX2_cap (cL C) v1 v2 v3 σ) (fun s a hts => cwV 3 hts gL_cap_X2_cap rfl rfl rfl (by decide +kernel) ⟨Nat.le_of_ble_eq_true rfl, Nat.le_of_ble_eq_true rfl⟩) obj_x (rfl : vwCl[2]? = some (RX2, TX2, 15)) rfl rfl rfl rfl (Nat.le_of_ble_eq_true rfl) dL_cap_7 ⟨Nat.le_of_ble_eq_true rfl, Nat.le_of_ble_eq_true rfl⟩ hr (fun v σ' e => ?_) (fun e k σ' hk e2 => ?_)
  · refine g_outW X dL_cap_10 dL_cap_11 ?_
    refine g_goto (tgt := 23) X dL_cap_12 (by decide) ?_
    refine g_iconst (v := 0) X dL_cap_23 (by decide) ?_
    exact e_iretW X hq ⟨Nat.zero_le _, Nat.zero_le _⟩ e dL_cap_24
  · rcases tt_some hk with ⟨rfl, rfl⟩ | ⟨⟨rfl, hb⟩, rfl⟩
    · refine g_catch1 X hT (E := iIO) (Or.inl rfl) ⟨Nat.zero_le _, by decide⟩ (by decide) (by decide +kernel) (fun q => ?_)
      refine g_astore (L' := (5, .ref q) :: [(0, .ref (adr C 0)), (1, .int v1), (2, .int v2), (3, .int v3), (4, .ref (adr C 50))]) X dL_cap_15 (by decide) rfl ?_
      refine g_iconst (v := 1) X dL_cap_17 (by decide) ?_
      exact e_iretW X hq ⟨Nat.le_refl _, Nat.le_refl _⟩ e2 dL_cap_18
    · refine g_catch2 X hT (E := iIA) (E' := iIO) (Or.inr (Or.inl rfl)) (by decide) ⟨Nat.zero_le _, by decide⟩ (by decide) (by decide) (by decide +kernel) (by decide +kernel) (fun q => ?_)
      refine g_astore (L' := (5, .ref q) :: [(0, .ref (adr C 0)), (1, .int v1), (2, .int v2), (3, .int v3), (4, .ref (adr C 50))]) X dL_cap_19 (by decide) rfl ?_
      refine g_iconst (v := 2) X dL_cap_21 (by decide) ?_
      exact e_iretW X hq ⟨Nat.le_refl _, Nat.le_refl _⟩ e2 dL_cap_22
abbrev rmL_terms : Room := { frames := 8, cells := 1, slots := 6, locals := 127 }
set_option maxHeartbeats 4000000 in
set_option maxRecDepth 100000 in
theorem kL_terms (l : Launch) (v1 : Int32) (v2 : Int32) (σ : Mem) : KW l yL_terms wsL_terms rmL_terms (fun ad => [.ref (ad 0), .int v1, .int v2, .ref (ad 50)]) σ (wrp (tt 1 9) (fX2_terms v1 v2 σ)) := by
  refine kw_of (by decide +kernel) rfl (fun _ => Nat.le_of_ble_eq_true rfl) (fun r hr C X hcl hT hq => ?_)
  refine g_sub [0, 1, 2, 3] (L' := [(0, .ref (adr C 0)), (1, .int v1), (2, .int v2), (3, .ref (adr C 50))]) rfl ?_
  refine g_aload_n X dL_terms_0 3 rfl rfl ?_
  refine g_iconst (v := 0) X dL_terms_1 (by decide) ?_
  refine g_aload_n X dL_terms_2 0 rfl rfl ?_
  refine g_iload_n X dL_terms_3 1 rfl rfl ?_
  refine g_iload_n X dL_terms_4 2 rfl rfl ?_
  refine c_WXI (q := 0) (vs := [.int v1, .int v2]) (rest := [.int 0, .ref (adr C 50)]) X (kX2_terms (cL C) v1 v2 σ) (fun s a hts => cwV 2 hts gL_terms_X2_terms rfl rfl rfl (by decide +kernel) ⟨Nat.le_of_ble_eq_true rfl, Nat.le_of_ble_eq_true rfl⟩) obj_x (rfl : vwCl[2]? = some (RX2, TX2, 15)) rfl rfl rfl rfl (Nat.le_of_ble_eq_true rfl) dL_terms_5 ⟨Nat.le_of_ble_eq_true rfl, Nat.le_of_ble_eq_true rfl⟩ hr (fun v σ' e => ?_) (fun e k σ' hk e2 => ?_)
  · refine g_outW X dL_terms_8 dL_terms_9 ?_
    refine g_goto (tgt := 17) X dL_terms_10 (by decide) ?_
    refine g_iconst (v := 0) X dL_terms_17 (by decide) ?_
    exact e_iretW X hq ⟨Nat.zero_le _, Nat.zero_le _⟩ e dL_terms_18
  · rcases tt_some hk with ⟨rfl, rfl⟩ | ⟨⟨rfl, hb⟩, rfl⟩
    · refine g_catch1 X hT (E := iIA) (Or.inr (Or.inl rfl)) ⟨Nat.zero_le _, by decide⟩ (by decide) (by decide +kernel) (fun q => ?_)
      refine g_astore (L' := (4, .ref q) :: [(0, .ref (adr C 0)), (1, .int v1), (2, .int v2), (3, .ref (adr C 50))]) X dL_terms_13 (by decide) rfl ?_
      refine g_iconst (v := 1) X dL_terms_15 (by decide) ?_
      exact e_iretW X hq ⟨Nat.le_refl _, Nat.le_refl _⟩ e2 dL_terms_16
    · exact absurd hb (by decide)
abbrev rmL_unit : Room := { frames := 9, cells := 1, slots := 6, locals := 148 }
set_option maxHeartbeats 4000000 in
set_option maxRecDepth 100000 in
theorem kL_unit (l : Launch) (v1 : Int32) (v2 : Int32) (σ : Mem) : KW l yL_unit wsL_unit rmL_unit (fun ad => [.ref (ad 0), .int v1, .int v2, .ref (ad 50)]) σ (wrp (tt 0 9) (fX2_unit v1 v2 σ)) := by
  refine kw_of (by decide +kernel) rfl (fun _ => Nat.le_of_ble_eq_true rfl) (fun r hr C X hcl hT hq => ?_)
  refine g_sub [0, 1, 2, 3] (L' := [(0, .ref (adr C 0)), (1, .int v1), (2, .int v2), (3, .ref (adr C 50))]) rfl ?_
  refine g_aload_n X dL_unit_0 3 rfl rfl ?_
  refine g_iconst (v := 0) X dL_unit_1 (by decide) ?_
  refine g_aload_n X dL_unit_2 0 rfl rfl ?_
  refine g_iload_n X dL_unit_3 1 rfl rfl ?_
  refine g_iload_n X dL_unit_4 2 rfl rfl ?_
  refine c_WXI (q := 0) (vs := [.int v1, .int v2]) (rest := [.int 0, .ref (adr C 50)]) X (kX2_unit (cL C) v1 v2 σ) (fun s a hts => cwV 2 hts gL_unit_X2_unit rfl rfl rfl (by decide +kernel) ⟨Nat.le_of_ble_eq_true rfl, Nat.le_of_ble_eq_true rfl⟩) obj_x (rfl : vwCl[2]? = some (RX2, TX2, 15)) rfl rfl rfl rfl (Nat.le_of_ble_eq_true rfl) dL_unit_5 ⟨Nat.le_of_ble_eq_true rfl, Nat.le_of_ble_eq_true rfl⟩ hr (fun v σ' e => ?_) (fun e k σ' hk e2 => ?_)
  · refine g_outW X dL_unit_8 dL_unit_9 ?_
    refine g_goto (tgt := 17) X dL_unit_10 (by decide) ?_
    refine g_iconst (v := 0) X dL_unit_17 (by decide) ?_
    exact e_iretW X hq ⟨Nat.zero_le _, Nat.zero_le _⟩ e dL_unit_18
  · rcases tt_some hk with ⟨rfl, rfl⟩ | ⟨⟨rfl, hb⟩, rfl⟩
    · refine g_catch1 X hT (E := iIO) (Or.inl rfl) ⟨Nat.zero_le _, by decide⟩ (by decide) (by decide +kernel) (fun q => ?_)
      refine g_astore (L' := (4, .ref q) :: [(0, .ref (adr C 0)), (1, .int v1), (2, .int v2), (3, .ref (adr C 50))]) X dL_unit_13 (by decide) rfl ?_
      refine g_iconst (v := 1) X dL_unit_15 (by decide) ?_
      exact e_iretW X hq ⟨Nat.le_refl _, Nat.le_refl _⟩ e2 dL_unit_16
    · exact absurd hb (by decide)
abbrev rmL_leastAnew : Room := { frames := 7, cells := 1, slots := 6, locals := 105 }
set_option maxHeartbeats 4000000 in
set_option maxRecDepth 100000 in
theorem kL_leastAnew (l : Launch) (σ : Mem) : KW l yL_leastAnew wsL_leastAnew rmL_leastAnew (fun ad => [.ref (ad 0), .ref (ad 50)]) σ (wrp (tt 2 9) (fX2_leastAnew σ)) := by
  refine kw_of (by decide +kernel) rfl (fun _ => Nat.le_of_ble_eq_true rfl) (fun r hr C X hcl hT hq => ?_)
  refine g_sub [0, 1] (L' := [(0, .ref (adr C 0)), (1, .ref (adr C 50))]) rfl ?_
  refine g_aload_n X dL_leastAnew_0 1 rfl rfl ?_
  refine g_iconst (v := 0) X dL_leastAnew_1 (by decide) ?_
  refine g_aload_n X dL_leastAnew_2 0 rfl rfl ?_
  refine c_WXI (q := 0) (vs := []) (rest := [.int 0, .ref (adr C 50)]) X (kX2_leastAnew (cL C) σ) (fun s a hts => cwV 0 hts gL_leastAnew_X2_leastAnew rfl rfl rfl (by decide +kernel) ⟨Nat.le_of_ble_eq_true rfl, Nat.le_of_ble_eq_true rfl⟩) obj_x (rfl : vwCl[2]? = some (RX2, TX2, 15)) rfl rfl rfl rfl (Nat.le_of_ble_eq_true rfl) dL_leastAnew_3 ⟨Nat.le_of_ble_eq_true rfl, Nat.le_of_ble_eq_true rfl⟩ hr (fun v σ' e => ?_) (fun e k σ' hk e2 => ?_)
  · refine g_outW X dL_leastAnew_6 dL_leastAnew_7 ?_
    refine g_goto (tgt := 14) X dL_leastAnew_8 (by decide) ?_
    refine g_iconst (v := 0) X dL_leastAnew_14 (by decide) ?_
    exact e_iretW X hq ⟨Nat.zero_le _, Nat.zero_le _⟩ e dL_leastAnew_15
  · rcases tt_some hk with ⟨rfl, rfl⟩ | ⟨⟨rfl, hb⟩, rfl⟩
    · refine g_catch1 X hT (E := iIS) (Or.inr (Or.inr rfl)) ⟨Nat.zero_le _, by decide⟩ (by decide) (by decide +kernel) (fun q => ?_)
      refine g_astore_n (L' := (2, .ref q) :: [(0, .ref (adr C 0)), (1, .ref (adr C 50))]) X dL_leastAnew_11 rfl (by decide) rfl ?_
      refine g_iconst (v := 1) X dL_leastAnew_12 (by decide) ?_
      exact e_iretW X hq ⟨Nat.le_refl _, Nat.le_refl _⟩ e2 dL_leastAnew_13
    · exact absurd hb (by decide)
abbrev rmL_carried : Room := { frames := 9, cells := 1, slots := 6, locals := 148 }
set_option maxHeartbeats 4000000 in
set_option maxRecDepth 100000 in
theorem kL_carried (l : Launch) (v1 : Int32) (v2 : Int32) (σ : Mem) : KW l yL_carried wsL_carried rmL_carried (fun ad => [.ref (ad 0), .int v1, .int v2, .ref (ad 50)]) σ (wrp (tt 0 9) (fX2_carried v1 v2 σ)) := by
  refine kw_of (by decide +kernel) rfl (fun _ => Nat.le_of_ble_eq_true rfl) (fun r hr C X hcl hT hq => ?_)
  refine g_sub [0, 1, 2, 3] (L' := [(0, .ref (adr C 0)), (1, .int v1), (2, .int v2), (3, .ref (adr C 50))]) rfl ?_
  refine g_aload_n X dL_carried_0 3 rfl rfl ?_
  refine g_iconst (v := 0) X dL_carried_1 (by decide) ?_
  refine g_aload_n X dL_carried_2 0 rfl rfl ?_
  refine g_iload_n X dL_carried_3 1 rfl rfl ?_
  refine g_iload_n X dL_carried_4 2 rfl rfl ?_
  refine c_WXI (q := 0) (vs := [.int v1, .int v2]) (rest := [.int 0, .ref (adr C 50)]) X (kX2_carried (cL C) v1 v2 σ) (fun s a hts => cwV 2 hts gL_carried_X2_carried rfl rfl rfl (by decide +kernel) ⟨Nat.le_of_ble_eq_true rfl, Nat.le_of_ble_eq_true rfl⟩) obj_x (rfl : vwCl[2]? = some (RX2, TX2, 15)) rfl rfl rfl rfl (Nat.le_of_ble_eq_true rfl) dL_carried_5 ⟨Nat.le_of_ble_eq_true rfl, Nat.le_of_ble_eq_true rfl⟩ hr (fun v σ' e => ?_) (fun e k σ' hk e2 => ?_)
  · refine g_outW X dL_carried_8 dL_carried_9 ?_
    refine g_goto (tgt := 17) X dL_carried_10 (by decide) ?_
    refine g_iconst (v := 0) X dL_carried_17 (by decide) ?_
    exact e_iretW X hq ⟨Nat.zero_le _, Nat.zero_le _⟩ e dL_carried_18
  · rcases tt_some hk with ⟨rfl, rfl⟩ | ⟨⟨rfl, hb⟩, rfl⟩
    · refine g_catch1 X hT (E := iIO) (Or.inl rfl) ⟨Nat.zero_le _, by decide⟩ (by decide) (by decide +kernel) (fun q => ?_)
      refine g_astore (L' := (4, .ref q) :: [(0, .ref (adr C 0)), (1, .int v1), (2, .int v2), (3, .ref (adr C 50))]) X dL_carried_13 (by decide) rfl ?_
      refine g_iconst (v := 1) X dL_carried_15 (by decide) ?_
      exact e_iretW X hq ⟨Nat.le_refl _, Nat.le_refl _⟩ e2 dL_carried_16
    · exact absurd hb (by decide)
abbrev rmL_left : Room := { frames := 8, cells := 1, slots := 6, locals := 143 }
set_option maxHeartbeats 4000000 in
set_option maxRecDepth 100000 in
theorem kL_left (l : Launch) (v1 : Int32) (v2 : Int32) (σ : Mem) : KW l yL_left wsL_left rmL_left (fun ad => [.ref (ad 0), .int v1, .int v2, .ref (ad 50)]) σ (wrp (tt 0 9) (fX2_left v1 v2 σ)) := by
  refine kw_of (by decide +kernel) rfl (fun _ => Nat.le_of_ble_eq_true rfl) (fun r hr C X hcl hT hq => ?_)
  refine g_sub [0, 1, 2, 3] (L' := [(0, .ref (adr C 0)), (1, .int v1), (2, .int v2), (3, .ref (adr C 50))]) rfl ?_
  refine g_aload_n X dL_left_0 3 rfl rfl ?_
  refine g_iconst (v := 0) X dL_left_1 (by decide) ?_
  refine g_aload_n X dL_left_2 0 rfl rfl ?_
  refine g_iload_n X dL_left_3 1 rfl rfl ?_
  refine g_iload_n X dL_left_4 2 rfl rfl ?_
  refine c_WXI (q := 0) (vs := [.int v1, .int v2]) (rest := [.int 0, .ref (adr C 50)]) X (kX2_left (cL C) v1 v2 σ) (fun s a hts => cwV 2 hts gL_left_X2_left rfl rfl rfl (by decide +kernel) ⟨Nat.le_of_ble_eq_true rfl, Nat.le_of_ble_eq_true rfl⟩) obj_x (rfl : vwCl[2]? = some (RX2, TX2, 15)) rfl rfl rfl rfl (Nat.le_of_ble_eq_true rfl) dL_left_5 ⟨Nat.le_of_ble_eq_true rfl, Nat.le_of_ble_eq_true rfl⟩ hr (fun v σ' e => ?_) (fun e k σ' hk e2 => ?_)
  · refine g_outW X dL_left_8 dL_left_9 ?_
    refine g_goto (tgt := 17) X dL_left_10 (by decide) ?_
    refine g_iconst (v := 0) X dL_left_17 (by decide) ?_
    exact e_iretW X hq ⟨Nat.zero_le _, Nat.zero_le _⟩ e dL_left_18
  · rcases tt_some hk with ⟨rfl, rfl⟩ | ⟨⟨rfl, hb⟩, rfl⟩
    · refine g_catch1 X hT (E := iIO) (Or.inl rfl) ⟨Nat.zero_le _, by decide⟩ (by decide) (by decide +kernel) (fun q => ?_)
      refine g_astore (L' := (4, .ref q) :: [(0, .ref (adr C 0)), (1, .int v1), (2, .int v2), (3, .ref (adr C 50))]) X dL_left_13 (by decide) rfl ?_
      refine g_iconst (v := 1) X dL_left_15 (by decide) ?_
      exact e_iretW X hq ⟨Nat.le_refl _, Nat.le_refl _⟩ e2 dL_left_16
    · exact absurd hb (by decide)
abbrev rmL_without : Room := { frames := 9, cells := 1, slots := 6, locals := 148 }
set_option maxHeartbeats 4000000 in
set_option maxRecDepth 100000 in
theorem kL_without (l : Launch) (v1 : Int32) (v2 : Int32) (σ : Mem) : KW l yL_without wsL_without rmL_without (fun ad => [.ref (ad 0), .int v1, .int v2, .ref (ad 50)]) σ (wrp (tt 0 9) (fX2_without v1 v2 σ)) := by
  refine kw_of (by decide +kernel) rfl (fun _ => Nat.le_of_ble_eq_true rfl) (fun r hr C X hcl hT hq => ?_)
  refine g_sub [0, 1, 2, 3] (L' := [(0, .ref (adr C 0)), (1, .int v1), (2, .int v2), (3, .ref (adr C 50))]) rfl ?_
  refine g_aload_n X dL_without_0 3 rfl rfl ?_
  refine g_iconst (v := 0) X dL_without_1 (by decide) ?_
  refine g_aload_n X dL_without_2 0 rfl rfl ?_
  refine g_iload_n X dL_without_3 1 rfl rfl ?_
  refine g_iload_n X dL_without_4 2 rfl rfl ?_
  refine c_WXI (q := 0) (vs := [.int v1, .int v2]) (rest := [.int 0, .ref (adr C 50)]) X (kX2_without (cL C) v1 v2 σ) (fun s a hts => cwV 2 hts gL_without_X2_without rfl rfl rfl (by decide +kernel) ⟨Nat.le_of_ble_eq_true rfl, Nat.le_of_ble_eq_true rfl⟩) obj_x (rfl : vwCl[2]? = some (RX2, TX2, 15)) rfl rfl rfl rfl (Nat.le_of_ble_eq_true rfl) dL_without_5 ⟨Nat.le_of_ble_eq_true rfl, Nat.le_of_ble_eq_true rfl⟩ hr (fun v σ' e => ?_) (fun e k σ' hk e2 => ?_)
  · refine g_outW X dL_without_8 dL_without_9 ?_
    refine g_goto (tgt := 17) X dL_without_10 (by decide) ?_
    refine g_iconst (v := 0) X dL_without_17 (by decide) ?_
    exact e_iretW X hq ⟨Nat.zero_le _, Nat.zero_le _⟩ e dL_without_18
  · rcases tt_some hk with ⟨rfl, rfl⟩ | ⟨⟨rfl, hb⟩, rfl⟩
    · refine g_catch1 X hT (E := iIO) (Or.inl rfl) ⟨Nat.zero_le _, by decide⟩ (by decide) (by decide +kernel) (fun q => ?_)
      refine g_astore (L' := (4, .ref q) :: [(0, .ref (adr C 0)), (1, .int v1), (2, .int v2), (3, .ref (adr C 50))]) X dL_without_13 (by decide) rfl ?_
      refine g_iconst (v := 1) X dL_without_15 (by decide) ?_
      exact e_iretW X hq ⟨Nat.le_refl _, Nat.le_refl _⟩ e2 dL_without_16
    · exact absurd hb (by decide)
abbrev rmL_price : Room := { frames := 8, cells := 1, slots := 6, locals := 164 }
set_option maxHeartbeats 4000000 in
set_option maxRecDepth 100000 in
theorem kL_price (l : Launch) (v1 : Int32) (v2 : Int32) (σ : Mem) : KW l yL_price wsL_price rmL_price (fun ad => [.ref (ad 0), .int v1, .int v2, .ref (ad 50)]) σ (wrp (tt 0 9) (fX2_price v1 v2 σ)) := by
  refine kw_of (by decide +kernel) rfl (fun _ => Nat.le_of_ble_eq_true rfl) (fun r hr C X hcl hT hq => ?_)
  refine g_sub [0, 1, 2, 3] (L' := [(0, .ref (adr C 0)), (1, .int v1), (2, .int v2), (3, .ref (adr C 50))]) rfl ?_
  refine g_aload_n X dL_price_0 3 rfl rfl ?_
  refine g_iconst (v := 0) X dL_price_1 (by decide) ?_
  refine g_aload_n X dL_price_2 0 rfl rfl ?_
  refine g_iload_n X dL_price_3 1 rfl rfl ?_
  refine g_iload_n X dL_price_4 2 rfl rfl ?_
  refine c_WXI (q := 0) (vs := [.int v1, .int v2]) (rest := [.int 0, .ref (adr C 50)]) X (kX2_price (cL C) v1 v2 σ) (fun s a hts => cwV 2 hts gL_price_X2_price rfl rfl rfl (by decide +kernel) ⟨Nat.le_of_ble_eq_true rfl, Nat.le_of_ble_eq_true rfl⟩) obj_x (rfl : vwCl[2]? = some (RX2, TX2, 15)) rfl rfl rfl rfl (Nat.le_of_ble_eq_true rfl) dL_price_5 ⟨Nat.le_of_ble_eq_true rfl, Nat.le_of_ble_eq_true rfl⟩ hr (fun v σ' e => ?_) (fun e k σ' hk e2 => ?_)
  · refine g_outW X dL_price_8 dL_price_9 ?_
    refine g_goto (tgt := 17) X dL_price_10 (by decide) ?_
    refine g_iconst (v := 0) X dL_price_17 (by decide) ?_
    exact e_iretW X hq ⟨Nat.zero_le _, Nat.zero_le _⟩ e dL_price_18
  · rcases tt_some hk with ⟨rfl, rfl⟩ | ⟨⟨rfl, hb⟩, rfl⟩
    · refine g_catch1 X hT (E := iIO) (Or.inl rfl) ⟨Nat.zero_le _, by decide⟩ (by decide) (by decide +kernel) (fun q => ?_)
      refine g_astore (L' := (4, .ref q) :: [(0, .ref (adr C 0)), (1, .int v1), (2, .int v2), (3, .ref (adr C 50))]) X dL_price_13 (by decide) rfl ?_
      refine g_iconst (v := 1) X dL_price_15 (by decide) ?_
      exact e_iretW X hq ⟨Nat.le_refl _, Nat.le_refl _⟩ e2 dL_price_16
    · exact absurd hb (by decide)
abbrev rmL_toll : Room := { frames := 9, cells := 1, slots := 6, locals := 164 }
set_option maxHeartbeats 4000000 in
set_option maxRecDepth 100000 in
theorem kL_toll (l : Launch) (v1 : Int32) (v2 : Int32) (σ : Mem) : KW l yL_toll wsL_toll rmL_toll (fun ad => [.ref (ad 0), .int v1, .int v2, .ref (ad 50)]) σ (wrp (tt 0 9) (fX2_toll v1 v2 σ)) := by
  refine kw_of (by decide +kernel) rfl (fun _ => Nat.le_of_ble_eq_true rfl) (fun r hr C X hcl hT hq => ?_)
  refine g_sub [0, 1, 2, 3] (L' := [(0, .ref (adr C 0)), (1, .int v1), (2, .int v2), (3, .ref (adr C 50))]) rfl ?_
  refine g_aload_n X dL_toll_0 3 rfl rfl ?_
  refine g_iconst (v := 0) X dL_toll_1 (by decide) ?_
  refine g_aload_n X dL_toll_2 0 rfl rfl ?_
  refine g_iload_n X dL_toll_3 1 rfl rfl ?_
  refine g_iload_n X dL_toll_4 2 rfl rfl ?_
  refine c_WXI (q := 0) (vs := [.int v1, .int v2]) (rest := [.int 0, .ref (adr C 50)]) X (kX2_toll (cL C) v1 v2 σ) (fun s a hts => cwV 2 hts gL_toll_X2_toll rfl rfl rfl (by decide +kernel) ⟨Nat.le_of_ble_eq_true rfl, Nat.le_of_ble_eq_true rfl⟩) obj_x (rfl : vwCl[2]? = some (RX2, TX2, 15)) rfl rfl rfl rfl (Nat.le_of_ble_eq_true rfl) dL_toll_5 ⟨Nat.le_of_ble_eq_true rfl, Nat.le_of_ble_eq_true rfl⟩ hr (fun v σ' e => ?_) (fun e k σ' hk e2 => ?_)
  · refine g_outW X dL_toll_8 dL_toll_9 ?_
    refine g_goto (tgt := 17) X dL_toll_10 (by decide) ?_
    refine g_iconst (v := 0) X dL_toll_17 (by decide) ?_
    exact e_iretW X hq ⟨Nat.zero_le _, Nat.zero_le _⟩ e dL_toll_18
  · rcases tt_some hk with ⟨rfl, rfl⟩ | ⟨⟨rfl, hb⟩, rfl⟩
    · refine g_catch1 X hT (E := iIO) (Or.inl rfl) ⟨Nat.zero_le _, by decide⟩ (by decide) (by decide +kernel) (fun q => ?_)
      refine g_astore (L' := (4, .ref q) :: [(0, .ref (adr C 0)), (1, .int v1), (2, .int v2), (3, .ref (adr C 50))]) X dL_toll_13 (by decide) rfl ?_
      refine g_iconst (v := 1) X dL_toll_15 (by decide) ?_
      exact e_iretW X hq ⟨Nat.le_refl _, Nat.le_refl _⟩ e2 dL_toll_16
    · exact absurd hb (by decide)
abbrev rmL_order : Room := { frames := 7, cells := 1, slots := 6, locals := 104 }
set_option maxHeartbeats 4000000 in
set_option maxRecDepth 100000 in
theorem kL_order (l : Launch) (σ : Mem) : KW l yL_order wsL_order rmL_order (fun ad => [.ref (ad 0), .ref (ad 50)]) σ (wrp (tt 2 9) (fX2_order σ)) := by
  refine kw_of (by decide +kernel) rfl (fun _ => Nat.le_of_ble_eq_true rfl) (fun r hr C X hcl hT hq => ?_)
  refine g_sub [0, 1] (L' := [(0, .ref (adr C 0)), (1, .ref (adr C 50))]) rfl ?_
  refine g_aload_n X dL_order_0 1 rfl rfl ?_
  refine g_iconst (v := 0) X dL_order_1 (by decide) ?_
  refine g_aload_n X dL_order_2 0 rfl rfl ?_
  refine c_WXI (q := 0) (vs := []) (rest := [.int 0, .ref (adr C 50)]) X (kX2_order (cL C) σ) (fun s a hts => cwV 0 hts gL_order_X2_order rfl rfl rfl (by decide +kernel) ⟨Nat.le_of_ble_eq_true rfl, Nat.le_of_ble_eq_true rfl⟩) obj_x (rfl : vwCl[2]? = some (RX2, TX2, 15)) rfl rfl rfl rfl (Nat.le_of_ble_eq_true rfl) dL_order_3 ⟨Nat.le_of_ble_eq_true rfl, Nat.le_of_ble_eq_true rfl⟩ hr (fun v σ' e => ?_) (fun e k σ' hk e2 => ?_)
  · refine g_outW X dL_order_6 dL_order_7 ?_
    refine g_goto (tgt := 14) X dL_order_8 (by decide) ?_
    refine g_iconst (v := 0) X dL_order_14 (by decide) ?_
    exact e_iretW X hq ⟨Nat.zero_le _, Nat.zero_le _⟩ e dL_order_15
  · rcases tt_some hk with ⟨rfl, rfl⟩ | ⟨⟨rfl, hb⟩, rfl⟩
    · refine g_catch1 X hT (E := iIS) (Or.inr (Or.inr rfl)) ⟨Nat.zero_le _, by decide⟩ (by decide) (by decide +kernel) (fun q => ?_)
      refine g_astore_n (L' := (2, .ref q) :: [(0, .ref (adr C 0)), (1, .ref (adr C 50))]) X dL_order_11 rfl (by decide) rfl ?_
      refine g_iconst (v := 1) X dL_order_12 (by decide) ?_
      exact e_iretW X hq ⟨Nat.le_refl _, Nat.le_refl _⟩ e2 dL_order_13
    · exact absurd hb (by decide)
abbrev rmL_carry : Room := { frames := 9, cells := 1, slots := 6, locals := 149 }
set_option maxHeartbeats 4000000 in
set_option maxRecDepth 100000 in
theorem kL_carry (l : Launch) (v1 : Int32) (v2 : Int32) (v3 : Int32) (σ : Mem) : KW l yL_carry wsL_carry rmL_carry (fun ad => [.ref (ad 0), .int v1, .int v2, .int v3, .ref (ad 50)]) σ (wrp (tt 0 1) (fX2_carry v1 v2 v3 σ)) := by
  refine kw_of (by decide +kernel) rfl (fun _ => Nat.le_of_ble_eq_true rfl) (fun r hr C X hcl hT hq => ?_)
  refine g_sub [0, 1, 2, 3, 4] (L' := [(0, .ref (adr C 0)), (1, .int v1), (2, .int v2), (3, .int v3), (4, .ref (adr C 50))]) rfl ?_
  refine g_aload X dL_carry_0 4 rfl ?_
  refine g_iconst (v := 0) X dL_carry_2 (by decide) ?_
  refine g_aload_n X dL_carry_3 0 rfl rfl ?_
  refine g_iload_n X dL_carry_4 1 rfl rfl ?_
  refine g_iload_n X dL_carry_5 2 rfl rfl ?_
  refine g_iload_n X dL_carry_6 3 rfl rfl ?_
  refine c_WXI (q := 0) (vs := [.int v1, .int v2, .int v3]) (rest := [.int 0, .ref (adr C 50)]) X (kX2_carry (cL C) v1 v2 v3 σ) (fun s a hts => cwV 3 hts gL_carry_X2_carry rfl rfl rfl (by decide +kernel) ⟨Nat.le_of_ble_eq_true rfl, Nat.le_of_ble_eq_true rfl⟩) obj_x (rfl : vwCl[2]? = some (RX2, TX2, 15)) rfl rfl rfl rfl (Nat.le_of_ble_eq_true rfl) dL_carry_7 ⟨Nat.le_of_ble_eq_true rfl, Nat.le_of_ble_eq_true rfl⟩ hr (fun v σ' e => ?_) (fun e k σ' hk e2 => ?_)
  · refine g_outW X dL_carry_10 dL_carry_11 ?_
    refine g_goto (tgt := 23) X dL_carry_12 (by decide) ?_
    refine g_iconst (v := 0) X dL_carry_23 (by decide) ?_
    exact e_iretW X hq ⟨Nat.zero_le _, Nat.zero_le _⟩ e dL_carry_24
  · rcases tt_some hk with ⟨rfl, rfl⟩ | ⟨⟨rfl, hb⟩, rfl⟩
    · refine g_catch1 X hT (E := iIO) (Or.inl rfl) ⟨Nat.zero_le _, by decide⟩ (by decide) (by decide +kernel) (fun q => ?_)
      refine g_astore (L' := (5, .ref q) :: [(0, .ref (adr C 0)), (1, .int v1), (2, .int v2), (3, .int v3), (4, .ref (adr C 50))]) X dL_carry_15 (by decide) rfl ?_
      refine g_iconst (v := 1) X dL_carry_17 (by decide) ?_
      exact e_iretW X hq ⟨Nat.le_refl _, Nat.le_refl _⟩ e2 dL_carry_18
    · refine g_catch2 X hT (E := iIA) (E' := iIO) (Or.inr (Or.inl rfl)) (by decide) ⟨Nat.zero_le _, by decide⟩ (by decide) (by decide) (by decide +kernel) (by decide +kernel) (fun q => ?_)
      refine g_astore (L' := (5, .ref q) :: [(0, .ref (adr C 0)), (1, .int v1), (2, .int v2), (3, .int v3), (4, .ref (adr C 50))]) X dL_carry_19 (by decide) rfl ?_
      refine g_iconst (v := 2) X dL_carry_21 (by decide) ?_
      exact e_iretW X hq ⟨Nat.le_refl _, Nat.le_refl _⟩ e2 dL_carry_22
abbrev rmL_handCost : Room := { frames := 7, cells := 1, slots := 6, locals := 103 }
set_option maxHeartbeats 4000000 in
set_option maxRecDepth 100000 in
theorem kL_handCost (l : Launch) (σ : Mem) : KW l yL_handCost wsL_handCost rmL_handCost (fun ad => [.ref (ad 0), .ref (ad 50)]) σ (wrp (tt 2 9) (fX2_handCost σ)) := by
  refine kw_of (by decide +kernel) rfl (fun _ => Nat.le_of_ble_eq_true rfl) (fun r hr C X hcl hT hq => ?_)
  refine g_sub [0, 1] (L' := [(0, .ref (adr C 0)), (1, .ref (adr C 50))]) rfl ?_
  refine g_aload_n X dL_handCost_0 1 rfl rfl ?_
  refine g_iconst (v := 0) X dL_handCost_1 (by decide) ?_
  refine g_aload_n X dL_handCost_2 0 rfl rfl ?_
  refine c_WXI (q := 0) (vs := []) (rest := [.int 0, .ref (adr C 50)]) X (kX2_handCost (cL C) σ) (fun s a hts => cwV 0 hts gL_handCost_X2_handCost rfl rfl rfl (by decide +kernel) ⟨Nat.le_of_ble_eq_true rfl, Nat.le_of_ble_eq_true rfl⟩) obj_x (rfl : vwCl[2]? = some (RX2, TX2, 15)) rfl rfl rfl rfl (Nat.le_of_ble_eq_true rfl) dL_handCost_3 ⟨Nat.le_of_ble_eq_true rfl, Nat.le_of_ble_eq_true rfl⟩ hr (fun v σ' e => ?_) (fun e k σ' hk e2 => ?_)
  · refine g_outW X dL_handCost_6 dL_handCost_7 ?_
    refine g_goto (tgt := 14) X dL_handCost_8 (by decide) ?_
    refine g_iconst (v := 0) X dL_handCost_14 (by decide) ?_
    exact e_iretW X hq ⟨Nat.zero_le _, Nat.zero_le _⟩ e dL_handCost_15
  · rcases tt_some hk with ⟨rfl, rfl⟩ | ⟨⟨rfl, hb⟩, rfl⟩
    · refine g_catch1 X hT (E := iIS) (Or.inr (Or.inr rfl)) ⟨Nat.zero_le _, by decide⟩ (by decide) (by decide +kernel) (fun q => ?_)
      refine g_astore_n (L' := (2, .ref q) :: [(0, .ref (adr C 0)), (1, .ref (adr C 50))]) X dL_handCost_11 rfl (by decide) rfl ?_
      refine g_iconst (v := 1) X dL_handCost_12 (by decide) ?_
      exact e_iretW X hq ⟨Nat.le_refl _, Nat.le_refl _⟩ e2 dL_handCost_13
    · exact absurd hb (by decide)
abbrev rmL_middle : Room := { frames := 7, cells := 1, slots := 6, locals := 106 }
set_option maxHeartbeats 4000000 in
set_option maxRecDepth 100000 in
theorem kL_middle (l : Launch) (σ : Mem) : KW l yL_middle wsL_middle rmL_middle (fun ad => [.ref (ad 0), .ref (ad 50)]) σ (wrp (tt 2 9) (fX2_middle σ)) := by
  refine kw_of (by decide +kernel) rfl (fun _ => Nat.le_of_ble_eq_true rfl) (fun r hr C X hcl hT hq => ?_)
  refine g_sub [0, 1] (L' := [(0, .ref (adr C 0)), (1, .ref (adr C 50))]) rfl ?_
  refine g_aload_n X dL_middle_0 1 rfl rfl ?_
  refine g_iconst (v := 0) X dL_middle_1 (by decide) ?_
  refine g_aload_n X dL_middle_2 0 rfl rfl ?_
  refine c_WXI (q := 0) (vs := []) (rest := [.int 0, .ref (adr C 50)]) X (kX2_middle (cL C) σ) (fun s a hts => cwV 0 hts gL_middle_X2_middle rfl rfl rfl (by decide +kernel) ⟨Nat.le_of_ble_eq_true rfl, Nat.le_of_ble_eq_true rfl⟩) obj_x (rfl : vwCl[2]? = some (RX2, TX2, 15)) rfl rfl rfl rfl (Nat.le_of_ble_eq_true rfl) dL_middle_3 ⟨Nat.le_of_ble_eq_true rfl, Nat.le_of_ble_eq_true rfl⟩ hr (fun v σ' e => ?_) (fun e k σ' hk e2 => ?_)
  · refine g_outW X dL_middle_6 dL_middle_7 ?_
    refine g_goto (tgt := 14) X dL_middle_8 (by decide) ?_
    refine g_iconst (v := 0) X dL_middle_14 (by decide) ?_
    exact e_iretW X hq ⟨Nat.zero_le _, Nat.zero_le _⟩ e dL_middle_15
  · rcases tt_some hk with ⟨rfl, rfl⟩ | ⟨⟨rfl, hb⟩, rfl⟩
    · refine g_catch1 X hT (E := iIS) (Or.inr (Or.inr rfl)) ⟨Nat.zero_le _, by decide⟩ (by decide) (by decide +kernel) (fun q => ?_)
      refine g_astore_n (L' := (2, .ref q) :: [(0, .ref (adr C 0)), (1, .ref (adr C 50))]) X dL_middle_11 rfl (by decide) rfl ?_
      refine g_iconst (v := 1) X dL_middle_12 (by decide) ?_
      exact e_iretW X hq ⟨Nat.le_refl _, Nat.le_refl _⟩ e2 dL_middle_13
    · exact absurd hb (by decide)
abbrev rmL_about : Room := { frames := 8, cells := 1, slots := 6, locals := 127 }
set_option maxHeartbeats 4000000 in
set_option maxRecDepth 100000 in
theorem kL_about (l : Launch) (v1 : Int32) (v2 : Int32) (v3 : Int32) (σ : Mem) : KW l yL_about wsL_about rmL_about (fun ad => [.ref (ad 0), .int v1, .int v2, .int v3, .ref (ad 50)]) σ (wrp (tt 0 1) (fX2_about v1 v2 v3 σ)) := by
  refine kw_of (by decide +kernel) rfl (fun _ => Nat.le_of_ble_eq_true rfl) (fun r hr C X hcl hT hq => ?_)
  refine g_sub [0, 1, 2, 3, 4] (L' := [(0, .ref (adr C 0)), (1, .int v1), (2, .int v2), (3, .int v3), (4, .ref (adr C 50))]) rfl ?_
  refine g_aload X dL_about_0 4 rfl ?_
  refine g_iconst (v := 0) X dL_about_2 (by decide) ?_
  refine g_aload_n X dL_about_3 0 rfl rfl ?_
  refine g_iload_n X dL_about_4 1 rfl rfl ?_
  refine g_iload_n X dL_about_5 2 rfl rfl ?_
  refine g_iload_n X dL_about_6 3 rfl rfl ?_
  refine c_WXI (q := 0) (vs := [.int v1, .int v2, .int v3]) (rest := [.int 0, .ref (adr C 50)]) X (kX2_about (cL C) v1 v2 v3 σ) (fun s a hts => cwV 3 hts gL_about_X2_about rfl rfl rfl (by decide +kernel) ⟨Nat.le_of_ble_eq_true rfl, Nat.le_of_ble_eq_true rfl⟩) obj_x (rfl : vwCl[2]? = some (RX2, TX2, 15)) rfl rfl rfl rfl (Nat.le_of_ble_eq_true rfl) dL_about_7 ⟨Nat.le_of_ble_eq_true rfl, Nat.le_of_ble_eq_true rfl⟩ hr (fun v σ' e => ?_) (fun e k σ' hk e2 => ?_)
  · refine g_outW X dL_about_10 dL_about_11 ?_
    refine g_goto (tgt := 23) X dL_about_12 (by decide) ?_
    refine g_iconst (v := 0) X dL_about_23 (by decide) ?_
    exact e_iretW X hq ⟨Nat.zero_le _, Nat.zero_le _⟩ e dL_about_24
  · rcases tt_some hk with ⟨rfl, rfl⟩ | ⟨⟨rfl, hb⟩, rfl⟩
    · refine g_catch1 X hT (E := iIO) (Or.inl rfl) ⟨Nat.zero_le _, by decide⟩ (by decide) (by decide +kernel) (fun q => ?_)
      refine g_astore (L' := (5, .ref q) :: [(0, .ref (adr C 0)), (1, .int v1), (2, .int v2), (3, .int v3), (4, .ref (adr C 50))]) X dL_about_15 (by decide) rfl ?_
      refine g_iconst (v := 1) X dL_about_17 (by decide) ?_
      exact e_iretW X hq ⟨Nat.le_refl _, Nat.le_refl _⟩ e2 dL_about_18
    · refine g_catch2 X hT (E := iIA) (E' := iIO) (Or.inr (Or.inl rfl)) (by decide) ⟨Nat.zero_le _, by decide⟩ (by decide) (by decide) (by decide +kernel) (by decide +kernel) (fun q => ?_)
      refine g_astore (L' := (5, .ref q) :: [(0, .ref (adr C 0)), (1, .int v1), (2, .int v2), (3, .int v3), (4, .ref (adr C 50))]) X dL_about_19 (by decide) rfl ?_
      refine g_iconst (v := 2) X dL_about_21 (by decide) ?_
      exact e_iretW X hq ⟨Nat.le_refl _, Nat.le_refl _⟩ e2 dL_about_22
abbrev rmL_count : Room := { frames := 8, cells := 1, slots := 6, locals := 142 }
set_option maxHeartbeats 4000000 in
set_option maxRecDepth 100000 in
theorem kL_count (l : Launch) (v1 : Int32) (σ : Mem) : KW l yL_count wsL_count rmL_count (fun ad => [.ref (ad 0), .int v1, .ref (ad 50)]) σ (wrp (tt 1 9) (fX2_count v1 σ)) := by
  refine kw_of (by decide +kernel) rfl (fun _ => Nat.le_of_ble_eq_true rfl) (fun r hr C X hcl hT hq => ?_)
  refine g_sub [0, 1, 2] (L' := [(0, .ref (adr C 0)), (1, .int v1), (2, .ref (adr C 50))]) rfl ?_
  refine g_aload_n X dL_count_0 2 rfl rfl ?_
  refine g_iconst (v := 0) X dL_count_1 (by decide) ?_
  refine g_aload_n X dL_count_2 0 rfl rfl ?_
  refine g_iload_n X dL_count_3 1 rfl rfl ?_
  refine c_WXI (q := 0) (vs := [.int v1]) (rest := [.int 0, .ref (adr C 50)]) X (kX2_count (cL C) v1 σ) (fun s a hts => cwV 1 hts gL_count_X2_count rfl rfl rfl (by decide +kernel) ⟨Nat.le_of_ble_eq_true rfl, Nat.le_of_ble_eq_true rfl⟩) obj_x (rfl : vwCl[2]? = some (RX2, TX2, 15)) rfl rfl rfl rfl (Nat.le_of_ble_eq_true rfl) dL_count_4 ⟨Nat.le_of_ble_eq_true rfl, Nat.le_of_ble_eq_true rfl⟩ hr (fun v σ' e => ?_) (fun e k σ' hk e2 => ?_)
  · refine g_outW X dL_count_7 dL_count_8 ?_
    refine g_goto (tgt := 15) X dL_count_9 (by decide) ?_
    refine g_iconst (v := 0) X dL_count_15 (by decide) ?_
    exact e_iretW X hq ⟨Nat.zero_le _, Nat.zero_le _⟩ e dL_count_16
  · rcases tt_some hk with ⟨rfl, rfl⟩ | ⟨⟨rfl, hb⟩, rfl⟩
    · refine g_catch1 X hT (E := iIA) (Or.inr (Or.inl rfl)) ⟨Nat.zero_le _, by decide⟩ (by decide) (by decide +kernel) (fun q => ?_)
      refine g_astore_n (L' := (3, .ref q) :: [(0, .ref (adr C 0)), (1, .int v1), (2, .ref (adr C 50))]) X dL_count_12 rfl (by decide) rfl ?_
      refine g_iconst (v := 1) X dL_count_13 (by decide) ?_
      exact e_iretW X hq ⟨Nat.le_refl _, Nat.le_refl _⟩ e2 dL_count_14
    · exact absurd hb (by decide)
