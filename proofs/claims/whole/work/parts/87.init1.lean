/-! Constructors of a side and of a plan. -/
abbrev rmX1_init : Room := { frames := 1, cells := 2, slots := 10, locals := 12 }
abbrev rmX0_init : Room := { frames := 1, cells := 10, slots := 130, locals := 12 }
theorem infX1_init_X1 : ∀ w ∈ u_ws RX1 TX1 3, w ∈ wsX1_init := fun w h => List.mem_cons_of_mem _ (List.mem_append_right _ h)
theorem infX0_init_X0 : ∀ w ∈ u_ws RX0 TX0 13, w ∈ wsX0_init := fun w h => List.mem_cons_of_mem _ (List.mem_append_right _ h)
def WSD (cI : ClassId) (q : Nat) (u : Nat × Nat) : va_W := [(q, .inr (1, [.ref u.1, .ref u.2, .int 0])), (u.1, .inl (cI, 5, .inl (fun _ => 0))), (u.2, .inl (cI, 5, .inl (fun _ => 0)))]
def WPL (cI cJ : ClassId) (q : Nat) (u : Nat × Nat × Nat × Nat × Nat × Nat × Nat × Nat × Nat × Nat) : va_W := [(q, .inr (0, [.ref u.1, .ref u.2.1, .ref u.2.2.1, .ref u.2.2.2.1, .int 0, .ref u.2.2.2.2.1, .ref u.2.2.2.2.2.1, .ref u.2.2.2.2.2.2.1, .ref u.2.2.2.2.2.2.2.1, .ref u.2.2.2.2.2.2.2.2.1, .ref u.2.2.2.2.2.2.2.2.2, .int 0, .int 0])), (u.1, .inl (cI, 5, .inl (fun _ => 0))), (u.2.1, .inl (cI, 5, .inl (fun _ => 0))), (u.2.2.1, .inl (cI, 25, .inl (fun _ => 0))), (u.2.2.2.1, .inl (cI, 25, .inl (fun _ => 0))), (u.2.2.2.2.1, .inl (cI, 25, .inl (fun _ => 0))), (u.2.2.2.2.2.1, .inl (cJ, 25, .inr (.inl (fun _ => 0)))), (u.2.2.2.2.2.2.1, .inl (cJ, 5, .inr (.inl (fun _ => 0)))), (u.2.2.2.2.2.2.2.1, .inl (cJ, 5, .inr (.inl (fun _ => 0)))), (u.2.2.2.2.2.2.2.2.1, .inl (cI, 5, .inl (fun _ => 0))), (u.2.2.2.2.2.2.2.2.2, .inl (cI, 5, .inl (fun _ => 0)))]
set_option maxHeartbeats 4000000 in
set_option maxRecDepth 100000 in
theorem kX1_init (l : Launch) : KN l yX1_init wsX1_init rmX1_init 2 10 (.inr (1, [.null, .null, .int 0])) (Nat × Nat) (fun cI _ q u => WSD cI q u) (fun _ => True) := by
  refine kn_of (cc := cX1_init) (by decide +kernel) rfl rfl (fun C A h0 IXh hcl hend => ?_)
  refine gi_aload IXh dX1_init_0 ?_
  refine gi_obj IXh (List.mem_of_getElem? (i := 1) rfl) (List.mem_of_getElem? (i := 2) rfl) (List.mem_of_getElem? (i := 3) rfl) dX1_init_1 ⟨by decide, by decide⟩ ?_
  refine gi_aload IXh dX1_init_4 ?_
  refine gi_iconst (v := (5 : Int32)) IXh dX1_init_5 (by decide) ?_
  refine gi_newI (N := 5) IXh (List.mem_of_getElem? (i := 4) rfl) (by decide) (by decide) (by decide) ⟨Nat.le_of_ble_eq_true rfl, Nat.le_of_ble_eq_true rfl⟩ dX1_init_6 (fun q6 => ?_)
  refine gi_putF (v := (Value.ref q6)) (kf := 0) IXh [(h0, .inr (1, [.ref q6, .null, .int 0])), (q6, .inl (cI C, 5, .inl (fun _ => 0)))] rfl rfl infX1_init_X1 tyX1_ok nmX1 (by decide) (by decide +kernel) rfl rfl rfl rfl (Nat.le_of_ble_eq_true rfl) dX1_init_8 rfl ?_
  refine gi_aload IXh dX1_init_11 ?_
  refine gi_iconst (v := (5 : Int32)) IXh dX1_init_12 (by decide) ?_
  refine gi_newI (N := 5) IXh (List.mem_of_getElem? (i := 4) rfl) (by decide) (by decide) (by decide) ⟨Nat.le_of_ble_eq_true rfl, Nat.le_of_ble_eq_true rfl⟩ dX1_init_13 (fun q13 => ?_)
  refine gi_putF (v := (Value.ref q13)) (kf := 1) IXh [(h0, .inr (1, [.ref q6, .ref q13, .int 0])), (q6, .inl (cI C, 5, .inl (fun _ => 0))), (q13, .inl (cI C, 5, .inl (fun _ => 0)))] rfl rfl infX1_init_X1 tyX1_ok nmX1 (by decide) (by decide +kernel) rfl rfl rfl rfl (Nat.le_of_ble_eq_true rfl) dX1_init_15 rfl ?_
  refine gi_aload IXh dX1_init_18 ?_
  refine gi_iconst (v := (0 : Int32)) IXh dX1_init_19 (by decide) ?_
  refine gi_put (v := (Value.int 0)) (kf := 2) IXh [(h0, .inr (1, [.ref q6, .ref q13, .int 0])), (q6, .inl (cI C, 5, .inl (fun _ => 0))), (q13, .inl (cI C, 5, .inl (fun _ => 0)))] rfl rfl infX1_init_X1 tyX1_ok nmX1 (by decide) (by decide +kernel) rfl rfl rfl (Nat.le_of_ble_eq_true rfl) dX1_init_20 rfl ?_
  exact hend 23 (q6, q13) trivial dX1_init_23
set_option maxHeartbeats 4000000 in
set_option maxRecDepth 100000 in
theorem kX0_init (l : Launch) : KN l yX0_init wsX0_init rmX0_init 10 130 (.inr (0, [.null, .null, .null, .null, .int 0, .null, .null, .null, .null, .null, .null, .int 0, .int 0])) (Nat × Nat × Nat × Nat × Nat × Nat × Nat × Nat × Nat × Nat) (fun cI cJ q u => WPL cI cJ q u) (fun _ => True) := by
  refine kn_of (cc := cX0_init) (by decide +kernel) rfl rfl (fun C A h0 IXh hcl hend => ?_)
  refine gi_aload IXh dX0_init_0 ?_
  refine gi_obj IXh (List.mem_of_getElem? (i := 1) rfl) (List.mem_of_getElem? (i := 2) rfl) (List.mem_of_getElem? (i := 3) rfl) dX0_init_1 ⟨by decide, by decide⟩ ?_
  refine gi_aload IXh dX0_init_4 ?_
  refine gi_iconst (v := (5 : Int32)) IXh dX0_init_5 (by decide) ?_
  refine gi_newI (N := 5) IXh (List.mem_of_getElem? (i := 4) rfl) (by decide) (by decide) (by decide) ⟨Nat.le_of_ble_eq_true rfl, Nat.le_of_ble_eq_true rfl⟩ dX0_init_6 (fun q6 => ?_)
  refine gi_putF (v := (Value.ref q6)) (kf := 0) IXh [(h0, .inr (0, [.ref q6, .null, .null, .null, .int 0, .null, .null, .null, .null, .null, .null, .int 0, .int 0])), (q6, .inl (cI C, 5, .inl (fun _ => 0)))] rfl rfl infX0_init_X0 tyX0_ok nmX0 (by decide) (by decide +kernel) rfl rfl rfl rfl (Nat.le_of_ble_eq_true rfl) dX0_init_8 rfl ?_
  refine gi_aload IXh dX0_init_11 ?_
  refine gi_iconst (v := (5 : Int32)) IXh dX0_init_12 (by decide) ?_
  refine gi_newI (N := 5) IXh (List.mem_of_getElem? (i := 4) rfl) (by decide) (by decide) (by decide) ⟨Nat.le_of_ble_eq_true rfl, Nat.le_of_ble_eq_true rfl⟩ dX0_init_13 (fun q13 => ?_)
  refine gi_putF (v := (Value.ref q13)) (kf := 1) IXh [(h0, .inr (0, [.ref q6, .ref q13, .null, .null, .int 0, .null, .null, .null, .null, .null, .null, .int 0, .int 0])), (q6, .inl (cI C, 5, .inl (fun _ => 0))), (q13, .inl (cI C, 5, .inl (fun _ => 0)))] rfl rfl infX0_init_X0 tyX0_ok nmX0 (by decide) (by decide +kernel) rfl rfl rfl rfl (Nat.le_of_ble_eq_true rfl) dX0_init_15 rfl ?_
  refine gi_aload IXh dX0_init_18 ?_
  refine gi_bipush (v := (25 : Int32)) IXh dX0_init_19 (by decide) ?_
  refine gi_newI (N := 25) IXh (List.mem_of_getElem? (i := 4) rfl) (by decide) (by decide) (by decide) ⟨Nat.le_of_ble_eq_true rfl, Nat.le_of_ble_eq_true rfl⟩ dX0_init_21 (fun q21 => ?_)
  refine gi_putF (v := (Value.ref q21)) (kf := 2) IXh [(h0, .inr (0, [.ref q6, .ref q13, .ref q21, .null, .int 0, .null, .null, .null, .null, .null, .null, .int 0, .int 0])), (q6, .inl (cI C, 5, .inl (fun _ => 0))), (q13, .inl (cI C, 5, .inl (fun _ => 0))), (q21, .inl (cI C, 25, .inl (fun _ => 0)))] rfl rfl infX0_init_X0 tyX0_ok nmX0 (by decide) (by decide +kernel) rfl rfl rfl rfl (Nat.le_of_ble_eq_true rfl) dX0_init_23 rfl ?_
  refine gi_aload IXh dX0_init_26 ?_
  refine gi_bipush (v := (25 : Int32)) IXh dX0_init_27 (by decide) ?_
  refine gi_newI (N := 25) IXh (List.mem_of_getElem? (i := 4) rfl) (by decide) (by decide) (by decide) ⟨Nat.le_of_ble_eq_true rfl, Nat.le_of_ble_eq_true rfl⟩ dX0_init_29 (fun q29 => ?_)
  refine gi_putF (v := (Value.ref q29)) (kf := 3) IXh [(h0, .inr (0, [.ref q6, .ref q13, .ref q21, .ref q29, .int 0, .null, .null, .null, .null, .null, .null, .int 0, .int 0])), (q6, .inl (cI C, 5, .inl (fun _ => 0))), (q13, .inl (cI C, 5, .inl (fun _ => 0))), (q21, .inl (cI C, 25, .inl (fun _ => 0))), (q29, .inl (cI C, 25, .inl (fun _ => 0)))] rfl rfl infX0_init_X0 tyX0_ok nmX0 (by decide) (by decide +kernel) rfl rfl rfl rfl (Nat.le_of_ble_eq_true rfl) dX0_init_31 rfl ?_
  refine gi_aload IXh dX0_init_34 ?_
  refine gi_iconst (v := (0 : Int32)) IXh dX0_init_35 (by decide) ?_
  refine gi_put (v := (Value.int 0)) (kf := 4) IXh [(h0, .inr (0, [.ref q6, .ref q13, .ref q21, .ref q29, .int 0, .null, .null, .null, .null, .null, .null, .int 0, .int 0])), (q6, .inl (cI C, 5, .inl (fun _ => 0))), (q13, .inl (cI C, 5, .inl (fun _ => 0))), (q21, .inl (cI C, 25, .inl (fun _ => 0))), (q29, .inl (cI C, 25, .inl (fun _ => 0)))] rfl rfl infX0_init_X0 tyX0_ok nmX0 (by decide) (by decide +kernel) rfl rfl rfl (Nat.le_of_ble_eq_true rfl) dX0_init_36 rfl ?_
  refine gi_aload IXh dX0_init_39 ?_
  refine gi_bipush (v := (25 : Int32)) IXh dX0_init_40 (by decide) ?_
  refine gi_newI (N := 25) IXh (List.mem_of_getElem? (i := 4) rfl) (by decide) (by decide) (by decide) ⟨Nat.le_of_ble_eq_true rfl, Nat.le_of_ble_eq_true rfl⟩ dX0_init_42 (fun q42 => ?_)
  refine gi_putF (v := (Value.ref q42)) (kf := 5) IXh [(h0, .inr (0, [.ref q6, .ref q13, .ref q21, .ref q29, .int 0, .ref q42, .null, .null, .null, .null, .null, .int 0, .int 0])), (q6, .inl (cI C, 5, .inl (fun _ => 0))), (q13, .inl (cI C, 5, .inl (fun _ => 0))), (q21, .inl (cI C, 25, .inl (fun _ => 0))), (q29, .inl (cI C, 25, .inl (fun _ => 0))), (q42, .inl (cI C, 25, .inl (fun _ => 0)))] rfl rfl infX0_init_X0 tyX0_ok nmX0 (by decide) (by decide +kernel) rfl rfl rfl rfl (Nat.le_of_ble_eq_true rfl) dX0_init_44 rfl ?_
  refine gi_aload IXh dX0_init_47 ?_
  refine gi_bipush (v := (25 : Int32)) IXh dX0_init_48 (by decide) ?_
  refine gi_newJ (N := 25) IXh (List.mem_of_getElem? (i := 11) rfl) (by decide) (by decide) (by decide) ⟨Nat.le_of_ble_eq_true rfl, Nat.le_of_ble_eq_true rfl⟩ dX0_init_50 (fun q50 => ?_)
  refine gi_putF (v := (Value.ref q50)) (kf := 6) IXh [(h0, .inr (0, [.ref q6, .ref q13, .ref q21, .ref q29, .int 0, .ref q42, .ref q50, .null, .null, .null, .null, .int 0, .int 0])), (q6, .inl (cI C, 5, .inl (fun _ => 0))), (q13, .inl (cI C, 5, .inl (fun _ => 0))), (q21, .inl (cI C, 25, .inl (fun _ => 0))), (q29, .inl (cI C, 25, .inl (fun _ => 0))), (q42, .inl (cI C, 25, .inl (fun _ => 0))), (q50, .inl (cJ C, 25, .inr (.inl (fun _ => 0))))] rfl rfl infX0_init_X0 tyX0_ok nmX0 (by decide) (by decide +kernel) rfl rfl rfl rfl (Nat.le_of_ble_eq_true rfl) dX0_init_52 rfl ?_
  refine gi_aload IXh dX0_init_55 ?_
  refine gi_iconst (v := (5 : Int32)) IXh dX0_init_56 (by decide) ?_
  refine gi_newJ (N := 5) IXh (List.mem_of_getElem? (i := 11) rfl) (by decide) (by decide) (by decide) ⟨Nat.le_of_ble_eq_true rfl, Nat.le_of_ble_eq_true rfl⟩ dX0_init_57 (fun q57 => ?_)
  refine gi_putF (v := (Value.ref q57)) (kf := 7) IXh [(h0, .inr (0, [.ref q6, .ref q13, .ref q21, .ref q29, .int 0, .ref q42, .ref q50, .ref q57, .null, .null, .null, .int 0, .int 0])), (q6, .inl (cI C, 5, .inl (fun _ => 0))), (q13, .inl (cI C, 5, .inl (fun _ => 0))), (q21, .inl (cI C, 25, .inl (fun _ => 0))), (q29, .inl (cI C, 25, .inl (fun _ => 0))), (q42, .inl (cI C, 25, .inl (fun _ => 0))), (q50, .inl (cJ C, 25, .inr (.inl (fun _ => 0)))), (q57, .inl (cJ C, 5, .inr (.inl (fun _ => 0))))] rfl rfl infX0_init_X0 tyX0_ok nmX0 (by decide) (by decide +kernel) rfl rfl rfl rfl (Nat.le_of_ble_eq_true rfl) dX0_init_59 rfl ?_
  refine gi_aload IXh dX0_init_62 ?_
  refine gi_iconst (v := (5 : Int32)) IXh dX0_init_63 (by decide) ?_
  refine gi_newJ (N := 5) IXh (List.mem_of_getElem? (i := 11) rfl) (by decide) (by decide) (by decide) ⟨Nat.le_of_ble_eq_true rfl, Nat.le_of_ble_eq_true rfl⟩ dX0_init_64 (fun q64 => ?_)
  refine gi_putF (v := (Value.ref q64)) (kf := 8) IXh [(h0, .inr (0, [.ref q6, .ref q13, .ref q21, .ref q29, .int 0, .ref q42, .ref q50, .ref q57, .ref q64, .null, .null, .int 0, .int 0])), (q6, .inl (cI C, 5, .inl (fun _ => 0))), (q13, .inl (cI C, 5, .inl (fun _ => 0))), (q21, .inl (cI C, 25, .inl (fun _ => 0))), (q29, .inl (cI C, 25, .inl (fun _ => 0))), (q42, .inl (cI C, 25, .inl (fun _ => 0))), (q50, .inl (cJ C, 25, .inr (.inl (fun _ => 0)))), (q57, .inl (cJ C, 5, .inr (.inl (fun _ => 0)))), (q64, .inl (cJ C, 5, .inr (.inl (fun _ => 0))))] rfl rfl infX0_init_X0 tyX0_ok nmX0 (by decide) (by decide +kernel) rfl rfl rfl rfl (Nat.le_of_ble_eq_true rfl) dX0_init_66 rfl ?_
  refine gi_aload IXh dX0_init_69 ?_
  refine gi_iconst (v := (5 : Int32)) IXh dX0_init_70 (by decide) ?_
  refine gi_newI (N := 5) IXh (List.mem_of_getElem? (i := 4) rfl) (by decide) (by decide) (by decide) ⟨Nat.le_of_ble_eq_true rfl, Nat.le_of_ble_eq_true rfl⟩ dX0_init_71 (fun q71 => ?_)
  refine gi_putF (v := (Value.ref q71)) (kf := 9) IXh [(h0, .inr (0, [.ref q6, .ref q13, .ref q21, .ref q29, .int 0, .ref q42, .ref q50, .ref q57, .ref q64, .ref q71, .null, .int 0, .int 0])), (q6, .inl (cI C, 5, .inl (fun _ => 0))), (q13, .inl (cI C, 5, .inl (fun _ => 0))), (q21, .inl (cI C, 25, .inl (fun _ => 0))), (q29, .inl (cI C, 25, .inl (fun _ => 0))), (q42, .inl (cI C, 25, .inl (fun _ => 0))), (q50, .inl (cJ C, 25, .inr (.inl (fun _ => 0)))), (q57, .inl (cJ C, 5, .inr (.inl (fun _ => 0)))), (q64, .inl (cJ C, 5, .inr (.inl (fun _ => 0)))), (q71, .inl (cI C, 5, .inl (fun _ => 0)))] rfl rfl infX0_init_X0 tyX0_ok nmX0 (by decide) (by decide +kernel) rfl rfl rfl rfl (Nat.le_of_ble_eq_true rfl) dX0_init_73 rfl ?_
  refine gi_aload IXh dX0_init_76 ?_
  refine gi_iconst (v := (5 : Int32)) IXh dX0_init_77 (by decide) ?_
  refine gi_newI (N := 5) IXh (List.mem_of_getElem? (i := 4) rfl) (by decide) (by decide) (by decide) ⟨Nat.le_of_ble_eq_true rfl, Nat.le_of_ble_eq_true rfl⟩ dX0_init_78 (fun q78 => ?_)
  refine gi_putF (v := (Value.ref q78)) (kf := 10) IXh [(h0, .inr (0, [.ref q6, .ref q13, .ref q21, .ref q29, .int 0, .ref q42, .ref q50, .ref q57, .ref q64, .ref q71, .ref q78, .int 0, .int 0])), (q6, .inl (cI C, 5, .inl (fun _ => 0))), (q13, .inl (cI C, 5, .inl (fun _ => 0))), (q21, .inl (cI C, 25, .inl (fun _ => 0))), (q29, .inl (cI C, 25, .inl (fun _ => 0))), (q42, .inl (cI C, 25, .inl (fun _ => 0))), (q50, .inl (cJ C, 25, .inr (.inl (fun _ => 0)))), (q57, .inl (cJ C, 5, .inr (.inl (fun _ => 0)))), (q64, .inl (cJ C, 5, .inr (.inl (fun _ => 0)))), (q71, .inl (cI C, 5, .inl (fun _ => 0))), (q78, .inl (cI C, 5, .inl (fun _ => 0)))] rfl rfl infX0_init_X0 tyX0_ok nmX0 (by decide) (by decide +kernel) rfl rfl rfl rfl (Nat.le_of_ble_eq_true rfl) dX0_init_80 rfl ?_
  refine gi_aload IXh dX0_init_83 ?_
  refine gi_iconst (v := (0 : Int32)) IXh dX0_init_84 (by decide) ?_
  refine gi_put (v := (Value.int 0)) (kf := 11) IXh [(h0, .inr (0, [.ref q6, .ref q13, .ref q21, .ref q29, .int 0, .ref q42, .ref q50, .ref q57, .ref q64, .ref q71, .ref q78, .int 0, .int 0])), (q6, .inl (cI C, 5, .inl (fun _ => 0))), (q13, .inl (cI C, 5, .inl (fun _ => 0))), (q21, .inl (cI C, 25, .inl (fun _ => 0))), (q29, .inl (cI C, 25, .inl (fun _ => 0))), (q42, .inl (cI C, 25, .inl (fun _ => 0))), (q50, .inl (cJ C, 25, .inr (.inl (fun _ => 0)))), (q57, .inl (cJ C, 5, .inr (.inl (fun _ => 0)))), (q64, .inl (cJ C, 5, .inr (.inl (fun _ => 0)))), (q71, .inl (cI C, 5, .inl (fun _ => 0))), (q78, .inl (cI C, 5, .inl (fun _ => 0)))] rfl rfl infX0_init_X0 tyX0_ok nmX0 (by decide) (by decide +kernel) rfl rfl rfl (Nat.le_of_ble_eq_true rfl) dX0_init_85 rfl ?_
  refine gi_aload IXh dX0_init_88 ?_
  refine gi_iconst (v := (0 : Int32)) IXh dX0_init_89 (by decide) ?_
  refine gi_put (v := (Value.int 0)) (kf := 12) IXh [(h0, .inr (0, [.ref q6, .ref q13, .ref q21, .ref q29, .int 0, .ref q42, .ref q50, .ref q57, .ref q64, .ref q71, .ref q78, .int 0, .int 0])), (q6, .inl (cI C, 5, .inl (fun _ => 0))), (q13, .inl (cI C, 5, .inl (fun _ => 0))), (q21, .inl (cI C, 25, .inl (fun _ => 0))), (q29, .inl (cI C, 25, .inl (fun _ => 0))), (q42, .inl (cI C, 25, .inl (fun _ => 0))), (q50, .inl (cJ C, 25, .inr (.inl (fun _ => 0)))), (q57, .inl (cJ C, 5, .inr (.inl (fun _ => 0)))), (q64, .inl (cJ C, 5, .inr (.inl (fun _ => 0)))), (q71, .inl (cI C, 5, .inl (fun _ => 0))), (q78, .inl (cI C, 5, .inl (fun _ => 0)))] rfl rfl infX0_init_X0 tyX0_ok nmX0 (by decide) (by decide +kernel) rfl rfl rfl (Nat.le_of_ble_eq_true rfl) dX0_init_90 rfl ?_
  exact hend 93 (q6, q13, q21, q29, q42, q50, q57, q64, q71, q78) trivial dX0_init_93
