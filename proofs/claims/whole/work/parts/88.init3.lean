/-! The constructor of the Model. -/
theorem m1_step {f g : Nat → Int32} {k : Nat} (e : ∀ w, g w = if w = k then -1 else f w) (h : ∀ w, w < k → f w = -1) : ∀ w, w < k + 1 → g w = -1 := fun w hw => by
  rw [e]
  by_cases c : w = k
  · rw [if_pos c]
  · rw [if_neg c]; exact h w (by omega)
abbrev rmX3_init : Room := { frames := 1, cells := 14, slots := 200, locals := 12 }
def WMD (cI : ClassId) (q : Nat) (u : (Nat → Nat) × (Nat → Int32) × (Nat → Int32)) : va_W := [(q, .inr (3, [.int 0, .int 0, .int 0, .ref (u.1 1), .ref (u.1 2), .ref (u.1 3), .ref (u.1 4), .int 0, .int 0, .ref (u.1 5), .ref (u.1 6), .ref (u.1 7), .int 1000, .int 1000, .ref (u.1 8), .ref (u.1 9), .ref (u.1 10), .ref (u.1 11), .ref (u.1 12), .ref (u.1 13), .ref (u.1 14)])), (u.1 1, .inl (cI, 5, .inl (fun _ => 0))), (u.1 2, .inl (cI, 5, .inl (fun _ => 0))), (u.1 3, .inl (cI, 5, .inl (fun _ => 0))), (u.1 4, .inl (cI, 5, .inl (fun _ => 0))), (u.1 5, .inl (cI, 25, .inl u.2.1)), (u.1 6, .inl (cI, 25, .inl u.2.2)), (u.1 7, .inl (cI, 25, .inl (fun _ => 0))), (u.1 8, .inl (cI, 5, .inl (fun _ => 0))), (u.1 9, .inl (cI, 5, .inl (fun _ => 0))), (u.1 10, .inl (cI, 25, .inl (fun _ => 0))), (u.1 11, .inl (cI, 25, .inl (fun _ => 0))), (u.1 12, .inl (cI, 10, .inl (fun _ => 0))), (u.1 13, .inl (cI, 10, .inl (fun _ => 0))), (u.1 14, .inl (cI, 25, .inl (fun _ => 0)))]
theorem infX3_init_X3 : ∀ w ∈ u_ws RX3 TX3 21, w ∈ wsX3_init := fun w h => List.mem_cons_of_mem _ (List.mem_append_right _ h)
set_option maxHeartbeats 4000000 in
set_option maxRecDepth 100000 in
theorem kX3_init (l : Launch) : KN l yX3_init wsX3_init rmX3_init 14 200 (.inr (3, [.int 0, .int 0, .int 0, .null, .null, .null, .null, .int 0, .int 0, .null, .null, .null, .int 0, .int 0, .null, .null, .null, .null, .null, .null, .null])) ((Nat → Nat) × (Nat → Int32) × (Nat → Int32)) (fun cI _ q u => WMD cI q u) (fun u => (∀ w, w < 25 → u.2.1 w = -1) ∧ ∀ w, w < 25 → u.2.2 w = -1) := by
  refine kn_of (cc := cX3_init) (by decide +kernel) rfl rfl (fun C A h0 IXh hcl hend => ?_)
  refine gi_aload IXh dX3_init_0 ?_
  refine gi_obj IXh (List.mem_of_getElem? (i := 1) rfl) (List.mem_of_getElem? (i := 2) rfl) (List.mem_of_getElem? (i := 3) rfl) dX3_init_1 ⟨by decide, by decide⟩ ?_
  refine gi_aload IXh dX3_init_4 ?_
  refine gi_iconst (v := (5 : Int32)) IXh dX3_init_5 (by decide) ?_
  refine gi_newI (N := 5) IXh (List.mem_of_getElem? (i := 4) rfl) (by decide) (by decide) (by decide) ⟨Nat.le_of_ble_eq_true rfl, Nat.le_of_ble_eq_true rfl⟩ dX3_init_6 (fun q6 => ?_)
  refine gi_putF (v := (Value.ref q6)) (kf := 3) IXh [(h0, .inr (3, [.int 0, .int 0, .int 0, .ref q6, .null, .null, .null, .int 0, .int 0, .null, .null, .null, .int 0, .int 0, .null, .null, .null, .null, .null, .null, .null])), (q6, .inl (cI C, 5, .inl (fun _ => 0)))] rfl rfl infX3_init_X3 tyX3_ok nmX3 (by decide) (by decide +kernel) rfl rfl rfl rfl (Nat.le_of_ble_eq_true rfl) dX3_init_8 rfl ?_
  refine gi_aload IXh dX3_init_11 ?_
  refine gi_iconst (v := (5 : Int32)) IXh dX3_init_12 (by decide) ?_
  refine gi_newI (N := 5) IXh (List.mem_of_getElem? (i := 4) rfl) (by decide) (by decide) (by decide) ⟨Nat.le_of_ble_eq_true rfl, Nat.le_of_ble_eq_true rfl⟩ dX3_init_13 (fun q13 => ?_)
  refine gi_putF (v := (Value.ref q13)) (kf := 4) IXh [(h0, .inr (3, [.int 0, .int 0, .int 0, .ref q6, .ref q13, .null, .null, .int 0, .int 0, .null, .null, .null, .int 0, .int 0, .null, .null, .null, .null, .null, .null, .null])), (q6, .inl (cI C, 5, .inl (fun _ => 0))), (q13, .inl (cI C, 5, .inl (fun _ => 0)))] rfl rfl infX3_init_X3 tyX3_ok nmX3 (by decide) (by decide +kernel) rfl rfl rfl rfl (Nat.le_of_ble_eq_true rfl) dX3_init_15 rfl ?_
  refine gi_aload IXh dX3_init_18 ?_
  refine gi_iconst (v := (5 : Int32)) IXh dX3_init_19 (by decide) ?_
  refine gi_newI (N := 5) IXh (List.mem_of_getElem? (i := 4) rfl) (by decide) (by decide) (by decide) ⟨Nat.le_of_ble_eq_true rfl, Nat.le_of_ble_eq_true rfl⟩ dX3_init_20 (fun q20 => ?_)
  refine gi_putF (v := (Value.ref q20)) (kf := 5) IXh [(h0, .inr (3, [.int 0, .int 0, .int 0, .ref q6, .ref q13, .ref q20, .null, .int 0, .int 0, .null, .null, .null, .int 0, .int 0, .null, .null, .null, .null, .null, .null, .null])), (q6, .inl (cI C, 5, .inl (fun _ => 0))), (q13, .inl (cI C, 5, .inl (fun _ => 0))), (q20, .inl (cI C, 5, .inl (fun _ => 0)))] rfl rfl infX3_init_X3 tyX3_ok nmX3 (by decide) (by decide +kernel) rfl rfl rfl rfl (Nat.le_of_ble_eq_true rfl) dX3_init_22 rfl ?_
  refine gi_aload IXh dX3_init_25 ?_
  refine gi_iconst (v := (5 : Int32)) IXh dX3_init_26 (by decide) ?_
  refine gi_newI (N := 5) IXh (List.mem_of_getElem? (i := 4) rfl) (by decide) (by decide) (by decide) ⟨Nat.le_of_ble_eq_true rfl, Nat.le_of_ble_eq_true rfl⟩ dX3_init_27 (fun q27 => ?_)
  refine gi_putF (v := (Value.ref q27)) (kf := 6) IXh [(h0, .inr (3, [.int 0, .int 0, .int 0, .ref q6, .ref q13, .ref q20, .ref q27, .int 0, .int 0, .null, .null, .null, .int 0, .int 0, .null, .null, .null, .null, .null, .null, .null])), (q6, .inl (cI C, 5, .inl (fun _ => 0))), (q13, .inl (cI C, 5, .inl (fun _ => 0))), (q20, .inl (cI C, 5, .inl (fun _ => 0))), (q27, .inl (cI C, 5, .inl (fun _ => 0)))] rfl rfl infX3_init_X3 tyX3_ok nmX3 (by decide) (by decide +kernel) rfl rfl rfl rfl (Nat.le_of_ble_eq_true rfl) dX3_init_29 rfl ?_
  refine gi_aload IXh dX3_init_32 ?_
  refine gi_bipush (v := (25 : Int32)) IXh dX3_init_33 (by decide) ?_
  refine gi_newI (N := 25) IXh (List.mem_of_getElem? (i := 4) rfl) (by decide) (by decide) (by decide) ⟨Nat.le_of_ble_eq_true rfl, Nat.le_of_ble_eq_true rfl⟩ dX3_init_35 (fun q35 => ?_)
  refine gi_dup IXh dX3_init_37 rfl ?_
  refine gi_iconst (v := (0 : Int32)) IXh dX3_init_38 (by decide) ?_
  refine gi_iconst (v := (-1 : Int32)) IXh dX3_init_39 (by decide) ?_
  refine gi_iast (k := 0) IXh 5 (fun g => [(h0, .inr (3, [.int 0, .int 0, .int 0, .ref q6, .ref q13, .ref q20, .ref q27, .int 0, .int 0, .null, .null, .null, .int 0, .int 0, .null, .null, .null, .null, .null, .null, .null])), (q6, .inl (cI C, 5, .inl (fun _ => 0))), (q13, .inl (cI C, 5, .inl (fun _ => 0))), (q20, .inl (cI C, 5, .inl (fun _ => 0))), (q27, .inl (cI C, 5, .inl (fun _ => 0))), (q35, .inl (cI C, 25, .inl g))]) rfl rfl (by decide) (by decide) dX3_init_40 (fun _ => rfl) (fun g40 e40 => ?_)
  have m40 : ∀ w, w < 1 → g40 w = -1 := m1_step e40 (fun w h => absurd h (by omega))
  refine gi_dup IXh dX3_init_41 rfl ?_
  refine gi_iconst (v := (1 : Int32)) IXh dX3_init_42 (by decide) ?_
  refine gi_iconst (v := (-1 : Int32)) IXh dX3_init_43 (by decide) ?_
  refine gi_iast (k := 1) IXh 5 (fun g => [(h0, .inr (3, [.int 0, .int 0, .int 0, .ref q6, .ref q13, .ref q20, .ref q27, .int 0, .int 0, .null, .null, .null, .int 0, .int 0, .null, .null, .null, .null, .null, .null, .null])), (q6, .inl (cI C, 5, .inl (fun _ => 0))), (q13, .inl (cI C, 5, .inl (fun _ => 0))), (q20, .inl (cI C, 5, .inl (fun _ => 0))), (q27, .inl (cI C, 5, .inl (fun _ => 0))), (q35, .inl (cI C, 25, .inl g))]) rfl rfl (by decide) (by decide) dX3_init_44 (fun _ => rfl) (fun g44 e44 => ?_)
  have m44 : ∀ w, w < 2 → g44 w = -1 := m1_step e44 m40
  refine gi_dup IXh dX3_init_45 rfl ?_
  refine gi_iconst (v := (2 : Int32)) IXh dX3_init_46 (by decide) ?_
  refine gi_iconst (v := (-1 : Int32)) IXh dX3_init_47 (by decide) ?_
  refine gi_iast (k := 2) IXh 5 (fun g => [(h0, .inr (3, [.int 0, .int 0, .int 0, .ref q6, .ref q13, .ref q20, .ref q27, .int 0, .int 0, .null, .null, .null, .int 0, .int 0, .null, .null, .null, .null, .null, .null, .null])), (q6, .inl (cI C, 5, .inl (fun _ => 0))), (q13, .inl (cI C, 5, .inl (fun _ => 0))), (q20, .inl (cI C, 5, .inl (fun _ => 0))), (q27, .inl (cI C, 5, .inl (fun _ => 0))), (q35, .inl (cI C, 25, .inl g))]) rfl rfl (by decide) (by decide) dX3_init_48 (fun _ => rfl) (fun g48 e48 => ?_)
  have m48 : ∀ w, w < 3 → g48 w = -1 := m1_step e48 m44
  refine gi_dup IXh dX3_init_49 rfl ?_
  refine gi_iconst (v := (3 : Int32)) IXh dX3_init_50 (by decide) ?_
  refine gi_iconst (v := (-1 : Int32)) IXh dX3_init_51 (by decide) ?_
  refine gi_iast (k := 3) IXh 5 (fun g => [(h0, .inr (3, [.int 0, .int 0, .int 0, .ref q6, .ref q13, .ref q20, .ref q27, .int 0, .int 0, .null, .null, .null, .int 0, .int 0, .null, .null, .null, .null, .null, .null, .null])), (q6, .inl (cI C, 5, .inl (fun _ => 0))), (q13, .inl (cI C, 5, .inl (fun _ => 0))), (q20, .inl (cI C, 5, .inl (fun _ => 0))), (q27, .inl (cI C, 5, .inl (fun _ => 0))), (q35, .inl (cI C, 25, .inl g))]) rfl rfl (by decide) (by decide) dX3_init_52 (fun _ => rfl) (fun g52 e52 => ?_)
  have m52 : ∀ w, w < 4 → g52 w = -1 := m1_step e52 m48
  refine gi_dup IXh dX3_init_53 rfl ?_
  refine gi_iconst (v := (4 : Int32)) IXh dX3_init_54 (by decide) ?_
  refine gi_iconst (v := (-1 : Int32)) IXh dX3_init_55 (by decide) ?_
  refine gi_iast (k := 4) IXh 5 (fun g => [(h0, .inr (3, [.int 0, .int 0, .int 0, .ref q6, .ref q13, .ref q20, .ref q27, .int 0, .int 0, .null, .null, .null, .int 0, .int 0, .null, .null, .null, .null, .null, .null, .null])), (q6, .inl (cI C, 5, .inl (fun _ => 0))), (q13, .inl (cI C, 5, .inl (fun _ => 0))), (q20, .inl (cI C, 5, .inl (fun _ => 0))), (q27, .inl (cI C, 5, .inl (fun _ => 0))), (q35, .inl (cI C, 25, .inl g))]) rfl rfl (by decide) (by decide) dX3_init_56 (fun _ => rfl) (fun g56 e56 => ?_)
  have m56 : ∀ w, w < 5 → g56 w = -1 := m1_step e56 m52
  refine gi_dup IXh dX3_init_57 rfl ?_
  refine gi_iconst (v := (5 : Int32)) IXh dX3_init_58 (by decide) ?_
  refine gi_iconst (v := (-1 : Int32)) IXh dX3_init_59 (by decide) ?_
  refine gi_iast (k := 5) IXh 5 (fun g => [(h0, .inr (3, [.int 0, .int 0, .int 0, .ref q6, .ref q13, .ref q20, .ref q27, .int 0, .int 0, .null, .null, .null, .int 0, .int 0, .null, .null, .null, .null, .null, .null, .null])), (q6, .inl (cI C, 5, .inl (fun _ => 0))), (q13, .inl (cI C, 5, .inl (fun _ => 0))), (q20, .inl (cI C, 5, .inl (fun _ => 0))), (q27, .inl (cI C, 5, .inl (fun _ => 0))), (q35, .inl (cI C, 25, .inl g))]) rfl rfl (by decide) (by decide) dX3_init_60 (fun _ => rfl) (fun g60 e60 => ?_)
  have m60 : ∀ w, w < 6 → g60 w = -1 := m1_step e60 m56
  refine gi_dup IXh dX3_init_61 rfl ?_
  refine gi_bipush (v := (6 : Int32)) IXh dX3_init_62 (by decide) ?_
  refine gi_iconst (v := (-1 : Int32)) IXh dX3_init_64 (by decide) ?_
  refine gi_iast (k := 6) IXh 5 (fun g => [(h0, .inr (3, [.int 0, .int 0, .int 0, .ref q6, .ref q13, .ref q20, .ref q27, .int 0, .int 0, .null, .null, .null, .int 0, .int 0, .null, .null, .null, .null, .null, .null, .null])), (q6, .inl (cI C, 5, .inl (fun _ => 0))), (q13, .inl (cI C, 5, .inl (fun _ => 0))), (q20, .inl (cI C, 5, .inl (fun _ => 0))), (q27, .inl (cI C, 5, .inl (fun _ => 0))), (q35, .inl (cI C, 25, .inl g))]) rfl rfl (by decide) (by decide) dX3_init_65 (fun _ => rfl) (fun g65 e65 => ?_)
  have m65 : ∀ w, w < 7 → g65 w = -1 := m1_step e65 m60
  refine gi_dup IXh dX3_init_66 rfl ?_
  refine gi_bipush (v := (7 : Int32)) IXh dX3_init_67 (by decide) ?_
  refine gi_iconst (v := (-1 : Int32)) IXh dX3_init_69 (by decide) ?_
  refine gi_iast (k := 7) IXh 5 (fun g => [(h0, .inr (3, [.int 0, .int 0, .int 0, .ref q6, .ref q13, .ref q20, .ref q27, .int 0, .int 0, .null, .null, .null, .int 0, .int 0, .null, .null, .null, .null, .null, .null, .null])), (q6, .inl (cI C, 5, .inl (fun _ => 0))), (q13, .inl (cI C, 5, .inl (fun _ => 0))), (q20, .inl (cI C, 5, .inl (fun _ => 0))), (q27, .inl (cI C, 5, .inl (fun _ => 0))), (q35, .inl (cI C, 25, .inl g))]) rfl rfl (by decide) (by decide) dX3_init_70 (fun _ => rfl) (fun g70 e70 => ?_)
  have m70 : ∀ w, w < 8 → g70 w = -1 := m1_step e70 m65
  refine gi_dup IXh dX3_init_71 rfl ?_
  refine gi_bipush (v := (8 : Int32)) IXh dX3_init_72 (by decide) ?_
  refine gi_iconst (v := (-1 : Int32)) IXh dX3_init_74 (by decide) ?_
  refine gi_iast (k := 8) IXh 5 (fun g => [(h0, .inr (3, [.int 0, .int 0, .int 0, .ref q6, .ref q13, .ref q20, .ref q27, .int 0, .int 0, .null, .null, .null, .int 0, .int 0, .null, .null, .null, .null, .null, .null, .null])), (q6, .inl (cI C, 5, .inl (fun _ => 0))), (q13, .inl (cI C, 5, .inl (fun _ => 0))), (q20, .inl (cI C, 5, .inl (fun _ => 0))), (q27, .inl (cI C, 5, .inl (fun _ => 0))), (q35, .inl (cI C, 25, .inl g))]) rfl rfl (by decide) (by decide) dX3_init_75 (fun _ => rfl) (fun g75 e75 => ?_)
  have m75 : ∀ w, w < 9 → g75 w = -1 := m1_step e75 m70
  refine gi_dup IXh dX3_init_76 rfl ?_
  refine gi_bipush (v := (9 : Int32)) IXh dX3_init_77 (by decide) ?_
  refine gi_iconst (v := (-1 : Int32)) IXh dX3_init_79 (by decide) ?_
  refine gi_iast (k := 9) IXh 5 (fun g => [(h0, .inr (3, [.int 0, .int 0, .int 0, .ref q6, .ref q13, .ref q20, .ref q27, .int 0, .int 0, .null, .null, .null, .int 0, .int 0, .null, .null, .null, .null, .null, .null, .null])), (q6, .inl (cI C, 5, .inl (fun _ => 0))), (q13, .inl (cI C, 5, .inl (fun _ => 0))), (q20, .inl (cI C, 5, .inl (fun _ => 0))), (q27, .inl (cI C, 5, .inl (fun _ => 0))), (q35, .inl (cI C, 25, .inl g))]) rfl rfl (by decide) (by decide) dX3_init_80 (fun _ => rfl) (fun g80 e80 => ?_)
  have m80 : ∀ w, w < 10 → g80 w = -1 := m1_step e80 m75
  refine gi_dup IXh dX3_init_81 rfl ?_
  refine gi_bipush (v := (10 : Int32)) IXh dX3_init_82 (by decide) ?_
  refine gi_iconst (v := (-1 : Int32)) IXh dX3_init_84 (by decide) ?_
  refine gi_iast (k := 10) IXh 5 (fun g => [(h0, .inr (3, [.int 0, .int 0, .int 0, .ref q6, .ref q13, .ref q20, .ref q27, .int 0, .int 0, .null, .null, .null, .int 0, .int 0, .null, .null, .null, .null, .null, .null, .null])), (q6, .inl (cI C, 5, .inl (fun _ => 0))), (q13, .inl (cI C, 5, .inl (fun _ => 0))), (q20, .inl (cI C, 5, .inl (fun _ => 0))), (q27, .inl (cI C, 5, .inl (fun _ => 0))), (q35, .inl (cI C, 25, .inl g))]) rfl rfl (by decide) (by decide) dX3_init_85 (fun _ => rfl) (fun g85 e85 => ?_)
  have m85 : ∀ w, w < 11 → g85 w = -1 := m1_step e85 m80
  refine gi_dup IXh dX3_init_86 rfl ?_
  refine gi_bipush (v := (11 : Int32)) IXh dX3_init_87 (by decide) ?_
  refine gi_iconst (v := (-1 : Int32)) IXh dX3_init_89 (by decide) ?_
  refine gi_iast (k := 11) IXh 5 (fun g => [(h0, .inr (3, [.int 0, .int 0, .int 0, .ref q6, .ref q13, .ref q20, .ref q27, .int 0, .int 0, .null, .null, .null, .int 0, .int 0, .null, .null, .null, .null, .null, .null, .null])), (q6, .inl (cI C, 5, .inl (fun _ => 0))), (q13, .inl (cI C, 5, .inl (fun _ => 0))), (q20, .inl (cI C, 5, .inl (fun _ => 0))), (q27, .inl (cI C, 5, .inl (fun _ => 0))), (q35, .inl (cI C, 25, .inl g))]) rfl rfl (by decide) (by decide) dX3_init_90 (fun _ => rfl) (fun g90 e90 => ?_)
  have m90 : ∀ w, w < 12 → g90 w = -1 := m1_step e90 m85
  refine gi_dup IXh dX3_init_91 rfl ?_
  refine gi_bipush (v := (12 : Int32)) IXh dX3_init_92 (by decide) ?_
  refine gi_iconst (v := (-1 : Int32)) IXh dX3_init_94 (by decide) ?_
  refine gi_iast (k := 12) IXh 5 (fun g => [(h0, .inr (3, [.int 0, .int 0, .int 0, .ref q6, .ref q13, .ref q20, .ref q27, .int 0, .int 0, .null, .null, .null, .int 0, .int 0, .null, .null, .null, .null, .null, .null, .null])), (q6, .inl (cI C, 5, .inl (fun _ => 0))), (q13, .inl (cI C, 5, .inl (fun _ => 0))), (q20, .inl (cI C, 5, .inl (fun _ => 0))), (q27, .inl (cI C, 5, .inl (fun _ => 0))), (q35, .inl (cI C, 25, .inl g))]) rfl rfl (by decide) (by decide) dX3_init_95 (fun _ => rfl) (fun g95 e95 => ?_)
  have m95 : ∀ w, w < 13 → g95 w = -1 := m1_step e95 m90
  refine gi_dup IXh dX3_init_96 rfl ?_
  refine gi_bipush (v := (13 : Int32)) IXh dX3_init_97 (by decide) ?_
  refine gi_iconst (v := (-1 : Int32)) IXh dX3_init_99 (by decide) ?_
  refine gi_iast (k := 13) IXh 5 (fun g => [(h0, .inr (3, [.int 0, .int 0, .int 0, .ref q6, .ref q13, .ref q20, .ref q27, .int 0, .int 0, .null, .null, .null, .int 0, .int 0, .null, .null, .null, .null, .null, .null, .null])), (q6, .inl (cI C, 5, .inl (fun _ => 0))), (q13, .inl (cI C, 5, .inl (fun _ => 0))), (q20, .inl (cI C, 5, .inl (fun _ => 0))), (q27, .inl (cI C, 5, .inl (fun _ => 0))), (q35, .inl (cI C, 25, .inl g))]) rfl rfl (by decide) (by decide) dX3_init_100 (fun _ => rfl) (fun g100 e100 => ?_)
  have m100 : ∀ w, w < 14 → g100 w = -1 := m1_step e100 m95
  refine gi_dup IXh dX3_init_101 rfl ?_
  refine gi_bipush (v := (14 : Int32)) IXh dX3_init_102 (by decide) ?_
  refine gi_iconst (v := (-1 : Int32)) IXh dX3_init_104 (by decide) ?_
  refine gi_iast (k := 14) IXh 5 (fun g => [(h0, .inr (3, [.int 0, .int 0, .int 0, .ref q6, .ref q13, .ref q20, .ref q27, .int 0, .int 0, .null, .null, .null, .int 0, .int 0, .null, .null, .null, .null, .null, .null, .null])), (q6, .inl (cI C, 5, .inl (fun _ => 0))), (q13, .inl (cI C, 5, .inl (fun _ => 0))), (q20, .inl (cI C, 5, .inl (fun _ => 0))), (q27, .inl (cI C, 5, .inl (fun _ => 0))), (q35, .inl (cI C, 25, .inl g))]) rfl rfl (by decide) (by decide) dX3_init_105 (fun _ => rfl) (fun g105 e105 => ?_)
  have m105 : ∀ w, w < 15 → g105 w = -1 := m1_step e105 m100
  refine gi_dup IXh dX3_init_106 rfl ?_
  refine gi_bipush (v := (15 : Int32)) IXh dX3_init_107 (by decide) ?_
  refine gi_iconst (v := (-1 : Int32)) IXh dX3_init_109 (by decide) ?_
  refine gi_iast (k := 15) IXh 5 (fun g => [(h0, .inr (3, [.int 0, .int 0, .int 0, .ref q6, .ref q13, .ref q20, .ref q27, .int 0, .int 0, .null, .null, .null, .int 0, .int 0, .null, .null, .null, .null, .null, .null, .null])), (q6, .inl (cI C, 5, .inl (fun _ => 0))), (q13, .inl (cI C, 5, .inl (fun _ => 0))), (q20, .inl (cI C, 5, .inl (fun _ => 0))), (q27, .inl (cI C, 5, .inl (fun _ => 0))), (q35, .inl (cI C, 25, .inl g))]) rfl rfl (by decide) (by decide) dX3_init_110 (fun _ => rfl) (fun g110 e110 => ?_)
  have m110 : ∀ w, w < 16 → g110 w = -1 := m1_step e110 m105
  refine gi_dup IXh dX3_init_111 rfl ?_
  refine gi_bipush (v := (16 : Int32)) IXh dX3_init_112 (by decide) ?_
  refine gi_iconst (v := (-1 : Int32)) IXh dX3_init_114 (by decide) ?_
  refine gi_iast (k := 16) IXh 5 (fun g => [(h0, .inr (3, [.int 0, .int 0, .int 0, .ref q6, .ref q13, .ref q20, .ref q27, .int 0, .int 0, .null, .null, .null, .int 0, .int 0, .null, .null, .null, .null, .null, .null, .null])), (q6, .inl (cI C, 5, .inl (fun _ => 0))), (q13, .inl (cI C, 5, .inl (fun _ => 0))), (q20, .inl (cI C, 5, .inl (fun _ => 0))), (q27, .inl (cI C, 5, .inl (fun _ => 0))), (q35, .inl (cI C, 25, .inl g))]) rfl rfl (by decide) (by decide) dX3_init_115 (fun _ => rfl) (fun g115 e115 => ?_)
  have m115 : ∀ w, w < 17 → g115 w = -1 := m1_step e115 m110
  refine gi_dup IXh dX3_init_116 rfl ?_
  refine gi_bipush (v := (17 : Int32)) IXh dX3_init_117 (by decide) ?_
  refine gi_iconst (v := (-1 : Int32)) IXh dX3_init_119 (by decide) ?_
  refine gi_iast (k := 17) IXh 5 (fun g => [(h0, .inr (3, [.int 0, .int 0, .int 0, .ref q6, .ref q13, .ref q20, .ref q27, .int 0, .int 0, .null, .null, .null, .int 0, .int 0, .null, .null, .null, .null, .null, .null, .null])), (q6, .inl (cI C, 5, .inl (fun _ => 0))), (q13, .inl (cI C, 5, .inl (fun _ => 0))), (q20, .inl (cI C, 5, .inl (fun _ => 0))), (q27, .inl (cI C, 5, .inl (fun _ => 0))), (q35, .inl (cI C, 25, .inl g))]) rfl rfl (by decide) (by decide) dX3_init_120 (fun _ => rfl) (fun g120 e120 => ?_)
  have m120 : ∀ w, w < 18 → g120 w = -1 := m1_step e120 m115
  refine gi_dup IXh dX3_init_121 rfl ?_
  refine gi_bipush (v := (18 : Int32)) IXh dX3_init_122 (by decide) ?_
  refine gi_iconst (v := (-1 : Int32)) IXh dX3_init_124 (by decide) ?_
  refine gi_iast (k := 18) IXh 5 (fun g => [(h0, .inr (3, [.int 0, .int 0, .int 0, .ref q6, .ref q13, .ref q20, .ref q27, .int 0, .int 0, .null, .null, .null, .int 0, .int 0, .null, .null, .null, .null, .null, .null, .null])), (q6, .inl (cI C, 5, .inl (fun _ => 0))), (q13, .inl (cI C, 5, .inl (fun _ => 0))), (q20, .inl (cI C, 5, .inl (fun _ => 0))), (q27, .inl (cI C, 5, .inl (fun _ => 0))), (q35, .inl (cI C, 25, .inl g))]) rfl rfl (by decide) (by decide) dX3_init_125 (fun _ => rfl) (fun g125 e125 => ?_)
  have m125 : ∀ w, w < 19 → g125 w = -1 := m1_step e125 m120
  refine gi_dup IXh dX3_init_126 rfl ?_
  refine gi_bipush (v := (19 : Int32)) IXh dX3_init_127 (by decide) ?_
  refine gi_iconst (v := (-1 : Int32)) IXh dX3_init_129 (by decide) ?_
  refine gi_iast (k := 19) IXh 5 (fun g => [(h0, .inr (3, [.int 0, .int 0, .int 0, .ref q6, .ref q13, .ref q20, .ref q27, .int 0, .int 0, .null, .null, .null, .int 0, .int 0, .null, .null, .null, .null, .null, .null, .null])), (q6, .inl (cI C, 5, .inl (fun _ => 0))), (q13, .inl (cI C, 5, .inl (fun _ => 0))), (q20, .inl (cI C, 5, .inl (fun _ => 0))), (q27, .inl (cI C, 5, .inl (fun _ => 0))), (q35, .inl (cI C, 25, .inl g))]) rfl rfl (by decide) (by decide) dX3_init_130 (fun _ => rfl) (fun g130 e130 => ?_)
  have m130 : ∀ w, w < 20 → g130 w = -1 := m1_step e130 m125
  refine gi_dup IXh dX3_init_131 rfl ?_
  refine gi_bipush (v := (20 : Int32)) IXh dX3_init_132 (by decide) ?_
  refine gi_iconst (v := (-1 : Int32)) IXh dX3_init_134 (by decide) ?_
  refine gi_iast (k := 20) IXh 5 (fun g => [(h0, .inr (3, [.int 0, .int 0, .int 0, .ref q6, .ref q13, .ref q20, .ref q27, .int 0, .int 0, .null, .null, .null, .int 0, .int 0, .null, .null, .null, .null, .null, .null, .null])), (q6, .inl (cI C, 5, .inl (fun _ => 0))), (q13, .inl (cI C, 5, .inl (fun _ => 0))), (q20, .inl (cI C, 5, .inl (fun _ => 0))), (q27, .inl (cI C, 5, .inl (fun _ => 0))), (q35, .inl (cI C, 25, .inl g))]) rfl rfl (by decide) (by decide) dX3_init_135 (fun _ => rfl) (fun g135 e135 => ?_)
  have m135 : ∀ w, w < 21 → g135 w = -1 := m1_step e135 m130
  refine gi_dup IXh dX3_init_136 rfl ?_
  refine gi_bipush (v := (21 : Int32)) IXh dX3_init_137 (by decide) ?_
  refine gi_iconst (v := (-1 : Int32)) IXh dX3_init_139 (by decide) ?_
  refine gi_iast (k := 21) IXh 5 (fun g => [(h0, .inr (3, [.int 0, .int 0, .int 0, .ref q6, .ref q13, .ref q20, .ref q27, .int 0, .int 0, .null, .null, .null, .int 0, .int 0, .null, .null, .null, .null, .null, .null, .null])), (q6, .inl (cI C, 5, .inl (fun _ => 0))), (q13, .inl (cI C, 5, .inl (fun _ => 0))), (q20, .inl (cI C, 5, .inl (fun _ => 0))), (q27, .inl (cI C, 5, .inl (fun _ => 0))), (q35, .inl (cI C, 25, .inl g))]) rfl rfl (by decide) (by decide) dX3_init_140 (fun _ => rfl) (fun g140 e140 => ?_)
  have m140 : ∀ w, w < 22 → g140 w = -1 := m1_step e140 m135
  refine gi_dup IXh dX3_init_141 rfl ?_
  refine gi_bipush (v := (22 : Int32)) IXh dX3_init_142 (by decide) ?_
  refine gi_iconst (v := (-1 : Int32)) IXh dX3_init_144 (by decide) ?_
  refine gi_iast (k := 22) IXh 5 (fun g => [(h0, .inr (3, [.int 0, .int 0, .int 0, .ref q6, .ref q13, .ref q20, .ref q27, .int 0, .int 0, .null, .null, .null, .int 0, .int 0, .null, .null, .null, .null, .null, .null, .null])), (q6, .inl (cI C, 5, .inl (fun _ => 0))), (q13, .inl (cI C, 5, .inl (fun _ => 0))), (q20, .inl (cI C, 5, .inl (fun _ => 0))), (q27, .inl (cI C, 5, .inl (fun _ => 0))), (q35, .inl (cI C, 25, .inl g))]) rfl rfl (by decide) (by decide) dX3_init_145 (fun _ => rfl) (fun g145 e145 => ?_)
  have m145 : ∀ w, w < 23 → g145 w = -1 := m1_step e145 m140
  refine gi_dup IXh dX3_init_146 rfl ?_
  refine gi_bipush (v := (23 : Int32)) IXh dX3_init_147 (by decide) ?_
  refine gi_iconst (v := (-1 : Int32)) IXh dX3_init_149 (by decide) ?_
  refine gi_iast (k := 23) IXh 5 (fun g => [(h0, .inr (3, [.int 0, .int 0, .int 0, .ref q6, .ref q13, .ref q20, .ref q27, .int 0, .int 0, .null, .null, .null, .int 0, .int 0, .null, .null, .null, .null, .null, .null, .null])), (q6, .inl (cI C, 5, .inl (fun _ => 0))), (q13, .inl (cI C, 5, .inl (fun _ => 0))), (q20, .inl (cI C, 5, .inl (fun _ => 0))), (q27, .inl (cI C, 5, .inl (fun _ => 0))), (q35, .inl (cI C, 25, .inl g))]) rfl rfl (by decide) (by decide) dX3_init_150 (fun _ => rfl) (fun g150 e150 => ?_)
  have m150 : ∀ w, w < 24 → g150 w = -1 := m1_step e150 m145
  refine gi_dup IXh dX3_init_151 rfl ?_
  refine gi_bipush (v := (24 : Int32)) IXh dX3_init_152 (by decide) ?_
  refine gi_iconst (v := (-1 : Int32)) IXh dX3_init_154 (by decide) ?_
  refine gi_iast (k := 24) IXh 5 (fun g => [(h0, .inr (3, [.int 0, .int 0, .int 0, .ref q6, .ref q13, .ref q20, .ref q27, .int 0, .int 0, .null, .null, .null, .int 0, .int 0, .null, .null, .null, .null, .null, .null, .null])), (q6, .inl (cI C, 5, .inl (fun _ => 0))), (q13, .inl (cI C, 5, .inl (fun _ => 0))), (q20, .inl (cI C, 5, .inl (fun _ => 0))), (q27, .inl (cI C, 5, .inl (fun _ => 0))), (q35, .inl (cI C, 25, .inl g))]) rfl rfl (by decide) (by decide) dX3_init_155 (fun _ => rfl) (fun g155 e155 => ?_)
  have m155 : ∀ w, w < 25 → g155 w = -1 := m1_step e155 m150
  refine gi_putF (v := (Value.ref q35)) (kf := 9) IXh [(h0, .inr (3, [.int 0, .int 0, .int 0, .ref q6, .ref q13, .ref q20, .ref q27, .int 0, .int 0, .ref q35, .null, .null, .int 0, .int 0, .null, .null, .null, .null, .null, .null, .null])), (q6, .inl (cI C, 5, .inl (fun _ => 0))), (q13, .inl (cI C, 5, .inl (fun _ => 0))), (q20, .inl (cI C, 5, .inl (fun _ => 0))), (q27, .inl (cI C, 5, .inl (fun _ => 0))), (q35, .inl (cI C, 25, .inl g155))] rfl rfl infX3_init_X3 tyX3_ok nmX3 (by decide) (by decide +kernel) rfl rfl rfl rfl (Nat.le_of_ble_eq_true rfl) dX3_init_156 rfl ?_
  refine gi_aload IXh dX3_init_159 ?_
  refine gi_bipush (v := (25 : Int32)) IXh dX3_init_160 (by decide) ?_
  refine gi_newI (N := 25) IXh (List.mem_of_getElem? (i := 4) rfl) (by decide) (by decide) (by decide) ⟨Nat.le_of_ble_eq_true rfl, Nat.le_of_ble_eq_true rfl⟩ dX3_init_162 (fun q162 => ?_)
  refine gi_dup IXh dX3_init_164 rfl ?_
  refine gi_iconst (v := (0 : Int32)) IXh dX3_init_165 (by decide) ?_
  refine gi_iconst (v := (-1 : Int32)) IXh dX3_init_166 (by decide) ?_
  refine gi_iast (k := 0) IXh 6 (fun g => [(h0, .inr (3, [.int 0, .int 0, .int 0, .ref q6, .ref q13, .ref q20, .ref q27, .int 0, .int 0, .ref q35, .null, .null, .int 0, .int 0, .null, .null, .null, .null, .null, .null, .null])), (q6, .inl (cI C, 5, .inl (fun _ => 0))), (q13, .inl (cI C, 5, .inl (fun _ => 0))), (q20, .inl (cI C, 5, .inl (fun _ => 0))), (q27, .inl (cI C, 5, .inl (fun _ => 0))), (q35, .inl (cI C, 25, .inl g155)), (q162, .inl (cI C, 25, .inl g))]) rfl rfl (by decide) (by decide) dX3_init_167 (fun _ => rfl) (fun g167 e167 => ?_)
  have m167 : ∀ w, w < 1 → g167 w = -1 := m1_step e167 (fun w h => absurd h (by omega))
  refine gi_dup IXh dX3_init_168 rfl ?_
  refine gi_iconst (v := (1 : Int32)) IXh dX3_init_169 (by decide) ?_
  refine gi_iconst (v := (-1 : Int32)) IXh dX3_init_170 (by decide) ?_
  refine gi_iast (k := 1) IXh 6 (fun g => [(h0, .inr (3, [.int 0, .int 0, .int 0, .ref q6, .ref q13, .ref q20, .ref q27, .int 0, .int 0, .ref q35, .null, .null, .int 0, .int 0, .null, .null, .null, .null, .null, .null, .null])), (q6, .inl (cI C, 5, .inl (fun _ => 0))), (q13, .inl (cI C, 5, .inl (fun _ => 0))), (q20, .inl (cI C, 5, .inl (fun _ => 0))), (q27, .inl (cI C, 5, .inl (fun _ => 0))), (q35, .inl (cI C, 25, .inl g155)), (q162, .inl (cI C, 25, .inl g))]) rfl rfl (by decide) (by decide) dX3_init_171 (fun _ => rfl) (fun g171 e171 => ?_)
  have m171 : ∀ w, w < 2 → g171 w = -1 := m1_step e171 m167
  refine gi_dup IXh dX3_init_172 rfl ?_
  refine gi_iconst (v := (2 : Int32)) IXh dX3_init_173 (by decide) ?_
  refine gi_iconst (v := (-1 : Int32)) IXh dX3_init_174 (by decide) ?_
  refine gi_iast (k := 2) IXh 6 (fun g => [(h0, .inr (3, [.int 0, .int 0, .int 0, .ref q6, .ref q13, .ref q20, .ref q27, .int 0, .int 0, .ref q35, .null, .null, .int 0, .int 0, .null, .null, .null, .null, .null, .null, .null])), (q6, .inl (cI C, 5, .inl (fun _ => 0))), (q13, .inl (cI C, 5, .inl (fun _ => 0))), (q20, .inl (cI C, 5, .inl (fun _ => 0))), (q27, .inl (cI C, 5, .inl (fun _ => 0))), (q35, .inl (cI C, 25, .inl g155)), (q162, .inl (cI C, 25, .inl g))]) rfl rfl (by decide) (by decide) dX3_init_175 (fun _ => rfl) (fun g175 e175 => ?_)
  have m175 : ∀ w, w < 3 → g175 w = -1 := m1_step e175 m171
  refine gi_dup IXh dX3_init_176 rfl ?_
  refine gi_iconst (v := (3 : Int32)) IXh dX3_init_177 (by decide) ?_
  refine gi_iconst (v := (-1 : Int32)) IXh dX3_init_178 (by decide) ?_
  refine gi_iast (k := 3) IXh 6 (fun g => [(h0, .inr (3, [.int 0, .int 0, .int 0, .ref q6, .ref q13, .ref q20, .ref q27, .int 0, .int 0, .ref q35, .null, .null, .int 0, .int 0, .null, .null, .null, .null, .null, .null, .null])), (q6, .inl (cI C, 5, .inl (fun _ => 0))), (q13, .inl (cI C, 5, .inl (fun _ => 0))), (q20, .inl (cI C, 5, .inl (fun _ => 0))), (q27, .inl (cI C, 5, .inl (fun _ => 0))), (q35, .inl (cI C, 25, .inl g155)), (q162, .inl (cI C, 25, .inl g))]) rfl rfl (by decide) (by decide) dX3_init_179 (fun _ => rfl) (fun g179 e179 => ?_)
  have m179 : ∀ w, w < 4 → g179 w = -1 := m1_step e179 m175
  refine gi_dup IXh dX3_init_180 rfl ?_
  refine gi_iconst (v := (4 : Int32)) IXh dX3_init_181 (by decide) ?_
  refine gi_iconst (v := (-1 : Int32)) IXh dX3_init_182 (by decide) ?_
  refine gi_iast (k := 4) IXh 6 (fun g => [(h0, .inr (3, [.int 0, .int 0, .int 0, .ref q6, .ref q13, .ref q20, .ref q27, .int 0, .int 0, .ref q35, .null, .null, .int 0, .int 0, .null, .null, .null, .null, .null, .null, .null])), (q6, .inl (cI C, 5, .inl (fun _ => 0))), (q13, .inl (cI C, 5, .inl (fun _ => 0))), (q20, .inl (cI C, 5, .inl (fun _ => 0))), (q27, .inl (cI C, 5, .inl (fun _ => 0))), (q35, .inl (cI C, 25, .inl g155)), (q162, .inl (cI C, 25, .inl g))]) rfl rfl (by decide) (by decide) dX3_init_183 (fun _ => rfl) (fun g183 e183 => ?_)
  have m183 : ∀ w, w < 5 → g183 w = -1 := m1_step e183 m179
  refine gi_dup IXh dX3_init_184 rfl ?_
  refine gi_iconst (v := (5 : Int32)) IXh dX3_init_185 (by decide) ?_
  refine gi_iconst (v := (-1 : Int32)) IXh dX3_init_186 (by decide) ?_
  refine gi_iast (k := 5) IXh 6 (fun g => [(h0, .inr (3, [.int 0, .int 0, .int 0, .ref q6, .ref q13, .ref q20, .ref q27, .int 0, .int 0, .ref q35, .null, .null, .int 0, .int 0, .null, .null, .null, .null, .null, .null, .null])), (q6, .inl (cI C, 5, .inl (fun _ => 0))), (q13, .inl (cI C, 5, .inl (fun _ => 0))), (q20, .inl (cI C, 5, .inl (fun _ => 0))), (q27, .inl (cI C, 5, .inl (fun _ => 0))), (q35, .inl (cI C, 25, .inl g155)), (q162, .inl (cI C, 25, .inl g))]) rfl rfl (by decide) (by decide) dX3_init_187 (fun _ => rfl) (fun g187 e187 => ?_)
  have m187 : ∀ w, w < 6 → g187 w = -1 := m1_step e187 m183
  refine gi_dup IXh dX3_init_188 rfl ?_
  refine gi_bipush (v := (6 : Int32)) IXh dX3_init_189 (by decide) ?_
  refine gi_iconst (v := (-1 : Int32)) IXh dX3_init_191 (by decide) ?_
  refine gi_iast (k := 6) IXh 6 (fun g => [(h0, .inr (3, [.int 0, .int 0, .int 0, .ref q6, .ref q13, .ref q20, .ref q27, .int 0, .int 0, .ref q35, .null, .null, .int 0, .int 0, .null, .null, .null, .null, .null, .null, .null])), (q6, .inl (cI C, 5, .inl (fun _ => 0))), (q13, .inl (cI C, 5, .inl (fun _ => 0))), (q20, .inl (cI C, 5, .inl (fun _ => 0))), (q27, .inl (cI C, 5, .inl (fun _ => 0))), (q35, .inl (cI C, 25, .inl g155)), (q162, .inl (cI C, 25, .inl g))]) rfl rfl (by decide) (by decide) dX3_init_192 (fun _ => rfl) (fun g192 e192 => ?_)
  have m192 : ∀ w, w < 7 → g192 w = -1 := m1_step e192 m187
  refine gi_dup IXh dX3_init_193 rfl ?_
  refine gi_bipush (v := (7 : Int32)) IXh dX3_init_194 (by decide) ?_
  refine gi_iconst (v := (-1 : Int32)) IXh dX3_init_196 (by decide) ?_
  refine gi_iast (k := 7) IXh 6 (fun g => [(h0, .inr (3, [.int 0, .int 0, .int 0, .ref q6, .ref q13, .ref q20, .ref q27, .int 0, .int 0, .ref q35, .null, .null, .int 0, .int 0, .null, .null, .null, .null, .null, .null, .null])), (q6, .inl (cI C, 5, .inl (fun _ => 0))), (q13, .inl (cI C, 5, .inl (fun _ => 0))), (q20, .inl (cI C, 5, .inl (fun _ => 0))), (q27, .inl (cI C, 5, .inl (fun _ => 0))), (q35, .inl (cI C, 25, .inl g155)), (q162, .inl (cI C, 25, .inl g))]) rfl rfl (by decide) (by decide) dX3_init_197 (fun _ => rfl) (fun g197 e197 => ?_)
  have m197 : ∀ w, w < 8 → g197 w = -1 := m1_step e197 m192
  refine gi_dup IXh dX3_init_198 rfl ?_
  refine gi_bipush (v := (8 : Int32)) IXh dX3_init_199 (by decide) ?_
  refine gi_iconst (v := (-1 : Int32)) IXh dX3_init_201 (by decide) ?_
  refine gi_iast (k := 8) IXh 6 (fun g => [(h0, .inr (3, [.int 0, .int 0, .int 0, .ref q6, .ref q13, .ref q20, .ref q27, .int 0, .int 0, .ref q35, .null, .null, .int 0, .int 0, .null, .null, .null, .null, .null, .null, .null])), (q6, .inl (cI C, 5, .inl (fun _ => 0))), (q13, .inl (cI C, 5, .inl (fun _ => 0))), (q20, .inl (cI C, 5, .inl (fun _ => 0))), (q27, .inl (cI C, 5, .inl (fun _ => 0))), (q35, .inl (cI C, 25, .inl g155)), (q162, .inl (cI C, 25, .inl g))]) rfl rfl (by decide) (by decide) dX3_init_202 (fun _ => rfl) (fun g202 e202 => ?_)
  have m202 : ∀ w, w < 9 → g202 w = -1 := m1_step e202 m197
  refine gi_dup IXh dX3_init_203 rfl ?_
  refine gi_bipush (v := (9 : Int32)) IXh dX3_init_204 (by decide) ?_
  refine gi_iconst (v := (-1 : Int32)) IXh dX3_init_206 (by decide) ?_
  refine gi_iast (k := 9) IXh 6 (fun g => [(h0, .inr (3, [.int 0, .int 0, .int 0, .ref q6, .ref q13, .ref q20, .ref q27, .int 0, .int 0, .ref q35, .null, .null, .int 0, .int 0, .null, .null, .null, .null, .null, .null, .null])), (q6, .inl (cI C, 5, .inl (fun _ => 0))), (q13, .inl (cI C, 5, .inl (fun _ => 0))), (q20, .inl (cI C, 5, .inl (fun _ => 0))), (q27, .inl (cI C, 5, .inl (fun _ => 0))), (q35, .inl (cI C, 25, .inl g155)), (q162, .inl (cI C, 25, .inl g))]) rfl rfl (by decide) (by decide) dX3_init_207 (fun _ => rfl) (fun g207 e207 => ?_)
  have m207 : ∀ w, w < 10 → g207 w = -1 := m1_step e207 m202
  refine gi_dup IXh dX3_init_208 rfl ?_
  refine gi_bipush (v := (10 : Int32)) IXh dX3_init_209 (by decide) ?_
  refine gi_iconst (v := (-1 : Int32)) IXh dX3_init_211 (by decide) ?_
  refine gi_iast (k := 10) IXh 6 (fun g => [(h0, .inr (3, [.int 0, .int 0, .int 0, .ref q6, .ref q13, .ref q20, .ref q27, .int 0, .int 0, .ref q35, .null, .null, .int 0, .int 0, .null, .null, .null, .null, .null, .null, .null])), (q6, .inl (cI C, 5, .inl (fun _ => 0))), (q13, .inl (cI C, 5, .inl (fun _ => 0))), (q20, .inl (cI C, 5, .inl (fun _ => 0))), (q27, .inl (cI C, 5, .inl (fun _ => 0))), (q35, .inl (cI C, 25, .inl g155)), (q162, .inl (cI C, 25, .inl g))]) rfl rfl (by decide) (by decide) dX3_init_212 (fun _ => rfl) (fun g212 e212 => ?_)
  have m212 : ∀ w, w < 11 → g212 w = -1 := m1_step e212 m207
  refine gi_dup IXh dX3_init_213 rfl ?_
  refine gi_bipush (v := (11 : Int32)) IXh dX3_init_214 (by decide) ?_
  refine gi_iconst (v := (-1 : Int32)) IXh dX3_init_216 (by decide) ?_
  refine gi_iast (k := 11) IXh 6 (fun g => [(h0, .inr (3, [.int 0, .int 0, .int 0, .ref q6, .ref q13, .ref q20, .ref q27, .int 0, .int 0, .ref q35, .null, .null, .int 0, .int 0, .null, .null, .null, .null, .null, .null, .null])), (q6, .inl (cI C, 5, .inl (fun _ => 0))), (q13, .inl (cI C, 5, .inl (fun _ => 0))), (q20, .inl (cI C, 5, .inl (fun _ => 0))), (q27, .inl (cI C, 5, .inl (fun _ => 0))), (q35, .inl (cI C, 25, .inl g155)), (q162, .inl (cI C, 25, .inl g))]) rfl rfl (by decide) (by decide) dX3_init_217 (fun _ => rfl) (fun g217 e217 => ?_)
  have m217 : ∀ w, w < 12 → g217 w = -1 := m1_step e217 m212
  refine gi_dup IXh dX3_init_218 rfl ?_
  refine gi_bipush (v := (12 : Int32)) IXh dX3_init_219 (by decide) ?_
  refine gi_iconst (v := (-1 : Int32)) IXh dX3_init_221 (by decide) ?_
  refine gi_iast (k := 12) IXh 6 (fun g => [(h0, .inr (3, [.int 0, .int 0, .int 0, .ref q6, .ref q13, .ref q20, .ref q27, .int 0, .int 0, .ref q35, .null, .null, .int 0, .int 0, .null, .null, .null, .null, .null, .null, .null])), (q6, .inl (cI C, 5, .inl (fun _ => 0))), (q13, .inl (cI C, 5, .inl (fun _ => 0))), (q20, .inl (cI C, 5, .inl (fun _ => 0))), (q27, .inl (cI C, 5, .inl (fun _ => 0))), (q35, .inl (cI C, 25, .inl g155)), (q162, .inl (cI C, 25, .inl g))]) rfl rfl (by decide) (by decide) dX3_init_222 (fun _ => rfl) (fun g222 e222 => ?_)
  have m222 : ∀ w, w < 13 → g222 w = -1 := m1_step e222 m217
  refine gi_dup IXh dX3_init_223 rfl ?_
  refine gi_bipush (v := (13 : Int32)) IXh dX3_init_224 (by decide) ?_
  refine gi_iconst (v := (-1 : Int32)) IXh dX3_init_226 (by decide) ?_
  refine gi_iast (k := 13) IXh 6 (fun g => [(h0, .inr (3, [.int 0, .int 0, .int 0, .ref q6, .ref q13, .ref q20, .ref q27, .int 0, .int 0, .ref q35, .null, .null, .int 0, .int 0, .null, .null, .null, .null, .null, .null, .null])), (q6, .inl (cI C, 5, .inl (fun _ => 0))), (q13, .inl (cI C, 5, .inl (fun _ => 0))), (q20, .inl (cI C, 5, .inl (fun _ => 0))), (q27, .inl (cI C, 5, .inl (fun _ => 0))), (q35, .inl (cI C, 25, .inl g155)), (q162, .inl (cI C, 25, .inl g))]) rfl rfl (by decide) (by decide) dX3_init_227 (fun _ => rfl) (fun g227 e227 => ?_)
  have m227 : ∀ w, w < 14 → g227 w = -1 := m1_step e227 m222
  refine gi_dup IXh dX3_init_228 rfl ?_
  refine gi_bipush (v := (14 : Int32)) IXh dX3_init_229 (by decide) ?_
  refine gi_iconst (v := (-1 : Int32)) IXh dX3_init_231 (by decide) ?_
  refine gi_iast (k := 14) IXh 6 (fun g => [(h0, .inr (3, [.int 0, .int 0, .int 0, .ref q6, .ref q13, .ref q20, .ref q27, .int 0, .int 0, .ref q35, .null, .null, .int 0, .int 0, .null, .null, .null, .null, .null, .null, .null])), (q6, .inl (cI C, 5, .inl (fun _ => 0))), (q13, .inl (cI C, 5, .inl (fun _ => 0))), (q20, .inl (cI C, 5, .inl (fun _ => 0))), (q27, .inl (cI C, 5, .inl (fun _ => 0))), (q35, .inl (cI C, 25, .inl g155)), (q162, .inl (cI C, 25, .inl g))]) rfl rfl (by decide) (by decide) dX3_init_232 (fun _ => rfl) (fun g232 e232 => ?_)
  have m232 : ∀ w, w < 15 → g232 w = -1 := m1_step e232 m227
  refine gi_dup IXh dX3_init_233 rfl ?_
  refine gi_bipush (v := (15 : Int32)) IXh dX3_init_234 (by decide) ?_
  refine gi_iconst (v := (-1 : Int32)) IXh dX3_init_236 (by decide) ?_
  refine gi_iast (k := 15) IXh 6 (fun g => [(h0, .inr (3, [.int 0, .int 0, .int 0, .ref q6, .ref q13, .ref q20, .ref q27, .int 0, .int 0, .ref q35, .null, .null, .int 0, .int 0, .null, .null, .null, .null, .null, .null, .null])), (q6, .inl (cI C, 5, .inl (fun _ => 0))), (q13, .inl (cI C, 5, .inl (fun _ => 0))), (q20, .inl (cI C, 5, .inl (fun _ => 0))), (q27, .inl (cI C, 5, .inl (fun _ => 0))), (q35, .inl (cI C, 25, .inl g155)), (q162, .inl (cI C, 25, .inl g))]) rfl rfl (by decide) (by decide) dX3_init_237 (fun _ => rfl) (fun g237 e237 => ?_)
  have m237 : ∀ w, w < 16 → g237 w = -1 := m1_step e237 m232
  refine gi_dup IXh dX3_init_238 rfl ?_
  refine gi_bipush (v := (16 : Int32)) IXh dX3_init_239 (by decide) ?_
  refine gi_iconst (v := (-1 : Int32)) IXh dX3_init_241 (by decide) ?_
  refine gi_iast (k := 16) IXh 6 (fun g => [(h0, .inr (3, [.int 0, .int 0, .int 0, .ref q6, .ref q13, .ref q20, .ref q27, .int 0, .int 0, .ref q35, .null, .null, .int 0, .int 0, .null, .null, .null, .null, .null, .null, .null])), (q6, .inl (cI C, 5, .inl (fun _ => 0))), (q13, .inl (cI C, 5, .inl (fun _ => 0))), (q20, .inl (cI C, 5, .inl (fun _ => 0))), (q27, .inl (cI C, 5, .inl (fun _ => 0))), (q35, .inl (cI C, 25, .inl g155)), (q162, .inl (cI C, 25, .inl g))]) rfl rfl (by decide) (by decide) dX3_init_242 (fun _ => rfl) (fun g242 e242 => ?_)
  have m242 : ∀ w, w < 17 → g242 w = -1 := m1_step e242 m237
  refine gi_dup IXh dX3_init_243 rfl ?_
  refine gi_bipush (v := (17 : Int32)) IXh dX3_init_244 (by decide) ?_
  refine gi_iconst (v := (-1 : Int32)) IXh dX3_init_246 (by decide) ?_
  refine gi_iast (k := 17) IXh 6 (fun g => [(h0, .inr (3, [.int 0, .int 0, .int 0, .ref q6, .ref q13, .ref q20, .ref q27, .int 0, .int 0, .ref q35, .null, .null, .int 0, .int 0, .null, .null, .null, .null, .null, .null, .null])), (q6, .inl (cI C, 5, .inl (fun _ => 0))), (q13, .inl (cI C, 5, .inl (fun _ => 0))), (q20, .inl (cI C, 5, .inl (fun _ => 0))), (q27, .inl (cI C, 5, .inl (fun _ => 0))), (q35, .inl (cI C, 25, .inl g155)), (q162, .inl (cI C, 25, .inl g))]) rfl rfl (by decide) (by decide) dX3_init_247 (fun _ => rfl) (fun g247 e247 => ?_)
  have m247 : ∀ w, w < 18 → g247 w = -1 := m1_step e247 m242
  refine gi_dup IXh dX3_init_248 rfl ?_
  refine gi_bipush (v := (18 : Int32)) IXh dX3_init_249 (by decide) ?_
  refine gi_iconst (v := (-1 : Int32)) IXh dX3_init_251 (by decide) ?_
  refine gi_iast (k := 18) IXh 6 (fun g => [(h0, .inr (3, [.int 0, .int 0, .int 0, .ref q6, .ref q13, .ref q20, .ref q27, .int 0, .int 0, .ref q35, .null, .null, .int 0, .int 0, .null, .null, .null, .null, .null, .null, .null])), (q6, .inl (cI C, 5, .inl (fun _ => 0))), (q13, .inl (cI C, 5, .inl (fun _ => 0))), (q20, .inl (cI C, 5, .inl (fun _ => 0))), (q27, .inl (cI C, 5, .inl (fun _ => 0))), (q35, .inl (cI C, 25, .inl g155)), (q162, .inl (cI C, 25, .inl g))]) rfl rfl (by decide) (by decide) dX3_init_252 (fun _ => rfl) (fun g252 e252 => ?_)
  have m252 : ∀ w, w < 19 → g252 w = -1 := m1_step e252 m247
  refine gi_dup IXh dX3_init_253 rfl ?_
  refine gi_bipush (v := (19 : Int32)) IXh dX3_init_254 (by decide) ?_
  refine gi_iconst (v := (-1 : Int32)) IXh dX3_init_256 (by decide) ?_
  refine gi_iast (k := 19) IXh 6 (fun g => [(h0, .inr (3, [.int 0, .int 0, .int 0, .ref q6, .ref q13, .ref q20, .ref q27, .int 0, .int 0, .ref q35, .null, .null, .int 0, .int 0, .null, .null, .null, .null, .null, .null, .null])), (q6, .inl (cI C, 5, .inl (fun _ => 0))), (q13, .inl (cI C, 5, .inl (fun _ => 0))), (q20, .inl (cI C, 5, .inl (fun _ => 0))), (q27, .inl (cI C, 5, .inl (fun _ => 0))), (q35, .inl (cI C, 25, .inl g155)), (q162, .inl (cI C, 25, .inl g))]) rfl rfl (by decide) (by decide) dX3_init_257 (fun _ => rfl) (fun g257 e257 => ?_)
  have m257 : ∀ w, w < 20 → g257 w = -1 := m1_step e257 m252
  refine gi_dup IXh dX3_init_258 rfl ?_
  refine gi_bipush (v := (20 : Int32)) IXh dX3_init_259 (by decide) ?_
  refine gi_iconst (v := (-1 : Int32)) IXh dX3_init_261 (by decide) ?_
  refine gi_iast (k := 20) IXh 6 (fun g => [(h0, .inr (3, [.int 0, .int 0, .int 0, .ref q6, .ref q13, .ref q20, .ref q27, .int 0, .int 0, .ref q35, .null, .null, .int 0, .int 0, .null, .null, .null, .null, .null, .null, .null])), (q6, .inl (cI C, 5, .inl (fun _ => 0))), (q13, .inl (cI C, 5, .inl (fun _ => 0))), (q20, .inl (cI C, 5, .inl (fun _ => 0))), (q27, .inl (cI C, 5, .inl (fun _ => 0))), (q35, .inl (cI C, 25, .inl g155)), (q162, .inl (cI C, 25, .inl g))]) rfl rfl (by decide) (by decide) dX3_init_262 (fun _ => rfl) (fun g262 e262 => ?_)
  have m262 : ∀ w, w < 21 → g262 w = -1 := m1_step e262 m257
  refine gi_dup IXh dX3_init_263 rfl ?_
  refine gi_bipush (v := (21 : Int32)) IXh dX3_init_264 (by decide) ?_
  refine gi_iconst (v := (-1 : Int32)) IXh dX3_init_266 (by decide) ?_
  refine gi_iast (k := 21) IXh 6 (fun g => [(h0, .inr (3, [.int 0, .int 0, .int 0, .ref q6, .ref q13, .ref q20, .ref q27, .int 0, .int 0, .ref q35, .null, .null, .int 0, .int 0, .null, .null, .null, .null, .null, .null, .null])), (q6, .inl (cI C, 5, .inl (fun _ => 0))), (q13, .inl (cI C, 5, .inl (fun _ => 0))), (q20, .inl (cI C, 5, .inl (fun _ => 0))), (q27, .inl (cI C, 5, .inl (fun _ => 0))), (q35, .inl (cI C, 25, .inl g155)), (q162, .inl (cI C, 25, .inl g))]) rfl rfl (by decide) (by decide) dX3_init_267 (fun _ => rfl) (fun g267 e267 => ?_)
  have m267 : ∀ w, w < 22 → g267 w = -1 := m1_step e267 m262
  refine gi_dup IXh dX3_init_268 rfl ?_
  refine gi_bipush (v := (22 : Int32)) IXh dX3_init_269 (by decide) ?_
  refine gi_iconst (v := (-1 : Int32)) IXh dX3_init_271 (by decide) ?_
  refine gi_iast (k := 22) IXh 6 (fun g => [(h0, .inr (3, [.int 0, .int 0, .int 0, .ref q6, .ref q13, .ref q20, .ref q27, .int 0, .int 0, .ref q35, .null, .null, .int 0, .int 0, .null, .null, .null, .null, .null, .null, .null])), (q6, .inl (cI C, 5, .inl (fun _ => 0))), (q13, .inl (cI C, 5, .inl (fun _ => 0))), (q20, .inl (cI C, 5, .inl (fun _ => 0))), (q27, .inl (cI C, 5, .inl (fun _ => 0))), (q35, .inl (cI C, 25, .inl g155)), (q162, .inl (cI C, 25, .inl g))]) rfl rfl (by decide) (by decide) dX3_init_272 (fun _ => rfl) (fun g272 e272 => ?_)
  have m272 : ∀ w, w < 23 → g272 w = -1 := m1_step e272 m267
  refine gi_dup IXh dX3_init_273 rfl ?_
  refine gi_bipush (v := (23 : Int32)) IXh dX3_init_274 (by decide) ?_
  refine gi_iconst (v := (-1 : Int32)) IXh dX3_init_276 (by decide) ?_
  refine gi_iast (k := 23) IXh 6 (fun g => [(h0, .inr (3, [.int 0, .int 0, .int 0, .ref q6, .ref q13, .ref q20, .ref q27, .int 0, .int 0, .ref q35, .null, .null, .int 0, .int 0, .null, .null, .null, .null, .null, .null, .null])), (q6, .inl (cI C, 5, .inl (fun _ => 0))), (q13, .inl (cI C, 5, .inl (fun _ => 0))), (q20, .inl (cI C, 5, .inl (fun _ => 0))), (q27, .inl (cI C, 5, .inl (fun _ => 0))), (q35, .inl (cI C, 25, .inl g155)), (q162, .inl (cI C, 25, .inl g))]) rfl rfl (by decide) (by decide) dX3_init_277 (fun _ => rfl) (fun g277 e277 => ?_)
  have m277 : ∀ w, w < 24 → g277 w = -1 := m1_step e277 m272
  refine gi_dup IXh dX3_init_278 rfl ?_
  refine gi_bipush (v := (24 : Int32)) IXh dX3_init_279 (by decide) ?_
  refine gi_iconst (v := (-1 : Int32)) IXh dX3_init_281 (by decide) ?_
  refine gi_iast (k := 24) IXh 6 (fun g => [(h0, .inr (3, [.int 0, .int 0, .int 0, .ref q6, .ref q13, .ref q20, .ref q27, .int 0, .int 0, .ref q35, .null, .null, .int 0, .int 0, .null, .null, .null, .null, .null, .null, .null])), (q6, .inl (cI C, 5, .inl (fun _ => 0))), (q13, .inl (cI C, 5, .inl (fun _ => 0))), (q20, .inl (cI C, 5, .inl (fun _ => 0))), (q27, .inl (cI C, 5, .inl (fun _ => 0))), (q35, .inl (cI C, 25, .inl g155)), (q162, .inl (cI C, 25, .inl g))]) rfl rfl (by decide) (by decide) dX3_init_282 (fun _ => rfl) (fun g282 e282 => ?_)
  have m282 : ∀ w, w < 25 → g282 w = -1 := m1_step e282 m277
  refine gi_putF (v := (Value.ref q162)) (kf := 10) IXh [(h0, .inr (3, [.int 0, .int 0, .int 0, .ref q6, .ref q13, .ref q20, .ref q27, .int 0, .int 0, .ref q35, .ref q162, .null, .int 0, .int 0, .null, .null, .null, .null, .null, .null, .null])), (q6, .inl (cI C, 5, .inl (fun _ => 0))), (q13, .inl (cI C, 5, .inl (fun _ => 0))), (q20, .inl (cI C, 5, .inl (fun _ => 0))), (q27, .inl (cI C, 5, .inl (fun _ => 0))), (q35, .inl (cI C, 25, .inl g155)), (q162, .inl (cI C, 25, .inl g282))] rfl rfl infX3_init_X3 tyX3_ok nmX3 (by decide) (by decide +kernel) rfl rfl rfl rfl (Nat.le_of_ble_eq_true rfl) dX3_init_283 rfl ?_
  refine gi_aload IXh dX3_init_286 ?_
  refine gi_bipush (v := (25 : Int32)) IXh dX3_init_287 (by decide) ?_
  refine gi_newI (N := 25) IXh (List.mem_of_getElem? (i := 4) rfl) (by decide) (by decide) (by decide) ⟨Nat.le_of_ble_eq_true rfl, Nat.le_of_ble_eq_true rfl⟩ dX3_init_289 (fun q289 => ?_)
  refine gi_putF (v := (Value.ref q289)) (kf := 11) IXh [(h0, .inr (3, [.int 0, .int 0, .int 0, .ref q6, .ref q13, .ref q20, .ref q27, .int 0, .int 0, .ref q35, .ref q162, .ref q289, .int 0, .int 0, .null, .null, .null, .null, .null, .null, .null])), (q6, .inl (cI C, 5, .inl (fun _ => 0))), (q13, .inl (cI C, 5, .inl (fun _ => 0))), (q20, .inl (cI C, 5, .inl (fun _ => 0))), (q27, .inl (cI C, 5, .inl (fun _ => 0))), (q35, .inl (cI C, 25, .inl g155)), (q162, .inl (cI C, 25, .inl g282)), (q289, .inl (cI C, 25, .inl (fun _ => 0)))] rfl rfl infX3_init_X3 tyX3_ok nmX3 (by decide) (by decide +kernel) rfl rfl rfl rfl (Nat.le_of_ble_eq_true rfl) dX3_init_291 rfl ?_
  refine gi_aload IXh dX3_init_294 ?_
  refine gi_sipush (v := (1000 : Int32)) IXh dX3_init_295 (by decide) ?_
  refine gi_put (v := (Value.int 1000)) (kf := 12) IXh [(h0, .inr (3, [.int 0, .int 0, .int 0, .ref q6, .ref q13, .ref q20, .ref q27, .int 0, .int 0, .ref q35, .ref q162, .ref q289, .int 1000, .int 0, .null, .null, .null, .null, .null, .null, .null])), (q6, .inl (cI C, 5, .inl (fun _ => 0))), (q13, .inl (cI C, 5, .inl (fun _ => 0))), (q20, .inl (cI C, 5, .inl (fun _ => 0))), (q27, .inl (cI C, 5, .inl (fun _ => 0))), (q35, .inl (cI C, 25, .inl g155)), (q162, .inl (cI C, 25, .inl g282)), (q289, .inl (cI C, 25, .inl (fun _ => 0)))] rfl rfl infX3_init_X3 tyX3_ok nmX3 (by decide) (by decide +kernel) rfl rfl rfl (Nat.le_of_ble_eq_true rfl) dX3_init_298 rfl ?_
  refine gi_aload IXh dX3_init_301 ?_
  refine gi_sipush (v := (1000 : Int32)) IXh dX3_init_302 (by decide) ?_
  refine gi_put (v := (Value.int 1000)) (kf := 13) IXh [(h0, .inr (3, [.int 0, .int 0, .int 0, .ref q6, .ref q13, .ref q20, .ref q27, .int 0, .int 0, .ref q35, .ref q162, .ref q289, .int 1000, .int 1000, .null, .null, .null, .null, .null, .null, .null])), (q6, .inl (cI C, 5, .inl (fun _ => 0))), (q13, .inl (cI C, 5, .inl (fun _ => 0))), (q20, .inl (cI C, 5, .inl (fun _ => 0))), (q27, .inl (cI C, 5, .inl (fun _ => 0))), (q35, .inl (cI C, 25, .inl g155)), (q162, .inl (cI C, 25, .inl g282)), (q289, .inl (cI C, 25, .inl (fun _ => 0)))] rfl rfl infX3_init_X3 tyX3_ok nmX3 (by decide) (by decide +kernel) rfl rfl rfl (Nat.le_of_ble_eq_true rfl) dX3_init_305 rfl ?_
  refine gi_aload IXh dX3_init_308 ?_
  refine gi_iconst (v := (5 : Int32)) IXh dX3_init_309 (by decide) ?_
  refine gi_newI (N := 5) IXh (List.mem_of_getElem? (i := 4) rfl) (by decide) (by decide) (by decide) ⟨Nat.le_of_ble_eq_true rfl, Nat.le_of_ble_eq_true rfl⟩ dX3_init_310 (fun q310 => ?_)
  refine gi_putF (v := (Value.ref q310)) (kf := 14) IXh [(h0, .inr (3, [.int 0, .int 0, .int 0, .ref q6, .ref q13, .ref q20, .ref q27, .int 0, .int 0, .ref q35, .ref q162, .ref q289, .int 1000, .int 1000, .ref q310, .null, .null, .null, .null, .null, .null])), (q6, .inl (cI C, 5, .inl (fun _ => 0))), (q13, .inl (cI C, 5, .inl (fun _ => 0))), (q20, .inl (cI C, 5, .inl (fun _ => 0))), (q27, .inl (cI C, 5, .inl (fun _ => 0))), (q35, .inl (cI C, 25, .inl g155)), (q162, .inl (cI C, 25, .inl g282)), (q289, .inl (cI C, 25, .inl (fun _ => 0))), (q310, .inl (cI C, 5, .inl (fun _ => 0)))] rfl rfl infX3_init_X3 tyX3_ok nmX3 (by decide) (by decide +kernel) rfl rfl rfl rfl (Nat.le_of_ble_eq_true rfl) dX3_init_312 rfl ?_
  refine gi_aload IXh dX3_init_315 ?_
  refine gi_iconst (v := (5 : Int32)) IXh dX3_init_316 (by decide) ?_
  refine gi_newI (N := 5) IXh (List.mem_of_getElem? (i := 4) rfl) (by decide) (by decide) (by decide) ⟨Nat.le_of_ble_eq_true rfl, Nat.le_of_ble_eq_true rfl⟩ dX3_init_317 (fun q317 => ?_)
  refine gi_putF (v := (Value.ref q317)) (kf := 15) IXh [(h0, .inr (3, [.int 0, .int 0, .int 0, .ref q6, .ref q13, .ref q20, .ref q27, .int 0, .int 0, .ref q35, .ref q162, .ref q289, .int 1000, .int 1000, .ref q310, .ref q317, .null, .null, .null, .null, .null])), (q6, .inl (cI C, 5, .inl (fun _ => 0))), (q13, .inl (cI C, 5, .inl (fun _ => 0))), (q20, .inl (cI C, 5, .inl (fun _ => 0))), (q27, .inl (cI C, 5, .inl (fun _ => 0))), (q35, .inl (cI C, 25, .inl g155)), (q162, .inl (cI C, 25, .inl g282)), (q289, .inl (cI C, 25, .inl (fun _ => 0))), (q310, .inl (cI C, 5, .inl (fun _ => 0))), (q317, .inl (cI C, 5, .inl (fun _ => 0)))] rfl rfl infX3_init_X3 tyX3_ok nmX3 (by decide) (by decide +kernel) rfl rfl rfl rfl (Nat.le_of_ble_eq_true rfl) dX3_init_319 rfl ?_
  refine gi_aload IXh dX3_init_322 ?_
  refine gi_bipush (v := (25 : Int32)) IXh dX3_init_323 (by decide) ?_
  refine gi_newI (N := 25) IXh (List.mem_of_getElem? (i := 4) rfl) (by decide) (by decide) (by decide) ⟨Nat.le_of_ble_eq_true rfl, Nat.le_of_ble_eq_true rfl⟩ dX3_init_325 (fun q325 => ?_)
  refine gi_putF (v := (Value.ref q325)) (kf := 16) IXh [(h0, .inr (3, [.int 0, .int 0, .int 0, .ref q6, .ref q13, .ref q20, .ref q27, .int 0, .int 0, .ref q35, .ref q162, .ref q289, .int 1000, .int 1000, .ref q310, .ref q317, .ref q325, .null, .null, .null, .null])), (q6, .inl (cI C, 5, .inl (fun _ => 0))), (q13, .inl (cI C, 5, .inl (fun _ => 0))), (q20, .inl (cI C, 5, .inl (fun _ => 0))), (q27, .inl (cI C, 5, .inl (fun _ => 0))), (q35, .inl (cI C, 25, .inl g155)), (q162, .inl (cI C, 25, .inl g282)), (q289, .inl (cI C, 25, .inl (fun _ => 0))), (q310, .inl (cI C, 5, .inl (fun _ => 0))), (q317, .inl (cI C, 5, .inl (fun _ => 0))), (q325, .inl (cI C, 25, .inl (fun _ => 0)))] rfl rfl infX3_init_X3 tyX3_ok nmX3 (by decide) (by decide +kernel) rfl rfl rfl rfl (Nat.le_of_ble_eq_true rfl) dX3_init_327 rfl ?_
  refine gi_aload IXh dX3_init_330 ?_
  refine gi_bipush (v := (25 : Int32)) IXh dX3_init_331 (by decide) ?_
  refine gi_newI (N := 25) IXh (List.mem_of_getElem? (i := 4) rfl) (by decide) (by decide) (by decide) ⟨Nat.le_of_ble_eq_true rfl, Nat.le_of_ble_eq_true rfl⟩ dX3_init_333 (fun q333 => ?_)
  refine gi_putF (v := (Value.ref q333)) (kf := 17) IXh [(h0, .inr (3, [.int 0, .int 0, .int 0, .ref q6, .ref q13, .ref q20, .ref q27, .int 0, .int 0, .ref q35, .ref q162, .ref q289, .int 1000, .int 1000, .ref q310, .ref q317, .ref q325, .ref q333, .null, .null, .null])), (q6, .inl (cI C, 5, .inl (fun _ => 0))), (q13, .inl (cI C, 5, .inl (fun _ => 0))), (q20, .inl (cI C, 5, .inl (fun _ => 0))), (q27, .inl (cI C, 5, .inl (fun _ => 0))), (q35, .inl (cI C, 25, .inl g155)), (q162, .inl (cI C, 25, .inl g282)), (q289, .inl (cI C, 25, .inl (fun _ => 0))), (q310, .inl (cI C, 5, .inl (fun _ => 0))), (q317, .inl (cI C, 5, .inl (fun _ => 0))), (q325, .inl (cI C, 25, .inl (fun _ => 0))), (q333, .inl (cI C, 25, .inl (fun _ => 0)))] rfl rfl infX3_init_X3 tyX3_ok nmX3 (by decide) (by decide +kernel) rfl rfl rfl rfl (Nat.le_of_ble_eq_true rfl) dX3_init_335 rfl ?_
  refine gi_aload IXh dX3_init_338 ?_
  refine gi_bipush (v := (10 : Int32)) IXh dX3_init_339 (by decide) ?_
  refine gi_newI (N := 10) IXh (List.mem_of_getElem? (i := 4) rfl) (by decide) (by decide) (by decide) ⟨Nat.le_of_ble_eq_true rfl, Nat.le_of_ble_eq_true rfl⟩ dX3_init_341 (fun q341 => ?_)
  refine gi_putF (v := (Value.ref q341)) (kf := 18) IXh [(h0, .inr (3, [.int 0, .int 0, .int 0, .ref q6, .ref q13, .ref q20, .ref q27, .int 0, .int 0, .ref q35, .ref q162, .ref q289, .int 1000, .int 1000, .ref q310, .ref q317, .ref q325, .ref q333, .ref q341, .null, .null])), (q6, .inl (cI C, 5, .inl (fun _ => 0))), (q13, .inl (cI C, 5, .inl (fun _ => 0))), (q20, .inl (cI C, 5, .inl (fun _ => 0))), (q27, .inl (cI C, 5, .inl (fun _ => 0))), (q35, .inl (cI C, 25, .inl g155)), (q162, .inl (cI C, 25, .inl g282)), (q289, .inl (cI C, 25, .inl (fun _ => 0))), (q310, .inl (cI C, 5, .inl (fun _ => 0))), (q317, .inl (cI C, 5, .inl (fun _ => 0))), (q325, .inl (cI C, 25, .inl (fun _ => 0))), (q333, .inl (cI C, 25, .inl (fun _ => 0))), (q341, .inl (cI C, 10, .inl (fun _ => 0)))] rfl rfl infX3_init_X3 tyX3_ok nmX3 (by decide) (by decide +kernel) rfl rfl rfl rfl (Nat.le_of_ble_eq_true rfl) dX3_init_343 rfl ?_
  refine gi_aload IXh dX3_init_346 ?_
  refine gi_bipush (v := (10 : Int32)) IXh dX3_init_347 (by decide) ?_
  refine gi_newI (N := 10) IXh (List.mem_of_getElem? (i := 4) rfl) (by decide) (by decide) (by decide) ⟨Nat.le_of_ble_eq_true rfl, Nat.le_of_ble_eq_true rfl⟩ dX3_init_349 (fun q349 => ?_)
  refine gi_putF (v := (Value.ref q349)) (kf := 19) IXh [(h0, .inr (3, [.int 0, .int 0, .int 0, .ref q6, .ref q13, .ref q20, .ref q27, .int 0, .int 0, .ref q35, .ref q162, .ref q289, .int 1000, .int 1000, .ref q310, .ref q317, .ref q325, .ref q333, .ref q341, .ref q349, .null])), (q6, .inl (cI C, 5, .inl (fun _ => 0))), (q13, .inl (cI C, 5, .inl (fun _ => 0))), (q20, .inl (cI C, 5, .inl (fun _ => 0))), (q27, .inl (cI C, 5, .inl (fun _ => 0))), (q35, .inl (cI C, 25, .inl g155)), (q162, .inl (cI C, 25, .inl g282)), (q289, .inl (cI C, 25, .inl (fun _ => 0))), (q310, .inl (cI C, 5, .inl (fun _ => 0))), (q317, .inl (cI C, 5, .inl (fun _ => 0))), (q325, .inl (cI C, 25, .inl (fun _ => 0))), (q333, .inl (cI C, 25, .inl (fun _ => 0))), (q341, .inl (cI C, 10, .inl (fun _ => 0))), (q349, .inl (cI C, 10, .inl (fun _ => 0)))] rfl rfl infX3_init_X3 tyX3_ok nmX3 (by decide) (by decide +kernel) rfl rfl rfl rfl (Nat.le_of_ble_eq_true rfl) dX3_init_351 rfl ?_
  refine gi_aload IXh dX3_init_354 ?_
  refine gi_bipush (v := (25 : Int32)) IXh dX3_init_355 (by decide) ?_
  refine gi_newI (N := 25) IXh (List.mem_of_getElem? (i := 4) rfl) (by decide) (by decide) (by decide) ⟨Nat.le_of_ble_eq_true rfl, Nat.le_of_ble_eq_true rfl⟩ dX3_init_357 (fun q357 => ?_)
  refine gi_putF (v := (Value.ref q357)) (kf := 20) IXh [(h0, .inr (3, [.int 0, .int 0, .int 0, .ref q6, .ref q13, .ref q20, .ref q27, .int 0, .int 0, .ref q35, .ref q162, .ref q289, .int 1000, .int 1000, .ref q310, .ref q317, .ref q325, .ref q333, .ref q341, .ref q349, .ref q357])), (q6, .inl (cI C, 5, .inl (fun _ => 0))), (q13, .inl (cI C, 5, .inl (fun _ => 0))), (q20, .inl (cI C, 5, .inl (fun _ => 0))), (q27, .inl (cI C, 5, .inl (fun _ => 0))), (q35, .inl (cI C, 25, .inl g155)), (q162, .inl (cI C, 25, .inl g282)), (q289, .inl (cI C, 25, .inl (fun _ => 0))), (q310, .inl (cI C, 5, .inl (fun _ => 0))), (q317, .inl (cI C, 5, .inl (fun _ => 0))), (q325, .inl (cI C, 25, .inl (fun _ => 0))), (q333, .inl (cI C, 25, .inl (fun _ => 0))), (q341, .inl (cI C, 10, .inl (fun _ => 0))), (q349, .inl (cI C, 10, .inl (fun _ => 0))), (q357, .inl (cI C, 25, .inl (fun _ => 0)))] rfl rfl infX3_init_X3 tyX3_ok nmX3 (by decide) (by decide +kernel) rfl rfl rfl rfl (Nat.le_of_ble_eq_true rfl) dX3_init_359 rfl ?_
  exact hend 362 (fun k => [0, q6, q13, q20, q27, q35, q162, q289, q310, q317, q325, q333, q341, q349, q357].getD k 0, g155, g282) ⟨m155, m282⟩ dX3_init_362
