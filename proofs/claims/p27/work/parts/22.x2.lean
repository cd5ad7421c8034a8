/-! ### X2_checkRange -/
abbrev rmX2_checkRange : Room := { frames := 6, cells := 1, slots := 6, locals := 82 }
def fX2_checkRange_10 (σ : Mem) : Option (Sum Int32 Nat × Mem) :=
  some (Sum.inr 1, σ)
set_option maxHeartbeats 4000000 in
set_option maxRecDepth 100000 in
theorem tX2_checkRange_10 {C : Ctx} (X : CX C cX2_checkRange 3 RX2 wsX2_checkRange rmX2_checkRange none) (hne : NH C) {r : Sum Int32 Nat × Mem} (hq : QXV C r) (σ : Mem) (hf : fX2_checkRange_10 σ = some r) : G C 3 0 0 10 [] [] σ := by
  unfold fX2_checkRange_10 at hf
  exact e_throw (E := iIA) (text := "out of range") (ik := 209) (is := 211) (ic := 213) X hne hq (by decide +kernel) (by decide +kernel) (by decide +kernel) (by decide +kernel) (by decide +kernel) (by decide +kernel) (Or.inr (Or.inl rfl)) (by decide +kernel) dX2_checkRange_10 dX2_checkRange_13 dX2_checkRange_14 dX2_checkRange_16 dX2_checkRange_19 (by decide) (Nat.le_of_ble_eq_true rfl) (by decide) (by decide) ⟨1, (Option.some.inj hf).symm, rfl⟩
def fX2_checkRange_e (v0 : Int32) (v1 : Int32) (v2 : Int32) (σ : Mem) : Option (Sum Int32 Nat × Mem) :=
  if v0 < v1 then (fX2_checkRange_10 σ)
  else (if v0 ≤ v2 then (some (Sum.inl (0 : Int32), σ))
  else (fX2_checkRange_10 σ))
set_option maxHeartbeats 4000000 in
set_option maxRecDepth 100000 in
theorem tX2_checkRange_e {C : Ctx} (X : CX C cX2_checkRange 3 RX2 wsX2_checkRange rmX2_checkRange none) (hne : NH C) {r : Sum Int32 Nat × Mem} (hq : QXV C r) (v0 : Int32) (v1 : Int32) (v2 : Int32) (σ : Mem) (hf : fX2_checkRange_e v0 v1 v2 σ = some r) : G C 3 0 0 0 [(0, .int v0), (1, .int v1), (2, .int v2)] [] σ := by
  unfold fX2_checkRange_e at hf
  refine g_iload_n X dX2_checkRange_0 0 rfl rfl ?_
  refine g_iload_n X dX2_checkRange_1 1 rfl rfl ?_
  refine g_icmp_lt (tgt := 10) X dX2_checkRange_2 (by decide) hf (fun hf => ?_) (fun hf => ?_)
  · refine g_sub [] (L' := []) rfl ?_
    exact tX2_checkRange_10 X hne hq σ hf
  · refine g_iload_n X dX2_checkRange_5 0 rfl rfl ?_
    refine g_iload_n X dX2_checkRange_6 2 rfl rfl ?_
    refine g_icmp_le (tgt := 20) X dX2_checkRange_7 (by decide) hf (fun hf => ?_) (fun hf => ?_)
    · exact r_vretX X hq dX2_checkRange_20 hf
    · refine g_sub [] (L' := []) rfl ?_
      exact tX2_checkRange_10 X hne hq σ hf
def fX2_checkRange (v0 : Int32) (v1 : Int32) (v2 : Int32) (σ : Mem) : Option (Sum Int32 Nat × Mem) := fX2_checkRange_e v0 v1 v2 σ
theorem kX2_checkRange (l : Launch) (v0 : Int32) (v1 : Int32) (v2 : Int32) (σ : Mem) : KXV l yX2_checkRange wsX2_checkRange rmX2_checkRange (fun ad => [.int v0, .int v1, .int v2]) σ (fX2_checkRange v0 v1 v2 σ) := fun r hr => kt_of (by decide +kernel) rfl (fun _ => Nat.le_of_ble_eq_true rfl) (fun C X hne hq => tX2_checkRange_e X hne hq v0 v1 v2 σ hr)
/-! ### X2_checkPlaceAndAmount -/
abbrev rmX2_checkPlaceAndAmount : Room := { frames := 7, cells := 1, slots := 6, locals := 104 }
def fX2_checkPlaceAndAmount_e (v0 : Int32) (v1 : Int32) (σ : Mem) : Option (Sum Int32 Nat × Mem) :=
  bndX (fX2_checkRange v0 (0 : Int32) (100 : Int32) σ) fun u1 σ2 =>
  bndX (fX2_checkRange v1 (1 : Int32) (20 : Int32) σ2) fun u3 σ4 =>
  some (Sum.inl (0 : Int32), σ4)
set_option maxHeartbeats 4000000 in
set_option maxRecDepth 100000 in
theorem tX2_checkPlaceAndAmount_e {C : Ctx} (X : CX C cX2_checkPlaceAndAmount 2 RX2 wsX2_checkPlaceAndAmount rmX2_checkPlaceAndAmount none) (hne : NH C) {r : Sum Int32 Nat × Mem} (hq : QXV C r) (v0 : Int32) (v1 : Int32) (σ : Mem) (hf : fX2_checkPlaceAndAmount_e v0 v1 σ = some r) : G C 2 0 0 0 [(0, .int v0), (1, .int v1)] [] σ := by
  unfold fX2_checkPlaceAndAmount_e at hf
  refine g_iload_n X dX2_checkPlaceAndAmount_0 0 rfl rfl ?_
  refine g_iconst (v := (0 : Int32)) X dX2_checkPlaceAndAmount_1 (by decide) ?_
  refine g_bipush (v := (100 : Int32)) X dX2_checkPlaceAndAmount_2 (by decide) ?_
  refine c_SXV (vs := [.int v0, .int (0 : Int32), .int (100 : Int32)]) (rest := []) X hne (kX2_checkRange (cL C) v0 (0 : Int32) (100 : Int32) σ) (fun s a hts => va_cwS 3 hts gX2_checkPlaceAndAmount_X2_checkRange rfl rfl rfl (by decide +kernel) ⟨Nat.le_of_ble_eq_true rfl, Nat.le_of_ble_eq_true rfl⟩) rfl rfl rfl (Nat.le_of_ble_eq_true rfl) dX2_checkPlaceAndAmount_4 ⟨Nat.le_of_ble_eq_true rfl, Nat.le_of_ble_eq_true rfl⟩ ⟨rfl, rfl⟩ hq hf (fun u1 σ2 hf => ?_)
  refine g_iload_n X dX2_checkPlaceAndAmount_7 1 rfl rfl ?_
  refine g_iconst (v := (1 : Int32)) X dX2_checkPlaceAndAmount_8 (by decide) ?_
  refine g_bipush (v := (20 : Int32)) X dX2_checkPlaceAndAmount_9 (by decide) ?_
  refine c_SXV (vs := [.int v1, .int (1 : Int32), .int (20 : Int32)]) (rest := []) X hne (kX2_checkRange (cL C) v1 (1 : Int32) (20 : Int32) σ2) (fun s a hts => va_cwS 3 hts gX2_checkPlaceAndAmount_X2_checkRange rfl rfl rfl (by decide +kernel) ⟨Nat.le_of_ble_eq_true rfl, Nat.le_of_ble_eq_true rfl⟩) rfl rfl rfl (Nat.le_of_ble_eq_true rfl) dX2_checkPlaceAndAmount_11 ⟨Nat.le_of_ble_eq_true rfl, Nat.le_of_ble_eq_true rfl⟩ ⟨rfl, rfl⟩ hq hf (fun u3 σ4 hf => ?_)
  exact r_vretX X hq dX2_checkPlaceAndAmount_14 hf
def fX2_checkPlaceAndAmount (v0 : Int32) (v1 : Int32) (σ : Mem) : Option (Sum Int32 Nat × Mem) := fX2_checkPlaceAndAmount_e v0 v1 σ
theorem kX2_checkPlaceAndAmount (l : Launch) (v0 : Int32) (v1 : Int32) (σ : Mem) : KXV l yX2_checkPlaceAndAmount wsX2_checkPlaceAndAmount rmX2_checkPlaceAndAmount (fun ad => [.int v0, .int v1]) σ (fX2_checkPlaceAndAmount v0 v1 σ) := fun r hr => kt_of (by decide +kernel) rfl (fun _ => Nat.le_of_ble_eq_true rfl) (fun C X hne hq => tX2_checkPlaceAndAmount_e X hne hq v0 v1 σ hr)
/-! ### X2_addTo -/
abbrev rmX2_addTo : Room := { frames := 8, cells := 1, slots := 6, locals := 125 }
theorem infX2_addTo_X2 : ∀ w ∈ u_ws RX2 TX2 15, w ∈ wsX2_addTo := by decide +kernel
def fX2_addTo_e (v1 : Nat) (v2 : Int32) (v3 : Int32) (σ : Mem) : Option (Sum Int32 Nat × Mem) :=
  bndX (fX2_checkPlaceAndAmount v2 v3 σ) fun u1 σ2 =>
  bnd (fX1_isFull v1 σ2) fun u3 σ4 =>
  if u3 = 0 then (ltM (wI σ4 0 14 (0 : Int32)) fun σ5 =>
  bnd (fX1_add v1 v2 v3 σ5) fun u6 σ7 =>
  some (Sum.inl u6, σ7))
  else (some (Sum.inr 2, σ4))
set_option maxHeartbeats 4000000 in
set_option maxRecDepth 100000 in
theorem tX2_addTo_e {C : Ctx} (X : CX C cX2_addTo 4 RX2 wsX2_addTo rmX2_addTo (some .int)) (hne : NH C) {r : Sum Int32 Nat × Mem} (hq : QXI C r) (v1 : Nat) (v2 : Int32) (v3 : Int32) (hv1 : ki v1 = 2) (σ : Mem) (hf : fX2_addTo_e v1 v2 v3 σ = some r) : G C 4 0 0 0 [(0, .ref (adr C 0)), (1, .ref (adr C v1)), (2, .int v2), (3, .int v3)] [] σ := by
  unfold fX2_addTo_e at hf
  refine g_iload_n X dX2_addTo_0 2 rfl rfl ?_
  refine g_iload_n X dX2_addTo_1 3 rfl rfl ?_
  refine c_SXV (vs := [.int v2, .int v3]) (rest := []) X hne (kX2_checkPlaceAndAmount (cL C) v2 v3 σ) (fun s a hts => va_cwS 2 hts gX2_addTo_X2_checkPlaceAndAmount rfl rfl rfl (by decide +kernel) ⟨Nat.le_of_ble_eq_true rfl, Nat.le_of_ble_eq_true rfl⟩) rfl rfl rfl (Nat.le_of_ble_eq_true rfl) dX2_addTo_2 ⟨Nat.le_of_ble_eq_true rfl, Nat.le_of_ble_eq_true rfl⟩ ⟨rfl, rfl⟩ hq hf (fun u1 σ2 hf => ?_)
  refine g_aload_n X dX2_addTo_5 1 rfl rfl ?_
  refine c_VI (q := v1) (vs := []) (rest := []) X (kX1_isFull (cL C) v1 hv1 σ2) (fun s a hts => cwV 0 hts gX2_addTo_X1_isFull rfl rfl rfl (by decide +kernel) ⟨Nat.le_of_ble_eq_true rfl, Nat.le_of_ble_eq_true rfl⟩) (obj_s hv1) (rfl : vwCl[1]? = some (RX1, TX1, 3)) rfl rfl rfl rfl (Nat.le_of_ble_eq_true rfl) dX2_addTo_6 ⟨Nat.le_of_ble_eq_true rfl, Nat.le_of_ble_eq_true rfl⟩ hf (fun u3 σ4 hf => ?_)
  refine g_if_eq (tgt := 22) X dX2_addTo_9 (by decide) hf (fun hf => ?_) (fun hf => ?_)
  · refine g_aload_n X dX2_addTo_22 0 rfl rfl ?_
    refine g_iconst (v := (0 : Int32)) X dX2_addTo_23 (by decide) ?_
    refine s_put (q := 0) (kf := 14) X obj_x rfl infX2_addTo_X2 tyX2_ok nmX2 (by decide) (by decide +kernel) rfl rfl rfl rfl (fun _ _ => rfl) (fun _ _ => Nat.le_of_ble_eq_true rfl) dX2_addTo_24 hf (fun σ5 hf => ?_)
    refine g_aload_n X dX2_addTo_27 1 rfl rfl ?_
    refine g_iload_n X dX2_addTo_28 2 rfl rfl ?_
    refine g_iload_n X dX2_addTo_29 3 rfl rfl ?_
    refine c_VI (q := v1) (vs := [.int v2, .int v3]) (rest := []) X (kX1_add (cL C) v1 v2 v3 hv1 σ5) (fun s a hts => cwV 2 hts gX2_addTo_X1_add rfl rfl rfl (by decide +kernel) ⟨Nat.le_of_ble_eq_true rfl, Nat.le_of_ble_eq_true rfl⟩) (obj_s hv1) (rfl : vwCl[1]? = some (RX1, TX1, 3)) rfl rfl rfl rfl (Nat.le_of_ble_eq_true rfl) dX2_addTo_30 ⟨Nat.le_of_ble_eq_true rfl, Nat.le_of_ble_eq_true rfl⟩ hf (fun u6 σ7 hf => ?_)
    exact r_iretX X hq dX2_addTo_33 hf
  · exact e_throw (E := iIS) (text := "no more than 5") (ik := 122) (is := 226) (ic := 126) X hne hq (by decide +kernel) (by decide +kernel) (by decide +kernel) (by decide +kernel) (by decide +kernel) (by decide +kernel) (Or.inr (Or.inr rfl)) (by decide +kernel) dX2_addTo_12 dX2_addTo_15 dX2_addTo_16 dX2_addTo_18 dX2_addTo_21 (by decide) (Nat.le_of_ble_eq_true rfl) (by decide) (by decide) ⟨2, (Option.some.inj hf).symm, rfl⟩
def fX2_addTo (v1 : Nat) (v2 : Int32) (v3 : Int32) (σ : Mem) : Option (Sum Int32 Nat × Mem) := fX2_addTo_e v1 v2 v3 σ
theorem kX2_addTo (l : Launch) (v1 : Nat) (v2 : Int32) (v3 : Int32) (hv1 : ki v1 = 2) (σ : Mem) : KXI l yX2_addTo wsX2_addTo rmX2_addTo (fun ad => [.ref (ad 0), .ref (ad v1), .int v2, .int v3]) σ (fX2_addTo v1 v2 v3 σ) := fun r hr => kt_of (by decide +kernel) rfl (fun _ => Nat.le_of_ble_eq_true rfl) (fun C X hne hq => tX2_addTo_e X hne hq v1 v2 v3 hv1 σ hr)
/-! ### X2_heap -/
abbrev rmX2_heap : Room := { frames := 9, cells := 1, slots := 6, locals := 148 }
theorem infX2_heap_X2 : ∀ w ∈ u_ws RX2 TX2 15, w ∈ wsX2_heap := by decide +kernel
def fX2_heap_e (v1 : Int32) (v2 : Int32) (σ : Mem) : Option (Sum Int32 Nat × Mem) :=
  bndX (fX2_addTo 1 v1 v2 σ) fun u1 σ2 =>
  some (Sum.inl u1, σ2)
set_option maxHeartbeats 4000000 in
set_option maxRecDepth 100000 in
theorem tX2_heap_e {C : Ctx} (X : CX C cX2_heap 3 RX2 wsX2_heap rmX2_heap (some .int)) (hne : NH C) {r : Sum Int32 Nat × Mem} (hq : QXI C r) (v1 : Int32) (v2 : Int32) (σ : Mem) (hf : fX2_heap_e v1 v2 σ = some r) : G C 3 0 0 0 [(0, .ref (adr C 0)), (1, .int v1), (2, .int v2)] [] σ := by
  unfold fX2_heap_e at hf
  refine g_aload_n X dX2_heap_0 0 rfl rfl ?_
  refine g_aload_n X dX2_heap_1 0 rfl rfl ?_
  refine g_get (q := 0) (kf := 0) (v := .ref (adr C 1)) X obj_x rfl infX2_heap_X2 (by decide) (by decide +kernel) rfl dX2_heap_2 ?_
  refine g_iload_n X dX2_heap_5 1 rfl rfl ?_
  refine g_iload_n X dX2_heap_6 2 rfl rfl ?_
  refine c_VXI (q := 0) (vs := [.ref (adr C 1), .int v1, .int v2]) (rest := []) X hne (kX2_addTo (cL C) 1 v1 v2 rfl σ) (fun s a hts => cwV 3 hts gX2_heap_X2_addTo rfl rfl rfl (by decide +kernel) ⟨Nat.le_of_ble_eq_true rfl, Nat.le_of_ble_eq_true rfl⟩) obj_x (rfl : vwCl[2]? = some (RX2, TX2, 15)) rfl rfl rfl rfl (Nat.le_of_ble_eq_true rfl) dX2_heap_7 ⟨Nat.le_of_ble_eq_true rfl, Nat.le_of_ble_eq_true rfl⟩ ⟨rfl, rfl⟩ hq hf (fun u1 σ2 hf => ?_)
  exact r_iretX X hq dX2_heap_10 hf
def fX2_heap (v1 : Int32) (v2 : Int32) (σ : Mem) : Option (Sum Int32 Nat × Mem) := fX2_heap_e v1 v2 σ
theorem kX2_heap (l : Launch) (v1 : Int32) (v2 : Int32) (σ : Mem) : KXI l yX2_heap wsX2_heap rmX2_heap (fun ad => [.ref (ad 0), .int v1, .int v2]) σ (fX2_heap v1 v2 σ) := fun r hr => kt_of (by decide +kernel) rfl (fun _ => Nat.le_of_ble_eq_true rfl) (fun C X hne hq => tX2_heap_e X hne hq v1 v2 σ hr)
/-! ### X2_hole -/
abbrev rmX2_hole : Room := { frames := 9, cells := 1, slots := 6, locals := 148 }
theorem infX2_hole_X2 : ∀ w ∈ u_ws RX2 TX2 15, w ∈ wsX2_hole := by decide +kernel
def fX2_hole_e (v1 : Int32) (v2 : Int32) (σ : Mem) : Option (Sum Int32 Nat × Mem) :=
  bndX (fX2_addTo 4 v1 v2 σ) fun u1 σ2 =>
  some (Sum.inl u1, σ2)
set_option maxHeartbeats 4000000 in
set_option maxRecDepth 100000 in
theorem tX2_hole_e {C : Ctx} (X : CX C cX2_hole 3 RX2 wsX2_hole rmX2_hole (some .int)) (hne : NH C) {r : Sum Int32 Nat × Mem} (hq : QXI C r) (v1 : Int32) (v2 : Int32) (σ : Mem) (hf : fX2_hole_e v1 v2 σ = some r) : G C 3 0 0 0 [(0, .ref (adr C 0)), (1, .int v1), (2, .int v2)] [] σ := by
  unfold fX2_hole_e at hf
  refine g_aload_n X dX2_hole_0 0 rfl rfl ?_
  refine g_aload_n X dX2_hole_1 0 rfl rfl ?_
  refine g_get (q := 0) (kf := 1) (v := .ref (adr C 4)) X obj_x rfl infX2_hole_X2 (by decide) (by decide +kernel) rfl dX2_hole_2 ?_
  refine g_iload_n X dX2_hole_5 1 rfl rfl ?_
  refine g_iload_n X dX2_hole_6 2 rfl rfl ?_
  refine c_VXI (q := 0) (vs := [.ref (adr C 4), .int v1, .int v2]) (rest := []) X hne (kX2_addTo (cL C) 4 v1 v2 rfl σ) (fun s a hts => cwV 3 hts gX2_hole_X2_addTo rfl rfl rfl (by decide +kernel) ⟨Nat.le_of_ble_eq_true rfl, Nat.le_of_ble_eq_true rfl⟩) obj_x (rfl : vwCl[2]? = some (RX2, TX2, 15)) rfl rfl rfl rfl (Nat.le_of_ble_eq_true rfl) dX2_hole_7 ⟨Nat.le_of_ble_eq_true rfl, Nat.le_of_ble_eq_true rfl⟩ ⟨rfl, rfl⟩ hq hf (fun u1 σ2 hf => ?_)
  exact r_iretX X hq dX2_hole_10 hf
def fX2_hole (v1 : Int32) (v2 : Int32) (σ : Mem) : Option (Sum Int32 Nat × Mem) := fX2_hole_e v1 v2 σ
theorem kX2_hole (l : Launch) (v1 : Int32) (v2 : Int32) (σ : Mem) : KXI l yX2_hole wsX2_hole rmX2_hole (fun ad => [.ref (ad 0), .int v1, .int v2]) σ (fX2_hole v1 v2 σ) := fun r hr => kt_of (by decide +kernel) rfl (fun _ => Nat.le_of_ble_eq_true rfl) (fun C X hne hq => tX2_hole_e X hne hq v1 v2 σ hr)
/-! ### X2_side -/
abbrev rmX2_side : Room := { frames := 0, cells := 0, slots := 0, locals := 8 }
theorem infX2_side_X2 : ∀ w ∈ u_ws RX2 TX2 15, w ∈ wsX2_side := by decide +kernel
def fX2_side_15 (s0 : Nat) (σ : Mem) : Option (Nat × Mem) :=
  some (s0, σ)
set_option maxHeartbeats 4000000 in
set_option maxRecDepth 100000 in
theorem tX2_side_15 {C : Ctx} (X : CX C cX2_side 2 RX2 wsX2_side rmX2_side (some (.object "Heapcarrier$Side"))) {r : Nat × Mem} (hq : QR C r) (s0 : Nat) (hs0 : ki s0 = 2) (σ : Mem) (hf : fX2_side_15 s0 σ = some r) : G C 2 0 0 15 [] [.ref (adr C s0)] σ := by
  unfold fX2_side_15 at hf
  exact r_aret X hq dX2_side_15 hf
def fX2_side_e (v1 : Int32) (σ : Mem) : Option (Nat × Mem) :=
  if v1 = 0 then (fX2_side_15 1 σ)
  else (fX2_side_15 4 σ)
set_option maxHeartbeats 4000000 in
set_option maxRecDepth 100000 in
theorem tX2_side_e {C : Ctx} (X : CX C cX2_side 2 RX2 wsX2_side rmX2_side (some (.object "Heapcarrier$Side"))) {r : Nat × Mem} (hq : QR C r) (v1 : Int32) (σ : Mem) (hf : fX2_side_e v1 σ = some r) : G C 2 0 0 0 [(0, .ref (adr C 0)), (1, .int v1)] [] σ := by
  unfold fX2_side_e at hf
  refine g_iload_n X dX2_side_0 1 rfl rfl ?_
  refine g_if_eq (tgt := 11) X dX2_side_1 (by decide) hf (fun hf => ?_) (fun hf => ?_)
  · refine g_aload_n X dX2_side_11 0 rfl rfl ?_
    refine g_get (q := 0) (kf := 0) (v := .ref (adr C 1)) X obj_x rfl infX2_side_X2 (by decide) (by decide +kernel) rfl dX2_side_12 ?_
    refine g_sub [] (L' := []) rfl ?_
    exact tX2_side_15 X hq 1 rfl σ hf
  · refine g_aload_n X dX2_side_4 0 rfl rfl ?_
    refine g_get (q := 0) (kf := 1) (v := .ref (adr C 4)) X obj_x rfl infX2_side_X2 (by decide) (by decide +kernel) rfl dX2_side_5 ?_
    refine g_goto (tgt := 15) X dX2_side_8 (by decide) ?_
    refine g_sub [] (L' := []) rfl ?_
    exact tX2_side_15 X hq 4 rfl σ hf
def fX2_side (v1 : Int32) (σ : Mem) : Option (Nat × Mem) := fX2_side_e v1 σ
theorem kX2_side (l : Launch) (v1 : Int32) (σ : Mem) : KR l yX2_side wsX2_side rmX2_side (fun ad => [.ref (ad 0), .int v1]) σ (fX2_side v1 σ) := fun r hr => kt_of (by decide +kernel) rfl (fun _ => Nat.le_of_ble_eq_true rfl) (fun C X hne hq => tX2_side_e X hq v1 σ hr)
/-! ### X2_checkNumber -/
abbrev rmX2_checkNumber : Room := { frames := 6, cells := 1, slots := 6, locals := 82 }
def fX2_checkNumber_e (v1 : Int32) (v2 : Int32) (σ : Mem) : Option (Sum Int32 Nat × Mem) :=
  bnd (fX2_side v1 σ) fun u1 σ2 =>
  grd (decide (ki u1 = 2)) (bnd (fX1_holds u1 v2 σ2) fun u3 σ4 =>
  if u3 = 0 then (some (Sum.inr 0, σ4))
  else (some (Sum.inl (0 : Int32), σ4)))
set_option maxHeartbeats 4000000 in
set_option maxRecDepth 100000 in
theorem tX2_checkNumber_e {C : Ctx} (X : CX C cX2_checkNumber 3 RX2 wsX2_checkNumber rmX2_checkNumber none) (hne : NH C) {r : Sum Int32 Nat × Mem} (hq : QXV C r) (v1 : Int32) (v2 : Int32) (σ : Mem) (hf : fX2_checkNumber_e v1 v2 σ = some r) : G C 3 0 0 0 [(0, .ref (adr C 0)), (1, .int v1), (2, .int v2)] [] σ := by
  unfold fX2_checkNumber_e at hf
  refine g_aload_n X dX2_checkNumber_0 0 rfl rfl ?_
  refine g_iload_n X dX2_checkNumber_1 1 rfl rfl ?_
  refine c_VR (q := 0) (vs := [.int v1]) (rest := []) X (kX2_side (cL C) v1 σ) (fun s a hts => cwV 1 hts gX2_checkNumber_X2_side rfl rfl rfl (by decide +kernel) ⟨Nat.le_of_ble_eq_true rfl, Nat.le_of_ble_eq_true rfl⟩) obj_x (rfl : vwCl[2]? = some (RX2, TX2, 15)) rfl rfl rfl rfl (Nat.le_of_ble_eq_true rfl) dX2_checkNumber_2 ⟨Nat.le_of_ble_eq_true rfl, Nat.le_of_ble_eq_true rfl⟩ hf (fun u1 σ2 hf => ?_)
  replace hf := grd_some hf
  obtain ⟨hu1, hf⟩ := hf
  replace hu1 := of_decide_eq_true hu1
  refine g_iload_n X dX2_checkNumber_5 2 rfl rfl ?_
  refine c_VI (q := u1) (vs := [.int v2]) (rest := []) X (kX1_holds (cL C) u1 v2 hu1 σ2) (fun s a hts => cwV 1 hts gX2_checkNumber_X1_holds rfl rfl rfl (by decide +kernel) ⟨Nat.le_of_ble_eq_true rfl, Nat.le_of_ble_eq_true rfl⟩) (obj_s hu1) (rfl : vwCl[1]? = some (RX1, TX1, 3)) rfl rfl rfl rfl (Nat.le_of_ble_eq_true rfl) dX2_checkNumber_6 ⟨Nat.le_of_ble_eq_true rfl, Nat.le_of_ble_eq_true rfl⟩ hf (fun u3 σ4 hf => ?_)
  refine g_if_ne (tgt := 22) X dX2_checkNumber_9 (by decide) hf (fun hf => ?_) (fun hf => ?_)
  · exact r_vretX X hq dX2_checkNumber_22 hf
  · exact e_throw (E := iIO) (text := "no such heap or hole") (ik := 218) (is := 220) (ic := 222) X hne hq (by decide +kernel) (by decide +kernel) (by decide +kernel) (by decide +kernel) (by decide +kernel) (by decide +kernel) (Or.inl rfl) (by decide +kernel) dX2_checkNumber_12 dX2_checkNumber_15 dX2_checkNumber_16 dX2_checkNumber_18 dX2_checkNumber_21 (by decide) (Nat.le_of_ble_eq_true rfl) (by decide) (by decide) ⟨0, (Option.some.inj hf).symm, rfl⟩
def fX2_checkNumber (v1 : Int32) (v2 : Int32) (σ : Mem) : Option (Sum Int32 Nat × Mem) := fX2_checkNumber_e v1 v2 σ
theorem kX2_checkNumber (l : Launch) (v1 : Int32) (v2 : Int32) (σ : Mem) : KXV l yX2_checkNumber wsX2_checkNumber rmX2_checkNumber (fun ad => [.ref (ad 0), .int v1, .int v2]) σ (fX2_checkNumber v1 v2 σ) := fun r hr => kt_of (by decide +kernel) rfl (fun _ => Nat.le_of_ble_eq_true rfl) (fun C X hne hq => tX2_checkNumber_e X hne hq v1 v2 σ hr)
/-! ### X2_alter -/
abbrev rmX2_alter : Room := { frames := 8, cells := 1, slots := 6, locals := 125 }
theorem infX2_alter_X1 : ∀ w ∈ u_ws RX1 TX1 3, w ∈ wsX2_alter := by decide +kernel
theorem infX2_alter_X2 : ∀ w ∈ u_ws RX2 TX2 15, w ∈ wsX2_alter := by decide +kernel
def fX2_alter_e (v1 : Int32) (v2 : Int32) (v3 : Int32) (v4 : Int32) (σ : Mem) : Option (Sum Int32 Nat × Mem) :=
  bndX (fX2_checkNumber v1 v2 σ) fun u1 σ2 =>
  bndX (fX2_checkPlaceAndAmount v3 v4 σ2) fun u3 σ4 =>
  bnd (fX2_side v1 σ4) fun u5 σ6 =>
  grd (decide (ki u5 = 2)) (grd (inb v2 5) (ltI (rI σ6 (u5 + 2) (ix v2)) fun x7 =>
  grd (inb v2 5) (ltM (wI σ6 (u5 + 1) (ix v2) v3) fun σ8 =>
  grd (inb v2 5) (ltM (wI σ8 (u5 + 2) (ix v2) v4) fun σ9 =>
  ltM (wI σ9 0 14 (0 : Int32)) fun σ10 =>
  some (Sum.inl x7, σ10)))))
set_option maxHeartbeats 4000000 in
set_option maxRecDepth 100000 in
theorem tX2_alter_e {C : Ctx} (X : CX C cX2_alter 7 RX2 wsX2_alter rmX2_alter (some .int)) (hne : NH C) {r : Sum Int32 Nat × Mem} (hq : QXI C r) (v1 : Int32) (v2 : Int32) (v3 : Int32) (v4 : Int32) (σ : Mem) (hf : fX2_alter_e v1 v2 v3 v4 σ = some r) : G C 7 0 0 0 [(0, .ref (adr C 0)), (1, .int v1), (2, .int v2), (3, .int v3), (4, .int v4)] [] σ := by
  unfold fX2_alter_e at hf
  refine g_aload_n X dX2_alter_0 0 rfl rfl ?_
  refine g_iload_n X dX2_alter_1 1 rfl rfl ?_
  refine g_iload_n X dX2_alter_2 2 rfl rfl ?_
  refine c_VXV (q := 0) (vs := [.int v1, .int v2]) (rest := []) X hne (kX2_checkNumber (cL C) v1 v2 σ) (fun s a hts => cwV 2 hts gX2_alter_X2_checkNumber rfl rfl rfl (by decide +kernel) ⟨Nat.le_of_ble_eq_true rfl, Nat.le_of_ble_eq_true rfl⟩) obj_x (rfl : vwCl[2]? = some (RX2, TX2, 15)) rfl rfl rfl rfl (Nat.le_of_ble_eq_true rfl) dX2_alter_3 ⟨Nat.le_of_ble_eq_true rfl, Nat.le_of_ble_eq_true rfl⟩ ⟨rfl, rfl⟩ hq hf (fun u1 σ2 hf => ?_)
  refine g_iload_n X dX2_alter_6 3 rfl rfl ?_
  refine g_iload X dX2_alter_7 4 rfl ?_
  refine c_SXV (vs := [.int v3, .int v4]) (rest := []) X hne (kX2_checkPlaceAndAmount (cL C) v3 v4 σ2) (fun s a hts => va_cwS 2 hts gX2_alter_X2_checkPlaceAndAmount rfl rfl rfl (by decide +kernel) ⟨Nat.le_of_ble_eq_true rfl, Nat.le_of_ble_eq_true rfl⟩) rfl rfl rfl (Nat.le_of_ble_eq_true rfl) dX2_alter_9 ⟨Nat.le_of_ble_eq_true rfl, Nat.le_of_ble_eq_true rfl⟩ ⟨rfl, rfl⟩ hq hf (fun u3 σ4 hf => ?_)
  refine g_aload_n X dX2_alter_12 0 rfl rfl ?_
  refine g_iload_n X dX2_alter_13 1 rfl rfl ?_
  refine c_VR (q := 0) (vs := [.int v1]) (rest := []) X (kX2_side (cL C) v1 σ4) (fun s a hts => cwV 1 hts gX2_alter_X2_side rfl rfl rfl (by decide +kernel) ⟨Nat.le_of_ble_eq_true rfl, Nat.le_of_ble_eq_true rfl⟩) obj_x (rfl : vwCl[2]? = some (RX2, TX2, 15)) rfl rfl rfl rfl (Nat.le_of_ble_eq_true rfl) dX2_alter_14 ⟨Nat.le_of_ble_eq_true rfl, Nat.le_of_ble_eq_true rfl⟩ hf (fun u5 σ6 hf => ?_)
  replace hf := grd_some hf
  obtain ⟨hu5, hf⟩ := hf
  replace hu5 := of_decide_eq_true hu5
  refine g_astore (L' := [(5, .ref (adr C u5)), (0, .ref (adr C 0)), (1, .int v1), (2, .int v2), (3, .int v3), (4, .int v4)]) X dX2_alter_17 (by decide) rfl ?_
  refine g_aload X dX2_alter_19 0 rfl ?_
  refine g_get (q := u5) (kf := 1) (v := .ref (adr C (u5 + 2))) X (obj_s hu5) rfl infX2_alter_X1 (by decide) (by decide +kernel) rfl dX2_alter_21 ?_
  refine g_iload_n X dX2_alter_24 3 rfl rfl ?_
  refine g_iald (q := u5 + 2) (n := 5) X (sk2 hu5) (sl2 hu5) dX2_alter_25 hf (fun hf => ?_)
  refine s_istore (M := fun x7 => [(6, .int x7), (5, .ref (adr C u5)), (0, .ref (adr C 0)), (1, .int v1), (2, .int v2), (3, .int v3), (4, .int v4)]) X dX2_alter_26 (by decide) (fun _ => rfl) hf (fun x7 hf => ?_)
  refine g_aload X dX2_alter_28 1 rfl ?_
  refine g_get (q := u5) (kf := 0) (v := .ref (adr C (u5 + 1))) X (obj_s hu5) rfl infX2_alter_X1 (by decide) (by decide +kernel) rfl dX2_alter_30 ?_
  refine g_iload_n X dX2_alter_33 4 rfl rfl ?_
  refine g_iload_n X dX2_alter_34 5 rfl rfl ?_
  refine s_iast (q := u5 + 1) (n := 5) X (sk1 hu5) (sl1 hu5) dX2_alter_35 hf (fun σ8 hf => ?_)
  refine g_aload X dX2_alter_36 1 rfl ?_
  refine g_get (q := u5) (kf := 1) (v := .ref (adr C (u5 + 2))) X (obj_s hu5) rfl infX2_alter_X1 (by decide) (by decide +kernel) rfl dX2_alter_38 ?_
  refine g_iload_n X dX2_alter_41 4 rfl rfl ?_
  refine g_iload X dX2_alter_42 6 rfl ?_
  refine s_iast (q := u5 + 2) (n := 5) X (sk2 hu5) (sl2 hu5) dX2_alter_44 hf (fun σ9 hf => ?_)
  refine g_aload_n X dX2_alter_45 2 rfl rfl ?_
  refine g_iconst (v := (0 : Int32)) X dX2_alter_46 (by decide) ?_
  refine s_put (q := 0) (kf := 14) X obj_x rfl infX2_alter_X2 tyX2_ok nmX2 (by decide) (by decide +kernel) rfl rfl rfl rfl (fun _ _ => rfl) (fun _ _ => Nat.le_of_ble_eq_true rfl) dX2_alter_47 hf (fun σ10 hf => ?_)
  refine g_iload X dX2_alter_50 0 rfl ?_
  exact r_iretX X hq dX2_alter_52 hf
def fX2_alter (v1 : Int32) (v2 : Int32) (v3 : Int32) (v4 : Int32) (σ : Mem) : Option (Sum Int32 Nat × Mem) := fX2_alter_e v1 v2 v3 v4 σ
theorem kX2_alter (l : Launch) (v1 : Int32) (v2 : Int32) (v3 : Int32) (v4 : Int32) (σ : Mem) : KXI l yX2_alter wsX2_alter rmX2_alter (fun ad => [.ref (ad 0), .int v1, .int v2, .int v3, .int v4]) σ (fX2_alter v1 v2 v3 v4 σ) := fun r hr => kt_of (by decide +kernel) rfl (fun _ => Nat.le_of_ble_eq_true rfl) (fun C X hne hq => tX2_alter_e X hne hq v1 v2 v3 v4 σ hr)
/-! ### X2_measure -/
abbrev rmX2_measure : Room := { frames := 7, cells := 1, slots := 6, locals := 104 }
theorem infX2_measure_X2 : ∀ w ∈ u_ws RX2 TX2 15, w ∈ wsX2_measure := by decide +kernel
def fX2_measure_24 (v1 : Int32) (σ : Mem) : Option (Sum Int32 Nat × Mem) :=
  ltI (rI σ 0 10) fun x1 =>
  ltM (wI σ 0 10 v1) fun σ2 =>
  ltM (wI σ2 0 14 (0 : Int32)) fun σ3 =>
  some (Sum.inl x1, σ3)
set_option maxHeartbeats 4000000 in
set_option maxRecDepth 100000 in
theorem tX2_measure_24 {C : Ctx} (X : CX C cX2_measure 4 RX2 wsX2_measure rmX2_measure (some .int)) (hne : NH C) {r : Sum Int32 Nat × Mem} (hq : QXI C r) (v1 : Int32) (σ : Mem) (hf : fX2_measure_24 v1 σ = some r) : G C 4 0 0 24 [(0, .ref (adr C 0)), (1, .int v1)] [] σ := by
  unfold fX2_measure_24 at hf
  refine g_aload_n X dX2_measure_24 0 rfl rfl ?_
  refine g_get (q := 0) (kf := 10) (v := .int (rI σ 0 10)) X obj_x rfl infX2_measure_X2 (by decide) (by decide +kernel) rfl dX2_measure_25 ?_
  refine s_istore_n (M := fun x1 => [(3, .int x1), (0, .ref (adr C 0)), (1, .int v1)]) X dX2_measure_28 rfl (by decide) (fun _ => rfl) hf (fun x1 hf => ?_)
  refine g_aload_n X dX2_measure_29 1 rfl rfl ?_
  refine g_iload_n X dX2_measure_30 2 rfl rfl ?_
  refine s_put (q := 0) (kf := 10) X obj_x rfl infX2_measure_X2 tyX2_ok nmX2 (by decide) (by decide +kernel) rfl rfl rfl rfl (fun _ _ => rfl) (fun _ _ => Nat.le_of_ble_eq_true rfl) dX2_measure_31 hf (fun σ2 hf => ?_)
  refine g_aload_n X dX2_measure_34 1 rfl rfl ?_
  refine g_iconst (v := (0 : Int32)) X dX2_measure_35 (by decide) ?_
  refine s_put (q := 0) (kf := 14) X obj_x rfl infX2_measure_X2 tyX2_ok nmX2 (by decide) (by decide +kernel) rfl rfl rfl rfl (fun _ _ => rfl) (fun _ _ => Nat.le_of_ble_eq_true rfl) dX2_measure_36 hf (fun σ3 hf => ?_)
  refine g_iload_n X dX2_measure_39 0 rfl rfl ?_
  exact r_iretX X hq dX2_measure_40 hf
def fX2_measure_e (v1 : Int32) (v2 : Int32) (σ : Mem) : Option (Sum Int32 Nat × Mem) :=
  bndX (fX2_checkRange v1 (0 : Int32) (2 : Int32) σ) fun u1 σ2 =>
  if v1 = (2 : Int32) then (bndX (fX2_checkRange v2 (1 : Int32) (200 : Int32) σ2) fun u3 σ4 =>
  ltM (wI σ4 0 11 v2) fun σ5 =>
  fX2_measure_24 v1 σ5)
  else (fX2_measure_24 v1 σ2)
set_option maxHeartbeats 4000000 in
set_option maxRecDepth 100000 in
theorem tX2_measure_e {C : Ctx} (X : CX C cX2_measure 4 RX2 wsX2_measure rmX2_measure (some .int)) (hne : NH C) {r : Sum Int32 Nat × Mem} (hq : QXI C r) (v1 : Int32) (v2 : Int32) (σ : Mem) (hf : fX2_measure_e v1 v2 σ = some r) : G C 4 0 0 0 [(0, .ref (adr C 0)), (1, .int v1), (2, .int v2)] [] σ := by
  unfold fX2_measure_e at hf
  refine g_iload_n X dX2_measure_0 1 rfl rfl ?_
  refine g_iconst (v := (0 : Int32)) X dX2_measure_1 (by decide) ?_
  refine g_iconst (v := (2 : Int32)) X dX2_measure_2 (by decide) ?_
  refine c_SXV (vs := [.int v1, .int (0 : Int32), .int (2 : Int32)]) (rest := []) X hne (kX2_checkRange (cL C) v1 (0 : Int32) (2 : Int32) σ) (fun s a hts => va_cwS 3 hts gX2_measure_X2_checkRange rfl rfl rfl (by decide +kernel) ⟨Nat.le_of_ble_eq_true rfl, Nat.le_of_ble_eq_true rfl⟩) rfl rfl rfl (Nat.le_of_ble_eq_true rfl) dX2_measure_3 ⟨Nat.le_of_ble_eq_true rfl, Nat.le_of_ble_eq_true rfl⟩ ⟨rfl, rfl⟩ hq hf (fun u1 σ2 hf => ?_)
  refine g_iload_n X dX2_measure_6 1 rfl rfl ?_
  refine g_iconst (v := (2 : Int32)) X dX2_measure_7 (by decide) ?_
  refine g_icmp_ne (tgt := 24) X dX2_measure_8 (by decide) hf (fun hf => ?_) (fun hf => ?_)
  · refine g_sub [0, 1] (L' := [(0, .ref (adr C 0)), (1, .int v1)]) rfl ?_
    exact tX2_measure_24 X hne hq v1 σ2 hf
  · refine g_iload_n X dX2_measure_11 2 rfl rfl ?_
    refine g_iconst (v := (1 : Int32)) X dX2_measure_12 (by decide) ?_
    refine g_sipush (v := (200 : Int32)) X dX2_measure_13 (by decide) ?_
    refine c_SXV (vs := [.int v2, .int (1 : Int32), .int (200 : Int32)]) (rest := []) X hne (kX2_checkRange (cL C) v2 (1 : Int32) (200 : Int32) σ2) (fun s a hts => va_cwS 3 hts gX2_measure_X2_checkRange rfl rfl rfl (by decide +kernel) ⟨Nat.le_of_ble_eq_true rfl, Nat.le_of_ble_eq_true rfl⟩) rfl rfl rfl (Nat.le_of_ble_eq_true rfl) dX2_measure_16 ⟨Nat.le_of_ble_eq_true rfl, Nat.le_of_ble_eq_true rfl⟩ ⟨rfl, rfl⟩ hq hf (fun u3 σ4 hf => ?_)
    refine g_aload_n X dX2_measure_19 0 rfl rfl ?_
    refine g_iload_n X dX2_measure_20 2 rfl rfl ?_
    refine s_put (q := 0) (kf := 11) X obj_x rfl infX2_measure_X2 tyX2_ok nmX2 (by decide) (by decide +kernel) rfl rfl rfl rfl (fun _ _ => rfl) (fun _ _ => Nat.le_of_ble_eq_true rfl) dX2_measure_21 hf (fun σ5 hf => ?_)
    refine g_sub [0, 1] (L' := [(0, .ref (adr C 0)), (1, .int v1)]) rfl ?_
    exact tX2_measure_24 X hne hq v1 σ5 hf
def fX2_measure (v1 : Int32) (v2 : Int32) (σ : Mem) : Option (Sum Int32 Nat × Mem) := fX2_measure_e v1 v2 σ
theorem kX2_measure (l : Launch) (v1 : Int32) (v2 : Int32) (σ : Mem) : KXI l yX2_measure wsX2_measure rmX2_measure (fun ad => [.ref (ad 0), .int v1, .int v2]) σ (fX2_measure v1 v2 σ) := fun r hr => kt_of (by decide +kernel) rfl (fun _ => Nat.le_of_ble_eq_true rfl) (fun C X hne hq => tX2_measure_e X hne hq v1 v2 σ hr)
/-! ### X2_checkWay -/
abbrev rmX2_checkWay : Room := { frames := 7, cells := 1, slots := 6, locals := 104 }
def fX2_checkWay_e (v1 : Int32) (v2 : Int32) (σ : Mem) : Option (Sum Int32 Nat × Mem) :=
  bndX (fX2_checkNumber (0 : Int32) v1 σ) fun u1 σ2 =>
  bndX (fX2_checkNumber (1 : Int32) v2 σ2) fun u3 σ4 =>
  some (Sum.inl (0 : Int32), σ4)
set_option maxHeartbeats 4000000 in
set_option maxRecDepth 100000 in
theorem tX2_checkWay_e {C : Ctx} (X : CX C cX2_checkWay 3 RX2 wsX2_checkWay rmX2_checkWay none) (hne : NH C) {r : Sum Int32 Nat × Mem} (hq : QXV C r) (v1 : Int32) (v2 : Int32) (σ : Mem) (hf : fX2_checkWay_e v1 v2 σ = some r) : G C 3 0 0 0 [(0, .ref (adr C 0)), (1, .int v1), (2, .int v2)] [] σ := by
  unfold fX2_checkWay_e at hf
  refine g_aload_n X dX2_checkWay_0 0 rfl rfl ?_
  refine g_iconst (v := (0 : Int32)) X dX2_checkWay_1 (by decide) ?_
  refine g_iload_n X dX2_checkWay_2 1 rfl rfl ?_
  refine c_VXV (q := 0) (vs := [.int (0 : Int32), .int v1]) (rest := []) X hne (kX2_checkNumber (cL C) (0 : Int32) v1 σ) (fun s a hts => cwV 2 hts gX2_checkWay_X2_checkNumber rfl rfl rfl (by decide +kernel) ⟨Nat.le_of_ble_eq_true rfl, Nat.le_of_ble_eq_true rfl⟩) obj_x (rfl : vwCl[2]? = some (RX2, TX2, 15)) rfl rfl rfl rfl (Nat.le_of_ble_eq_true rfl) dX2_checkWay_3 ⟨Nat.le_of_ble_eq_true rfl, Nat.le_of_ble_eq_true rfl⟩ ⟨rfl, rfl⟩ hq hf (fun u1 σ2 hf => ?_)
  refine g_aload_n X dX2_checkWay_6 0 rfl rfl ?_
  refine g_iconst (v := (1 : Int32)) X dX2_checkWay_7 (by decide) ?_
  refine g_iload_n X dX2_checkWay_8 2 rfl rfl ?_
  refine c_VXV (q := 0) (vs := [.int (1 : Int32), .int v2]) (rest := []) X hne (kX2_checkNumber (cL C) (1 : Int32) v2 σ2) (fun s a hts => cwV 2 hts gX2_checkWay_X2_checkNumber rfl rfl rfl (by decide +kernel) ⟨Nat.le_of_ble_eq_true rfl, Nat.le_of_ble_eq_true rfl⟩) obj_x (rfl : vwCl[2]? = some (RX2, TX2, 15)) rfl rfl rfl rfl (Nat.le_of_ble_eq_true rfl) dX2_checkWay_9 ⟨Nat.le_of_ble_eq_true rfl, Nat.le_of_ble_eq_true rfl⟩ ⟨rfl, rfl⟩ hq hf (fun u3 σ4 hf => ?_)
  exact r_vretX X hq dX2_checkWay_12 hf
def fX2_checkWay (v1 : Int32) (v2 : Int32) (σ : Mem) : Option (Sum Int32 Nat × Mem) := fX2_checkWay_e v1 v2 σ
theorem kX2_checkWay (l : Launch) (v1 : Int32) (v2 : Int32) (σ : Mem) : KXV l yX2_checkWay wsX2_checkWay rmX2_checkWay (fun ad => [.ref (ad 0), .int v1, .int v2]) σ (fX2_checkWay v1 v2 σ) := fun r hr => kt_of (by decide +kernel) rfl (fun _ => Nat.le_of_ble_eq_true rfl) (fun C X hne hq => tX2_checkWay_e X hne hq v1 v2 σ hr)
/-! ### X2_tell -/
abbrev rmX2_tell : Room := { frames := 0, cells := 0, slots := 0, locals := 8 }
def fX2_tell_e (v0 : Nat) (v1 : Int32) (v2 : Int32) (σ : Mem) : Option (Int32 × Mem) :=
  grd (inb v1 (ln v0)) (ltI (rI σ v0 (ix v1)) fun x1 =>
  grd (inb v1 (ln v0)) (ltM (wI σ v0 (ix v1) v2) fun σ2 =>
  some (x1, σ2)))
set_option maxHeartbeats 4000000 in
set_option maxRecDepth 100000 in
theorem tX2_tell_e {C : Ctx} (X : CX C cX2_tell 4 RX2 wsX2_tell rmX2_tell (some .int)) {r : Int32 × Mem} (hq : QI C r) (v0 : Nat) (v1 : Int32) (v2 : Int32) (hv0 : ki v0 = 5) (σ : Mem) (hf : fX2_tell_e v0 v1 v2 σ = some r) : G C 4 0 0 0 [(0, .ref (adr C v0)), (1, .int v1), (2, .int v2)] [] σ := by
  unfold fX2_tell_e at hf
  refine g_aload_n X dX2_tell_0 0 rfl rfl ?_
  refine g_iload_n X dX2_tell_1 1 rfl rfl ?_
  refine g_iald (q := v0) (n := (ln v0)) X hv0 rfl dX2_tell_2 hf (fun hf => ?_)
  refine s_istore_n (M := fun x1 => [(3, .int x1), (0, .ref (adr C v0)), (1, .int v1), (2, .int v2)]) X dX2_tell_3 rfl (by decide) (fun _ => rfl) hf (fun x1 hf => ?_)
  refine g_aload_n X dX2_tell_4 1 rfl rfl ?_
  refine g_iload_n X dX2_tell_5 2 rfl rfl ?_
  refine g_iload_n X dX2_tell_6 3 rfl rfl ?_
  refine s_iast (q := v0) (n := (ln v0)) X hv0 rfl dX2_tell_7 hf (fun σ2 hf => ?_)
  refine g_iload_n X dX2_tell_8 0 rfl rfl ?_
  exact r_iret X hq dX2_tell_9 hf
def fX2_tell (v0 : Nat) (v1 : Int32) (v2 : Int32) (σ : Mem) : Option (Int32 × Mem) := fX2_tell_e v0 v1 v2 σ
theorem kX2_tell (l : Launch) (v0 : Nat) (v1 : Int32) (v2 : Int32) (hv0 : ki v0 = 5) (σ : Mem) : KI l yX2_tell wsX2_tell rmX2_tell (fun ad => [.ref (ad v0), .int v1, .int v2]) σ (fX2_tell v0 v1 v2 σ) := fun r hr => kt_of (by decide +kernel) rfl (fun _ => Nat.le_of_ble_eq_true rfl) (fun C X hne hq => tX2_tell_e X hq v0 v1 v2 hv0 σ hr)
/-! ### X2_own -/
abbrev rmX2_own : Room := { frames := 8, cells := 1, slots := 6, locals := 126 }
theorem infX2_own_X2 : ∀ w ∈ u_ws RX2 TX2 15, w ∈ wsX2_own := by decide +kernel
def fX2_own_e (v1 : Int32) (v2 : Int32) (v3 : Int32) (σ : Mem) : Option (Sum Int32 Nat × Mem) :=
  bndX (fX2_checkWay v1 v2 σ) fun u1 σ2 =>
  bndX (fX2_checkRange v3 (-1 : Int32) (10000 : Int32) σ2) fun u3 σ4 =>
  ltM (wI σ4 0 14 (0 : Int32)) fun σ5 =>
  bnd (fX2_wayOf v1 v2 σ5) fun u6 σ7 =>
  bnd (fX2_tell 7 u6 v3 σ7) fun u8 σ9 =>
  some (Sum.inl u8, σ9)
set_option maxHeartbeats 4000000 in
set_option maxRecDepth 100000 in
theorem tX2_own_e {C : Ctx} (X : CX C cX2_own 4 RX2 wsX2_own rmX2_own (some .int)) (hne : NH C) {r : Sum Int32 Nat × Mem} (hq : QXI C r) (v1 : Int32) (v2 : Int32) (v3 : Int32) (σ : Mem) (hf : fX2_own_e v1 v2 v3 σ = some r) : G C 4 0 0 0 [(0, .ref (adr C 0)), (1, .int v1), (2, .int v2), (3, .int v3)] [] σ := by
  unfold fX2_own_e at hf
  refine g_aload_n X dX2_own_0 0 rfl rfl ?_
  refine g_iload_n X dX2_own_1 1 rfl rfl ?_
  refine g_iload_n X dX2_own_2 2 rfl rfl ?_
  refine c_VXV (q := 0) (vs := [.int v1, .int v2]) (rest := []) X hne (kX2_checkWay (cL C) v1 v2 σ) (fun s a hts => cwV 2 hts gX2_own_X2_checkWay rfl rfl rfl (by decide +kernel) ⟨Nat.le_of_ble_eq_true rfl, Nat.le_of_ble_eq_true rfl⟩) obj_x (rfl : vwCl[2]? = some (RX2, TX2, 15)) rfl rfl rfl rfl (Nat.le_of_ble_eq_true rfl) dX2_own_3 ⟨Nat.le_of_ble_eq_true rfl, Nat.le_of_ble_eq_true rfl⟩ ⟨rfl, rfl⟩ hq hf (fun u1 σ2 hf => ?_)
  refine g_iload_n X dX2_own_6 3 rfl rfl ?_
  refine g_iconst (v := (-1 : Int32)) X dX2_own_7 (by decide) ?_
  refine g_sipush (v := (10000 : Int32)) X dX2_own_8 (by decide) ?_
  refine c_SXV (vs := [.int v3, .int (-1 : Int32), .int (10000 : Int32)]) (rest := []) X hne (kX2_checkRange (cL C) v3 (-1 : Int32) (10000 : Int32) σ2) (fun s a hts => va_cwS 3 hts gX2_own_X2_checkRange rfl rfl rfl (by decide +kernel) ⟨Nat.le_of_ble_eq_true rfl, Nat.le_of_ble_eq_true rfl⟩) rfl rfl rfl (Nat.le_of_ble_eq_true rfl) dX2_own_11 ⟨Nat.le_of_ble_eq_true rfl, Nat.le_of_ble_eq_true rfl⟩ ⟨rfl, rfl⟩ hq hf (fun u3 σ4 hf => ?_)
  refine g_aload_n X dX2_own_14 0 rfl rfl ?_
  refine g_iconst (v := (0 : Int32)) X dX2_own_15 (by decide) ?_
  refine s_put (q := 0) (kf := 14) X obj_x rfl infX2_own_X2 tyX2_ok nmX2 (by decide) (by decide +kernel) rfl rfl rfl rfl (fun _ _ => rfl) (fun _ _ => Nat.le_of_ble_eq_true rfl) dX2_own_16 hf (fun σ5 hf => ?_)
  refine g_aload_n X dX2_own_19 0 rfl rfl ?_
  refine g_get (q := 0) (kf := 2) (v := .ref (adr C 7)) X obj_x rfl infX2_own_X2 (by decide) (by decide +kernel) rfl dX2_own_20 ?_
  refine g_iload_n X dX2_own_23 1 rfl rfl ?_
  refine g_iload_n X dX2_own_24 2 rfl rfl ?_
  refine c_SI (vs := [.int v1, .int v2]) (rest := [.ref (adr C 7)]) X (kX2_wayOf (cL C) v1 v2 σ5) (fun s a hts => va_cwS 2 hts gX2_own_X2_wayOf rfl rfl rfl (by decide +kernel) ⟨Nat.le_of_ble_eq_true rfl, Nat.le_of_ble_eq_true rfl⟩) rfl rfl rfl (Nat.le_of_ble_eq_true rfl) dX2_own_25 ⟨Nat.le_of_ble_eq_true rfl, Nat.le_of_ble_eq_true rfl⟩ hf (fun u6 σ7 hf => ?_)
  refine g_iload_n X dX2_own_28 3 rfl rfl ?_
  refine c_SI (vs := [.ref (adr C 7), .int u6, .int v3]) (rest := []) X (kX2_tell (cL C) 7 u6 v3 rfl σ7) (fun s a hts => va_cwS 3 hts gX2_own_X2_tell rfl rfl rfl (by decide +kernel) ⟨Nat.le_of_ble_eq_true rfl, Nat.le_of_ble_eq_true rfl⟩) rfl rfl rfl (Nat.le_of_ble_eq_true rfl) dX2_own_29 ⟨Nat.le_of_ble_eq_true rfl, Nat.le_of_ble_eq_true rfl⟩ hf (fun u8 σ9 hf => ?_)
  exact r_iretX X hq dX2_own_32 hf
def fX2_own (v1 : Int32) (v2 : Int32) (v3 : Int32) (σ : Mem) : Option (Sum Int32 Nat × Mem) := fX2_own_e v1 v2 v3 σ
theorem kX2_own (l : Launch) (v1 : Int32) (v2 : Int32) (v3 : Int32) (σ : Mem) : KXI l yX2_own wsX2_own rmX2_own (fun ad => [.ref (ad 0), .int v1, .int v2, .int v3]) σ (fX2_own v1 v2 v3 σ) := fun r hr => kt_of (by decide +kernel) rfl (fun _ => Nat.le_of_ble_eq_true rfl) (fun C X hne hq => tX2_own_e X hne hq v1 v2 v3 σ hr)
/-! ### X2_cap -/
abbrev rmX2_cap : Room := { frames := 8, cells := 1, slots := 6, locals := 126 }
theorem infX2_cap_X2 : ∀ w ∈ u_ws RX2 TX2 15, w ∈ wsX2_cap := by decide +kernel
def fX2_cap_e (v1 : Int32) (v2 : Int32) (v3 : Int32) (σ : Mem) : Option (Sum Int32 Nat × Mem) :=
  bndX (fX2_checkWay v1 v2 σ) fun u1 σ2 =>
  bndX (fX2_checkRange v3 (-1 : Int32) (20 : Int32) σ2) fun u3 σ4 =>
  ltM (wI σ4 0 14 (0 : Int32)) fun σ5 =>
  bnd (fX2_wayOf v1 v2 σ5) fun u6 σ7 =>
  bnd (fX2_tell 8 u6 v3 σ7) fun u8 σ9 =>
  some (Sum.inl u8, σ9)
set_option maxHeartbeats 4000000 in
set_option maxRecDepth 100000 in
theorem tX2_cap_e {C : Ctx} (X : CX C cX2_cap 4 RX2 wsX2_cap rmX2_cap (some .int)) (hne : NH C) {r : Sum Int32 Nat × Mem} (hq : QXI C r) (v1 : Int32) (v2 : Int32) (v3 : Int32) (σ : Mem) (hf : fX2_cap_e v1 v2 v3 σ = some r) : G C 4 0 0 0 [(0, .ref (adr C 0)), (1, .int v1), (2, .int v2), (3, .int v3)] [] σ := by
  unfold fX2_cap_e at hf
  refine g_aload_n X dX2_cap_0 0 rfl rfl ?_
  refine g_iload_n X dX2_cap_1 1 rfl rfl ?_
  refine g_iload_n X dX2_cap_2 2 rfl rfl ?_
  refine c_VXV (q := 0) (vs := [.int v1, .int v2]) (rest := []) X hne (kX2_checkWay (cL C) v1 v2 σ) (fun s a hts => cwV 2 hts gX2_cap_X2_checkWay rfl rfl rfl (by decide +kernel) ⟨Nat.le_of_ble_eq_true rfl, Nat.le_of_ble_eq_true rfl⟩) obj_x (rfl : vwCl[2]? = some (RX2, TX2, 15)) rfl rfl rfl rfl (Nat.le_of_ble_eq_true rfl) dX2_cap_3 ⟨Nat.le_of_ble_eq_true rfl, Nat.le_of_ble_eq_true rfl⟩ ⟨rfl, rfl⟩ hq hf (fun u1 σ2 hf => ?_)
  refine g_iload_n X dX2_cap_6 3 rfl rfl ?_
  refine g_iconst (v := (-1 : Int32)) X dX2_cap_7 (by decide) ?_
  refine g_bipush (v := (20 : Int32)) X dX2_cap_8 (by decide) ?_
  refine c_SXV (vs := [.int v3, .int (-1 : Int32), .int (20 : Int32)]) (rest := []) X hne (kX2_checkRange (cL C) v3 (-1 : Int32) (20 : Int32) σ2) (fun s a hts => va_cwS 3 hts gX2_cap_X2_checkRange rfl rfl rfl (by decide +kernel) ⟨Nat.le_of_ble_eq_true rfl, Nat.le_of_ble_eq_true rfl⟩) rfl rfl rfl (Nat.le_of_ble_eq_true rfl) dX2_cap_10 ⟨Nat.le_of_ble_eq_true rfl, Nat.le_of_ble_eq_true rfl⟩ ⟨rfl, rfl⟩ hq hf (fun u3 σ4 hf => ?_)
  refine g_aload_n X dX2_cap_13 0 rfl rfl ?_
  refine g_iconst (v := (0 : Int32)) X dX2_cap_14 (by decide) ?_
  refine s_put (q := 0) (kf := 14) X obj_x rfl infX2_cap_X2 tyX2_ok nmX2 (by decide) (by decide +kernel) rfl rfl rfl rfl (fun _ _ => rfl) (fun _ _ => Nat.le_of_ble_eq_true rfl) dX2_cap_15 hf (fun σ5 hf => ?_)
  refine g_aload_n X dX2_cap_18 0 rfl rfl ?_
  refine g_get (q := 0) (kf := 3) (v := .ref (adr C 8)) X obj_x rfl infX2_cap_X2 (by decide) (by decide +kernel) rfl dX2_cap_19 ?_
  refine g_iload_n X dX2_cap_22 1 rfl rfl ?_
  refine g_iload_n X dX2_cap_23 2 rfl rfl ?_
  refine c_SI (vs := [.int v1, .int v2]) (rest := [.ref (adr C 8)]) X (kX2_wayOf (cL C) v1 v2 σ5) (fun s a hts => va_cwS 2 hts gX2_cap_X2_wayOf rfl rfl rfl (by decide +kernel) ⟨Nat.le_of_ble_eq_true rfl, Nat.le_of_ble_eq_true rfl⟩) rfl rfl rfl (Nat.le_of_ble_eq_true rfl) dX2_cap_24 ⟨Nat.le_of_ble_eq_true rfl, Nat.le_of_ble_eq_true rfl⟩ hf (fun u6 σ7 hf => ?_)
  refine g_iload_n X dX2_cap_27 3 rfl rfl ?_
  refine c_SI (vs := [.ref (adr C 8), .int u6, .int v3]) (rest := []) X (kX2_tell (cL C) 8 u6 v3 rfl σ7) (fun s a hts => va_cwS 3 hts gX2_cap_X2_tell rfl rfl rfl (by decide +kernel) ⟨Nat.le_of_ble_eq_true rfl, Nat.le_of_ble_eq_true rfl⟩) rfl rfl rfl (Nat.le_of_ble_eq_true rfl) dX2_cap_28 ⟨Nat.le_of_ble_eq_true rfl, Nat.le_of_ble_eq_true rfl⟩ hf (fun u8 σ9 hf => ?_)
  exact r_iretX X hq dX2_cap_31 hf
def fX2_cap (v1 : Int32) (v2 : Int32) (v3 : Int32) (σ : Mem) : Option (Sum Int32 Nat × Mem) := fX2_cap_e v1 v2 v3 σ
theorem kX2_cap (l : Launch) (v1 : Int32) (v2 : Int32) (v3 : Int32) (σ : Mem) : KXI l yX2_cap wsX2_cap rmX2_cap (fun ad => [.ref (ad 0), .int v1, .int v2, .int v3]) σ (fX2_cap v1 v2 v3 σ) := fun r hr => kt_of (by decide +kernel) rfl (fun _ => Nat.le_of_ble_eq_true rfl) (fun C X hne hq => tX2_cap_e X hne hq v1 v2 v3 σ hr)
/-! ### X2_terms -/
abbrev rmX2_terms : Room := { frames := 7, cells := 1, slots := 6, locals := 104 }
theorem infX2_terms_X2 : ∀ w ∈ u_ws RX2 TX2 15, w ∈ wsX2_terms := by decide +kernel
def fX2_terms_e (v1 : Int32) (v2 : Int32) (σ : Mem) : Option (Sum Int32 Nat × Mem) :=
  bndX (fX2_checkRange v1 (0 : Int32) (10000 : Int32) σ) fun u1 σ2 =>
  bndX (fX2_checkRange v2 (0 : Int32) (10000 : Int32) σ2) fun u3 σ4 =>
  ltI (rI σ4 0 12) fun x5 =>
  ltM (wI σ4 0 12 v1) fun σ6 =>
  ltM (wI σ6 0 13 v2) fun σ7 =>
  ltM (wI σ7 0 14 (0 : Int32)) fun σ8 =>
  some (Sum.inl x5, σ8)
set_option maxHeartbeats 4000000 in
set_option maxRecDepth 100000 in
theorem tX2_terms_e {C : Ctx} (X : CX C cX2_terms 4 RX2 wsX2_terms rmX2_terms (some .int)) (hne : NH C) {r : Sum Int32 Nat × Mem} (hq : QXI C r) (v1 : Int32) (v2 : Int32) (σ : Mem) (hf : fX2_terms_e v1 v2 σ = some r) : G C 4 0 0 0 [(0, .ref (adr C 0)), (1, .int v1), (2, .int v2)] [] σ := by
  unfold fX2_terms_e at hf
  refine g_iload_n X dX2_terms_0 1 rfl rfl ?_
  refine g_iconst (v := (0 : Int32)) X dX2_terms_1 (by decide) ?_
  refine g_sipush (v := (10000 : Int32)) X dX2_terms_2 (by decide) ?_
  refine c_SXV (vs := [.int v1, .int (0 : Int32), .int (10000 : Int32)]) (rest := []) X hne (kX2_checkRange (cL C) v1 (0 : Int32) (10000 : Int32) σ) (fun s a hts => va_cwS 3 hts gX2_terms_X2_checkRange rfl rfl rfl (by decide +kernel) ⟨Nat.le_of_ble_eq_true rfl, Nat.le_of_ble_eq_true rfl⟩) rfl rfl rfl (Nat.le_of_ble_eq_true rfl) dX2_terms_5 ⟨Nat.le_of_ble_eq_true rfl, Nat.le_of_ble_eq_true rfl⟩ ⟨rfl, rfl⟩ hq hf (fun u1 σ2 hf => ?_)
  refine g_iload_n X dX2_terms_8 2 rfl rfl ?_
  refine g_iconst (v := (0 : Int32)) X dX2_terms_9 (by decide) ?_
  refine g_sipush (v := (10000 : Int32)) X dX2_terms_10 (by decide) ?_
  refine c_SXV (vs := [.int v2, .int (0 : Int32), .int (10000 : Int32)]) (rest := []) X hne (kX2_checkRange (cL C) v2 (0 : Int32) (10000 : Int32) σ2) (fun s a hts => va_cwS 3 hts gX2_terms_X2_checkRange rfl rfl rfl (by decide +kernel) ⟨Nat.le_of_ble_eq_true rfl, Nat.le_of_ble_eq_true rfl⟩) rfl rfl rfl (Nat.le_of_ble_eq_true rfl) dX2_terms_13 ⟨Nat.le_of_ble_eq_true rfl, Nat.le_of_ble_eq_true rfl⟩ ⟨rfl, rfl⟩ hq hf (fun u3 σ4 hf => ?_)
  refine g_aload_n X dX2_terms_16 0 rfl rfl ?_
  refine g_get (q := 0) (kf := 12) (v := .int (rI σ4 0 12)) X obj_x rfl infX2_terms_X2 (by decide) (by decide +kernel) rfl dX2_terms_17 ?_
  refine s_istore_n (M := fun x5 => [(3, .int x5), (0, .ref (adr C 0)), (1, .int v1), (2, .int v2)]) X dX2_terms_20 rfl (by decide) (fun _ => rfl) hf (fun x5 hf => ?_)
  refine g_aload_n X dX2_terms_21 1 rfl rfl ?_
  refine g_iload_n X dX2_terms_22 2 rfl rfl ?_
  refine s_put (q := 0) (kf := 12) X obj_x rfl infX2_terms_X2 tyX2_ok nmX2 (by decide) (by decide +kernel) rfl rfl rfl rfl (fun _ _ => rfl) (fun _ _ => Nat.le_of_ble_eq_true rfl) dX2_terms_23 hf (fun σ6 hf => ?_)
  refine g_aload_n X dX2_terms_26 1 rfl rfl ?_
  refine g_iload_n X dX2_terms_27 3 rfl rfl ?_
  refine s_put (q := 0) (kf := 13) X obj_x rfl infX2_terms_X2 tyX2_ok nmX2 (by decide) (by decide +kernel) rfl rfl rfl rfl (fun _ _ => rfl) (fun _ _ => Nat.le_of_ble_eq_true rfl) dX2_terms_28 hf (fun σ7 hf => ?_)
  refine g_aload_n X dX2_terms_31 1 rfl rfl ?_
  refine g_iconst (v := (0 : Int32)) X dX2_terms_32 (by decide) ?_
  refine s_put (q := 0) (kf := 14) X obj_x rfl infX2_terms_X2 tyX2_ok nmX2 (by decide) (by decide +kernel) rfl rfl rfl rfl (fun _ _ => rfl) (fun _ _ => Nat.le_of_ble_eq_true rfl) dX2_terms_33 hf (fun σ8 hf => ?_)
  refine g_iload_n X dX2_terms_36 0 rfl rfl ?_
  exact r_iretX X hq dX2_terms_37 hf
def fX2_terms (v1 : Int32) (v2 : Int32) (σ : Mem) : Option (Sum Int32 Nat × Mem) := fX2_terms_e v1 v2 σ
theorem kX2_terms (l : Launch) (v1 : Int32) (v2 : Int32) (σ : Mem) : KXI l yX2_terms wsX2_terms rmX2_terms (fun ad => [.ref (ad 0), .int v1, .int v2]) σ (fX2_terms v1 v2 σ) := fun r hr => kt_of (by decide +kernel) rfl (fun _ => Nat.le_of_ble_eq_true rfl) (fun C X hne hq => tX2_terms_e X hne hq v1 v2 σ hr)
/-! ### X2_measured -/
abbrev rmX2_measured : Room := { frames := 1, cells := 0, slots := 0, locals := 13 }
theorem infX2_measured_X2 : ∀ w ∈ u_ws RX2 TX2 15, w ∈ wsX2_measured := by decide +kernel
def fX2_measured_34 (v3 : Int32) (σ : Mem) : Option (Int32 × Mem) :=
  some (v3, σ)
set_option maxHeartbeats 4000000 in
set_option maxRecDepth 100000 in
theorem tX2_measured_34 {C : Ctx} (X : CX C cX2_measured 5 RX2 wsX2_measured rmX2_measured (some .int)) {r : Int32 × Mem} (hq : QI C r) (v3 : Int32) (σ : Mem) (hf : fX2_measured_34 v3 σ = some r) : G C 5 0 0 34 [(3, .int v3)] [] σ := by
  unfold fX2_measured_34 at hf
  refine g_iload_n X dX2_measured_34 0 rfl rfl ?_
  exact r_iret X hq dX2_measured_35 hf
def fX2_measured_e (v1 : Int32) (v2 : Int32) (σ : Mem) : Option (Int32 × Mem) :=
  ltI (abI (v1 - v2)) fun x1 =>
  if (rI σ 0 10) = (1 : Int32) then (some ((x1 * x1), σ))
  else (if (rI σ 0 10) = 0 then (fX2_measured_34 x1 σ)
  else (if (1 : Int32) ≤ (rI σ 0 11) then (grd (decide ((rI σ 0 11) ≠ 0)) (ltI (x1 - x1 / (rI σ 0 11) * (rI σ 0 11)) fun x2 =>
  some ((mnI x2 ((rI σ 0 11) - x2)), σ)))
  else (fX2_measured_34 x1 σ)))
set_option maxHeartbeats 4000000 in
set_option maxRecDepth 100000 in
theorem tX2_measured_e {C : Ctx} (X : CX C cX2_measured 5 RX2 wsX2_measured rmX2_measured (some .int)) {r : Int32 × Mem} (hq : QI C r) (v1 : Int32) (v2 : Int32) (σ : Mem) (hf : fX2_measured_e v1 v2 σ = some r) : G C 5 0 0 0 [(0, .ref (adr C 0)), (1, .int v1), (2, .int v2)] [] σ := by
  unfold fX2_measured_e at hf
  refine g_iload_n X dX2_measured_0 1 rfl rfl ?_
  refine g_iload_n X dX2_measured_1 2 rfl rfl ?_
  refine g_isub X dX2_measured_2 ?_
  refine g_absI X (by decide +kernel) (by decide +kernel) (by decide +kernel) (by decide +kernel) ⟨Nat.le_of_ble_eq_true rfl, Nat.le_of_ble_eq_true rfl, Nat.le_of_ble_eq_true rfl, Nat.le_of_ble_eq_true rfl⟩ dX2_measured_3 ?_
  refine s_istore_n (M := fun x1 => [(3, .int x1), (0, .ref (adr C 0)), (1, .int v1), (2, .int v2)]) X dX2_measured_6 rfl (by decide) (fun _ => rfl) hf (fun x1 hf => ?_)
  refine g_aload_n X dX2_measured_7 1 rfl rfl ?_
  refine g_get (q := 0) (kf := 10) (v := .int (rI σ 0 10)) X obj_x rfl infX2_measured_X2 (by decide) (by decide +kernel) rfl dX2_measured_8 ?_
  refine g_iconst (v := (1 : Int32)) X dX2_measured_11 (by decide) ?_
  refine g_icmp_ne (tgt := 19) X dX2_measured_12 (by decide) hf (fun hf => ?_) (fun hf => ?_)
  · refine g_aload_n X dX2_measured_19 1 rfl rfl ?_
    refine g_get (q := 0) (kf := 10) (v := .int (rI σ 0 10)) X obj_x rfl infX2_measured_X2 (by decide) (by decide +kernel) rfl dX2_measured_20 ?_
    refine g_if_eq (tgt := 34) X dX2_measured_23 (by decide) hf (fun hf => ?_) (fun hf => ?_)
    · refine g_sub [0] (L' := [(3, .int x1)]) rfl ?_
      exact tX2_measured_34 X hq x1 σ hf
    · refine g_aload_n X dX2_measured_26 1 rfl rfl ?_
      refine g_get (q := 0) (kf := 11) (v := .int (rI σ 0 11)) X obj_x rfl infX2_measured_X2 (by decide) (by decide +kernel) rfl dX2_measured_27 ?_
      refine g_iconst (v := (1 : Int32)) X dX2_measured_30 (by decide) ?_
      refine g_icmp_ge (tgt := 36) X dX2_measured_31 (by decide) hf (fun hf => ?_) (fun hf => ?_)
      · refine g_iload_n X dX2_measured_36 0 rfl rfl ?_
        refine g_aload_n X dX2_measured_37 1 rfl rfl ?_
        refine g_get (q := 0) (kf := 11) (v := .int (rI σ 0 11)) X obj_x rfl infX2_measured_X2 (by decide) (by decide +kernel) rfl dX2_measured_38 ?_
        refine g_irem X dX2_measured_41 hf (fun hf => ?_)
        refine s_istore (M := fun x2 => [(4, .int x2), (3, .int x1), (0, .ref (adr C 0)), (1, .int v1), (2, .int v2)]) X dX2_measured_42 (by decide) (fun _ => rfl) hf (fun x2 hf => ?_)
        refine g_iload X dX2_measured_44 0 rfl ?_
        refine g_aload_n X dX2_measured_46 2 rfl rfl ?_
        refine g_get (q := 0) (kf := 11) (v := .int (rI σ 0 11)) X obj_x rfl infX2_measured_X2 (by decide) (by decide +kernel) rfl dX2_measured_47 ?_
        refine g_iload X dX2_measured_50 0 rfl ?_
        refine g_isub X dX2_measured_52 ?_
        refine g_minI X (by decide +kernel) (by decide +kernel) (by decide +kernel) (by decide +kernel) ⟨Nat.le_of_ble_eq_true rfl, Nat.le_of_ble_eq_true rfl, Nat.le_of_ble_eq_true rfl, Nat.le_of_ble_eq_true rfl⟩ dX2_measured_53 ?_
        exact r_iret X hq dX2_measured_56 hf
      · refine g_sub [0] (L' := [(3, .int x1)]) rfl ?_
        exact tX2_measured_34 X hq x1 σ hf
  · refine g_iload_n X dX2_measured_15 0 rfl rfl ?_
    refine g_iload_n X dX2_measured_16 0 rfl rfl ?_
    refine g_imul X dX2_measured_17 ?_
    exact r_iret X hq dX2_measured_18 hf
def fX2_measured (v1 : Int32) (v2 : Int32) (σ : Mem) : Option (Int32 × Mem) := fX2_measured_e v1 v2 σ
theorem kX2_measured (l : Launch) (v1 : Int32) (v2 : Int32) (σ : Mem) : KI l yX2_measured wsX2_measured rmX2_measured (fun ad => [.ref (ad 0), .int v1, .int v2]) σ (fX2_measured v1 v2 σ) := fun r hr => kt_of (by decide +kernel) rfl (fun _ => Nat.le_of_ble_eq_true rfl) (fun C X hne hq => tX2_measured_e X hq v1 v2 σ hr)
/-! ### X2_unitCost -/
abbrev rmX2_unitCost : Room := { frames := 2, cells := 0, slots := 0, locals := 37 }
theorem infX2_unitCost_X1 : ∀ w ∈ u_ws RX1 TX1 3, w ∈ wsX2_unitCost := by decide +kernel
theorem infX2_unitCost_X2 : ∀ w ∈ u_ws RX2 TX2 15, w ∈ wsX2_unitCost := by decide +kernel
def fX2_unitCost_42 (s0 : Int32) (σ : Mem) : Option (Int32 × Mem) :=
  some (s0, σ)
set_option maxHeartbeats 4000000 in
set_option maxRecDepth 100000 in
theorem tX2_unitCost_42 {C : Ctx} (X : CX C cX2_unitCost 4 RX2 wsX2_unitCost rmX2_unitCost (some .int)) {r : Int32 × Mem} (hq : QI C r) (s0 : Int32) (σ : Mem) (hf : fX2_unitCost_42 s0 σ = some r) : G C 4 0 0 42 [] [.int s0] σ := by
  unfold fX2_unitCost_42 at hf
  exact r_iret X hq dX2_unitCost_42 hf
def fX2_unitCost_e (v1 : Int32) (v2 : Int32) (σ : Mem) : Option (Int32 × Mem) :=
  bnd (fX2_wayOf v1 v2 σ) fun u1 σ2 =>
  grd (inb u1 25) (ltI (rI σ2 7 (ix u1)) fun x3 =>
  if x3 = (-1 : Int32) then (grd (inb v1 5) (grd (inb v2 5) (bnd (fX2_measured (rI σ2 2 (ix v1)) (rI σ2 5 (ix v2)) σ2) fun u4 σ5 =>
  fX2_unitCost_42 u4 σ5)))
  else (fX2_unitCost_42 x3 σ2))
set_option maxHeartbeats 4000000 in
set_option maxRecDepth 100000 in
theorem tX2_unitCost_e {C : Ctx} (X : CX C cX2_unitCost 4 RX2 wsX2_unitCost rmX2_unitCost (some .int)) {r : Int32 × Mem} (hq : QI C r) (v1 : Int32) (v2 : Int32) (σ : Mem) (hf : fX2_unitCost_e v1 v2 σ = some r) : G C 4 0 0 0 [(0, .ref (adr C 0)), (1, .int v1), (2, .int v2)] [] σ := by
  unfold fX2_unitCost_e at hf
  refine g_aload_n X dX2_unitCost_0 0 rfl rfl ?_
  refine g_get (q := 0) (kf := 2) (v := .ref (adr C 7)) X obj_x rfl infX2_unitCost_X2 (by decide) (by decide +kernel) rfl dX2_unitCost_1 ?_
  refine g_iload_n X dX2_unitCost_4 1 rfl rfl ?_
  refine g_iload_n X dX2_unitCost_5 2 rfl rfl ?_
  refine c_SI (vs := [.int v1, .int v2]) (rest := [.ref (adr C 7)]) X (kX2_wayOf (cL C) v1 v2 σ) (fun s a hts => va_cwS 2 hts gX2_unitCost_X2_wayOf rfl rfl rfl (by decide +kernel) ⟨Nat.le_of_ble_eq_true rfl, Nat.le_of_ble_eq_true rfl⟩) rfl rfl rfl (Nat.le_of_ble_eq_true rfl) dX2_unitCost_6 ⟨Nat.le_of_ble_eq_true rfl, Nat.le_of_ble_eq_true rfl⟩ hf (fun u1 σ2 hf => ?_)
  refine g_iald (q := 7) (n := 25) X rfl rfl dX2_unitCost_9 hf (fun hf => ?_)
  refine s_istore_n (M := fun x3 => [(3, .int x3), (0, .ref (adr C 0)), (1, .int v1), (2, .int v2)]) X dX2_unitCost_10 rfl (by decide) (fun _ => rfl) hf (fun x3 hf => ?_)
  refine g_iload_n X dX2_unitCost_11 0 rfl rfl ?_
  refine g_iconst (v := (-1 : Int32)) X dX2_unitCost_12 (by decide) ?_
  refine g_icmp_eq (tgt := 20) X dX2_unitCost_13 (by decide) hf (fun hf => ?_) (fun hf => ?_)
  · refine g_aload_n X dX2_unitCost_20 1 rfl rfl ?_
    refine g_aload_n X dX2_unitCost_21 1 rfl rfl ?_
    refine g_get (q := 0) (kf := 0) (v := .ref (adr C 1)) X obj_x rfl infX2_unitCost_X2 (by decide) (by decide +kernel) rfl dX2_unitCost_22 ?_
    refine g_get (q := 1) (kf := 0) (v := .ref (adr C 2)) X (obj_s (k := 1) rfl) rfl infX2_unitCost_X1 (by decide) (by decide +kernel) rfl dX2_unitCost_25 ?_
    refine g_iload_n X dX2_unitCost_28 2 rfl rfl ?_
    refine g_iald (q := 2) (n := 5) X rfl rfl dX2_unitCost_29 hf (fun hf => ?_)
    refine g_aload_n X dX2_unitCost_30 1 rfl rfl ?_
    refine g_get (q := 0) (kf := 1) (v := .ref (adr C 4)) X obj_x rfl infX2_unitCost_X2 (by decide) (by decide +kernel) rfl dX2_unitCost_31 ?_
    refine g_get (q := 4) (kf := 0) (v := .ref (adr C 5)) X (obj_s (k := 4) rfl) rfl infX2_unitCost_X1 (by decide) (by decide +kernel) rfl dX2_unitCost_34 ?_
    refine g_iload_n X dX2_unitCost_37 3 rfl rfl ?_
    refine g_iald (q := 5) (n := 5) X rfl rfl dX2_unitCost_38 hf (fun hf => ?_)
    refine c_VI (q := 0) (vs := [.int (rI σ2 2 (ix v1)), .int (rI σ2 5 (ix v2))]) (rest := []) X (kX2_measured (cL C) (rI σ2 2 (ix v1)) (rI σ2 5 (ix v2)) σ2) (fun s a hts => cwV 2 hts gX2_unitCost_X2_measured rfl rfl rfl (by decide +kernel) ⟨Nat.le_of_ble_eq_true rfl, Nat.le_of_ble_eq_true rfl⟩) obj_x (rfl : vwCl[2]? = some (RX2, TX2, 15)) rfl rfl rfl rfl (Nat.le_of_ble_eq_true rfl) dX2_unitCost_39 ⟨Nat.le_of_ble_eq_true rfl, Nat.le_of_ble_eq_true rfl⟩ hf (fun u4 σ5 hf => ?_)
    refine g_sub [] (L' := []) rfl ?_
    exact tX2_unitCost_42 X hq u4 σ5 hf
  · refine g_iload_n X dX2_unitCost_16 0 rfl rfl ?_
    refine g_goto (tgt := 42) X dX2_unitCost_17 (by decide) ?_
    refine g_sub [] (L' := []) rfl ?_
    exact tX2_unitCost_42 X hq x3 σ2 hf
def fX2_unitCost (v1 : Int32) (v2 : Int32) (σ : Mem) : Option (Int32 × Mem) := fX2_unitCost_e v1 v2 σ
theorem kX2_unitCost (l : Launch) (v1 : Int32) (v2 : Int32) (σ : Mem) : KI l yX2_unitCost wsX2_unitCost rmX2_unitCost (fun ad => [.ref (ad 0), .int v1, .int v2]) σ (fX2_unitCost v1 v2 σ) := fun r hr => kt_of (by decide +kernel) rfl (fun _ => Nat.le_of_ble_eq_true rfl) (fun C X hne hq => tX2_unitCost_e X hq v1 v2 σ hr)
/-! ### X2_unit -/
abbrev rmX2_unit : Room := { frames := 8, cells := 1, slots := 6, locals := 126 }
def fX2_unit_e (v1 : Int32) (v2 : Int32) (σ : Mem) : Option (Sum Int32 Nat × Mem) :=
  bndX (fX2_checkWay v1 v2 σ) fun u1 σ2 =>
  bnd (fX2_unitCost v1 v2 σ2) fun u3 σ4 =>
  some (Sum.inl u3, σ4)
set_option maxHeartbeats 4000000 in
set_option maxRecDepth 100000 in
theorem tX2_unit_e {C : Ctx} (X : CX C cX2_unit 3 RX2 wsX2_unit rmX2_unit (some .int)) (hne : NH C) {r : Sum Int32 Nat × Mem} (hq : QXI C r) (v1 : Int32) (v2 : Int32) (σ : Mem) (hf : fX2_unit_e v1 v2 σ = some r) : G C 3 0 0 0 [(0, .ref (adr C 0)), (1, .int v1), (2, .int v2)] [] σ := by
  unfold fX2_unit_e at hf
  refine g_aload_n X dX2_unit_0 0 rfl rfl ?_
  refine g_iload_n X dX2_unit_1 1 rfl rfl ?_
  refine g_iload_n X dX2_unit_2 2 rfl rfl ?_
  refine c_VXV (q := 0) (vs := [.int v1, .int v2]) (rest := []) X hne (kX2_checkWay (cL C) v1 v2 σ) (fun s a hts => cwV 2 hts gX2_unit_X2_checkWay rfl rfl rfl (by decide +kernel) ⟨Nat.le_of_ble_eq_true rfl, Nat.le_of_ble_eq_true rfl⟩) obj_x (rfl : vwCl[2]? = some (RX2, TX2, 15)) rfl rfl rfl rfl (Nat.le_of_ble_eq_true rfl) dX2_unit_3 ⟨Nat.le_of_ble_eq_true rfl, Nat.le_of_ble_eq_true rfl⟩ ⟨rfl, rfl⟩ hq hf (fun u1 σ2 hf => ?_)
  refine g_aload_n X dX2_unit_6 0 rfl rfl ?_
  refine g_iload_n X dX2_unit_7 1 rfl rfl ?_
  refine g_iload_n X dX2_unit_8 2 rfl rfl ?_
  refine c_VI (q := 0) (vs := [.int v1, .int v2]) (rest := []) X (kX2_unitCost (cL C) v1 v2 σ2) (fun s a hts => cwV 2 hts gX2_unit_X2_unitCost rfl rfl rfl (by decide +kernel) ⟨Nat.le_of_ble_eq_true rfl, Nat.le_of_ble_eq_true rfl⟩) obj_x (rfl : vwCl[2]? = some (RX2, TX2, 15)) rfl rfl rfl rfl (Nat.le_of_ble_eq_true rfl) dX2_unit_9 ⟨Nat.le_of_ble_eq_true rfl, Nat.le_of_ble_eq_true rfl⟩ hf (fun u3 σ4 hf => ?_)
  exact r_iretX X hq dX2_unit_12 hf
def fX2_unit (v1 : Int32) (v2 : Int32) (σ : Mem) : Option (Sum Int32 Nat × Mem) := fX2_unit_e v1 v2 σ
theorem kX2_unit (l : Launch) (v1 : Int32) (v2 : Int32) (σ : Mem) : KXI l yX2_unit wsX2_unit rmX2_unit (fun ad => [.ref (ad 0), .int v1, .int v2]) σ (fX2_unit v1 v2 σ) := fun r hr => kt_of (by decide +kernel) rfl (fun _ => Nat.le_of_ble_eq_true rfl) (fun C X hne hq => tX2_unit_e X hne hq v1 v2 σ hr)
/-! ### X2_layOut -/
abbrev rmX2_layOut : Room := { frames := 3, cells := 0, slots := 0, locals := 60 }
theorem infX2_layOut_X1 : ∀ w ∈ u_ws RX1 TX1 3, w ∈ wsX2_layOut := by decide +kernel
theorem infX2_layOut_X2 : ∀ w ∈ u_ws RX2 TX2 15, w ∈ wsX2_layOut := by decide +kernel
def fX2_layOut_93b (r80 : Nat → Int32 → Mem → Option (Int32 × Mem)) (r93 : Nat → Int32 → Int32 → Mem → Option (Int32 × Mem)) (v1 : Nat) (v2 : Int32) (v3 : Int32) (σ : Mem) : Option (Int32 × Mem) :=
  if (rI σ 4 2) ≤ v3 then (r80 v1 (v2 + 1) σ)
  else (bnd (fX2_wayOf v2 v3 σ) fun u1 σ2 =>
  bnd (fX2_unitCost v2 v3 σ2) fun u3 σ4 =>
  bnd (fX2_wayOf v2 v3 σ4) fun u5 σ6 =>
  grd (inb u5 25) (bnd (fX0_open v1 u1 u3 (rI σ6 8 (ix u5)) σ6) fun u7 σ8 =>
  r93 v1 v2 (v3 + 1) σ8))
def fX2_layOut_93 (r80 : Nat → Int32 → Mem → Option (Int32 × Mem)) : Nat → Nat → Int32 → Int32 → Mem → Option (Int32 × Mem)
  | 0 => fun _ _ _ _ => none
  | n + 1 => fX2_layOut_93b r80 (fX2_layOut_93 r80 n)
set_option maxHeartbeats 4000000 in
set_option maxRecDepth 100000 in
theorem tX2_layOut_93b {C : Ctx} (X : CX C cX2_layOut 4 RX2 wsX2_layOut rmX2_layOut none) {r : Int32 × Mem} (hq : QV C r) (r80 : Nat → Int32 → Mem → Option (Int32 × Mem)) (ih80 : ∀ (v1 : Nat) (v2 : Int32) (σ : Mem), ki v1 = 3 → r80 v1 v2 σ = some r → G C 4 0 0 80 [(0, .ref (adr C 0)), (1, .ref (adr C v1)), (2, .int v2)] [] σ) (r93 : Nat → Int32 → Int32 → Mem → Option (Int32 × Mem)) (ih93 : ∀ (v1 : Nat) (v2 : Int32) (v3 : Int32) (σ : Mem), ki v1 = 3 → r93 v1 v2 v3 σ = some r → G C 4 0 0 93 [(0, .ref (adr C 0)), (1, .ref (adr C v1)), (2, .int v2), (3, .int v3)] [] σ) (v1 : Nat) (v2 : Int32) (v3 : Int32) (hv1 : ki v1 = 3) (σ : Mem) (hf : fX2_layOut_93b r80 r93 v1 v2 v3 σ = some r) : G C 4 0 0 93 [(0, .ref (adr C 0)), (1, .ref (adr C v1)), (2, .int v2), (3, .int v3)] [] σ := by
  unfold fX2_layOut_93b at hf
  refine g_iload_n X dX2_layOut_93 3 rfl rfl ?_
  refine g_aload_n X dX2_layOut_94 0 rfl rfl ?_
  refine g_get (q := 0) (kf := 1) (v := .ref (adr C 4)) X obj_x rfl infX2_layOut_X2 (by decide) (by decide +kernel) rfl dX2_layOut_95 ?_
  refine g_get (q := 4) (kf := 2) (v := .int (rI σ 4 2)) X (obj_s (k := 4) rfl) rfl infX2_layOut_X1 (by decide) (by decide +kernel) rfl dX2_layOut_98 ?_
  refine g_icmp_ge (tgt := 135) X dX2_layOut_101 (by decide) hf (fun hf => ?_) (fun hf => ?_)
  · refine g_iinc (v := (v2 + 1)) (L' := [(2, .int (v2 + 1)), (0, .ref (adr C 0)), (1, .ref (adr C v1)), (3, .int v3)]) X dX2_layOut_135 2 rfl rfl (by decide) rfl ?_
    refine g_goto (tgt := 80) X dX2_layOut_138 (by decide) ?_
    refine g_sub [1, 2, 0] (L' := [(0, .ref (adr C 0)), (1, .ref (adr C v1)), (2, .int (v2 + 1))]) rfl ?_
    exact ih80 v1 (v2 + 1) σ hv1 hf
  · refine g_aload_n X dX2_layOut_104 1 rfl rfl ?_
    refine g_iload_n X dX2_layOut_105 2 rfl rfl ?_
    refine g_iload_n X dX2_layOut_106 3 rfl rfl ?_
    refine c_SI (vs := [.int v2, .int v3]) (rest := [.ref (adr C v1)]) X (kX2_wayOf (cL C) v2 v3 σ) (fun s a hts => va_cwS 2 hts gX2_layOut_X2_wayOf rfl rfl rfl (by decide +kernel) ⟨Nat.le_of_ble_eq_true rfl, Nat.le_of_ble_eq_true rfl⟩) rfl rfl rfl (Nat.le_of_ble_eq_true rfl) dX2_layOut_107 ⟨Nat.le_of_ble_eq_true rfl, Nat.le_of_ble_eq_true rfl⟩ hf (fun u1 σ2 hf => ?_)
    refine g_aload_n X dX2_layOut_110 0 rfl rfl ?_
    refine g_iload_n X dX2_layOut_111 2 rfl rfl ?_
    refine g_iload_n X dX2_layOut_112 3 rfl rfl ?_
    refine c_VI (q := 0) (vs := [.int v2, .int v3]) (rest := [.int u1, .ref (adr C v1)]) X (kX2_unitCost (cL C) v2 v3 σ2) (fun s a hts => cwV 2 hts gX2_layOut_X2_unitCost rfl rfl rfl (by decide +kernel) ⟨Nat.le_of_ble_eq_true rfl, Nat.le_of_ble_eq_true rfl⟩) obj_x (rfl : vwCl[2]? = some (RX2, TX2, 15)) rfl rfl rfl rfl (Nat.le_of_ble_eq_true rfl) dX2_layOut_113 ⟨Nat.le_of_ble_eq_true rfl, Nat.le_of_ble_eq_true rfl⟩ hf (fun u3 σ4 hf => ?_)
    refine g_aload_n X dX2_layOut_116 0 rfl rfl ?_
    refine g_get (q := 0) (kf := 3) (v := .ref (adr C 8)) X obj_x rfl infX2_layOut_X2 (by decide) (by decide +kernel) rfl dX2_layOut_117 ?_
    refine g_iload_n X dX2_layOut_120 2 rfl rfl ?_
    refine g_iload_n X dX2_layOut_121 3 rfl rfl ?_
    refine c_SI (vs := [.int v2, .int v3]) (rest := [.ref (adr C 8), .int u3, .int u1, .ref (adr C v1)]) X (kX2_wayOf (cL C) v2 v3 σ4) (fun s a hts => va_cwS 2 hts gX2_layOut_X2_wayOf rfl rfl rfl (by decide +kernel) ⟨Nat.le_of_ble_eq_true rfl, Nat.le_of_ble_eq_true rfl⟩) rfl rfl rfl (Nat.le_of_ble_eq_true rfl) dX2_layOut_122 ⟨Nat.le_of_ble_eq_true rfl, Nat.le_of_ble_eq_true rfl⟩ hf (fun u5 σ6 hf => ?_)
    refine g_iald (q := 8) (n := 25) X rfl rfl dX2_layOut_125 hf (fun hf => ?_)
    refine c_VV (q := v1) (vs := [.int u1, .int u3, .int (rI σ6 8 (ix u5))]) (rest := []) X (kX0_open (cL C) v1 u1 u3 (rI σ6 8 (ix u5)) hv1 σ6) (fun s a hts => cwV 3 hts gX2_layOut_X0_open rfl rfl rfl (by decide +kernel) ⟨Nat.le_of_ble_eq_true rfl, Nat.le_of_ble_eq_true rfl⟩) (obj_p hv1) (rfl : vwCl[0]? = some (RX0, TX0, 15)) rfl rfl rfl rfl (Nat.le_of_ble_eq_true rfl) dX2_layOut_126 ⟨Nat.le_of_ble_eq_true rfl, Nat.le_of_ble_eq_true rfl⟩ hf (fun u7 σ8 hf => ?_)
    refine g_iinc (v := (v3 + 1)) (L' := [(3, .int (v3 + 1)), (0, .ref (adr C 0)), (1, .ref (adr C v1)), (2, .int v2)]) X dX2_layOut_129 3 rfl rfl (by decide) rfl ?_
    refine g_goto (tgt := 93) X dX2_layOut_132 (by decide) ?_
    refine g_sub [1, 2, 3, 0] (L' := [(0, .ref (adr C 0)), (1, .ref (adr C v1)), (2, .int v2), (3, .int (v3 + 1))]) rfl ?_
    exact ih93 v1 v2 (v3 + 1) σ8 hv1 hf
set_option maxHeartbeats 4000000 in
set_option maxRecDepth 100000 in
theorem tX2_layOut_93 {C : Ctx} (X : CX C cX2_layOut 4 RX2 wsX2_layOut rmX2_layOut none) {r : Int32 × Mem} (hq : QV C r) (r80 : Nat → Int32 → Mem → Option (Int32 × Mem)) (ih80 : ∀ (v1 : Nat) (v2 : Int32) (σ : Mem), ki v1 = 3 → r80 v1 v2 σ = some r → G C 4 0 0 80 [(0, .ref (adr C 0)), (1, .ref (adr C v1)), (2, .int v2)] [] σ) : ∀ (n : Nat) (v1 : Nat) (v2 : Int32) (v3 : Int32) (hv1 : ki v1 = 3) (σ : Mem) (hf : fX2_layOut_93 r80 n v1 v2 v3 σ = some r), G C 4 0 0 93 [(0, .ref (adr C 0)), (1, .ref (adr C v1)), (2, .int v2), (3, .int v3)] [] σ := by
  intro n
  induction n with
  | zero => intros; rename_i hf; exact absurd (show (none : Option (Int32 × Mem)) = some r from hf) (by simp)
  | succ n ih =>
    intro v1 v2 v3 hv1 σ hf
    exact tX2_layOut_93b X hq r80 ih80 (fX2_layOut_93 r80 n) (fun v1 v2 v3 σ hv1 hf => ih v1 v2 v3 hv1 σ hf) v1 v2 v3 hv1 σ hf
def fX2_layOut_80b (r80 : Nat → Int32 → Mem → Option (Int32 × Mem)) (v1 : Nat) (v2 : Int32) (σ : Mem) : Option (Int32 × Mem) :=
  if (rI σ 1 2) ≤ v2 then (some ((0 : Int32), σ))
  else (fX2_layOut_93 r80 FU v1 v2 (0 : Int32) σ)
def fX2_layOut_80 : Nat → Nat → Int32 → Mem → Option (Int32 × Mem)
  | 0 => fun _ _ _ => none
  | n + 1 => fX2_layOut_80b (fX2_layOut_80 n)
set_option maxHeartbeats 4000000 in
set_option maxRecDepth 100000 in
theorem tX2_layOut_80b {C : Ctx} (X : CX C cX2_layOut 4 RX2 wsX2_layOut rmX2_layOut none) {r : Int32 × Mem} (hq : QV C r) (r80 : Nat → Int32 → Mem → Option (Int32 × Mem)) (ih80 : ∀ (v1 : Nat) (v2 : Int32) (σ : Mem), ki v1 = 3 → r80 v1 v2 σ = some r → G C 4 0 0 80 [(0, .ref (adr C 0)), (1, .ref (adr C v1)), (2, .int v2)] [] σ) (v1 : Nat) (v2 : Int32) (hv1 : ki v1 = 3) (σ : Mem) (hf : fX2_layOut_80b r80 v1 v2 σ = some r) : G C 4 0 0 80 [(0, .ref (adr C 0)), (1, .ref (adr C v1)), (2, .int v2)] [] σ := by
  unfold fX2_layOut_80b at hf
  refine g_iload_n X dX2_layOut_80 2 rfl rfl ?_
  refine g_aload_n X dX2_layOut_81 0 rfl rfl ?_
  refine g_get (q := 0) (kf := 0) (v := .ref (adr C 1)) X obj_x rfl infX2_layOut_X2 (by decide) (by decide +kernel) rfl dX2_layOut_82 ?_
  refine g_get (q := 1) (kf := 2) (v := .int (rI σ 1 2)) X (obj_s (k := 1) rfl) rfl infX2_layOut_X1 (by decide) (by decide +kernel) rfl dX2_layOut_85 ?_
  refine g_icmp_ge (tgt := 141) X dX2_layOut_88 (by decide) hf (fun hf => ?_) (fun hf => ?_)
  · exact r_vret X hq dX2_layOut_141 hf
  · refine g_iconst (v := (0 : Int32)) X dX2_layOut_91 (by decide) ?_
    refine g_istore_n (L' := [(3, .int (0 : Int32)), (0, .ref (adr C 0)), (1, .ref (adr C v1)), (2, .int v2)]) X dX2_layOut_92 rfl (by decide) rfl ?_
    refine g_sub [1, 2, 3, 0] (L' := [(0, .ref (adr C 0)), (1, .ref (adr C v1)), (2, .int v2), (3, .int (0 : Int32))]) rfl ?_
    exact tX2_layOut_93 X hq r80 ih80 FU v1 v2 (0 : Int32) hv1 σ hf
set_option maxHeartbeats 4000000 in
set_option maxRecDepth 100000 in
theorem tX2_layOut_80 {C : Ctx} (X : CX C cX2_layOut 4 RX2 wsX2_layOut rmX2_layOut none) {r : Int32 × Mem} (hq : QV C r) : ∀ (n : Nat) (v1 : Nat) (v2 : Int32) (hv1 : ki v1 = 3) (σ : Mem) (hf : fX2_layOut_80 n v1 v2 σ = some r), G C 4 0 0 80 [(0, .ref (adr C 0)), (1, .ref (adr C v1)), (2, .int v2)] [] σ := by
  intro n
  induction n with
  | zero => intros; rename_i hf; exact absurd (show (none : Option (Int32 × Mem)) = some r from hf) (by simp)
  | succ n ih =>
    intro v1 v2 hv1 σ hf
    exact tX2_layOut_80b X hq (fX2_layOut_80 n) (fun v1 v2 σ hv1 hf => ih v1 v2 hv1 σ hf) v1 v2 hv1 σ hf
def fX2_layOut_47b (r47 : Nat → Int32 → Mem → Option (Int32 × Mem)) (v1 : Nat) (v2 : Int32) (σ : Mem) : Option (Int32 × Mem) :=
  if (rI σ 4 2) ≤ v2 then (fX2_layOut_80 FU v1 (0 : Int32) σ)
  else (grd (inb v2 5) (bnd (fX0_letLack v1 v2 (rI σ 6 (ix v2)) σ) fun u1 σ2 =>
  r47 v1 (v2 + 1) σ2))
def fX2_layOut_47 : Nat → Nat → Int32 → Mem → Option (Int32 × Mem)
  | 0 => fun _ _ _ => none
  | n + 1 => fX2_layOut_47b (fX2_layOut_47 n)
set_option maxHeartbeats 4000000 in
set_option maxRecDepth 100000 in
theorem tX2_layOut_47b {C : Ctx} (X : CX C cX2_layOut 4 RX2 wsX2_layOut rmX2_layOut none) {r : Int32 × Mem} (hq : QV C r) (r47 : Nat → Int32 → Mem → Option (Int32 × Mem)) (ih47 : ∀ (v1 : Nat) (v2 : Int32) (σ : Mem), ki v1 = 3 → r47 v1 v2 σ = some r → G C 4 0 0 47 [(0, .ref (adr C 0)), (1, .ref (adr C v1)), (2, .int v2)] [] σ) (v1 : Nat) (v2 : Int32) (hv1 : ki v1 = 3) (σ : Mem) (hf : fX2_layOut_47b r47 v1 v2 σ = some r) : G C 4 0 0 47 [(0, .ref (adr C 0)), (1, .ref (adr C v1)), (2, .int v2)] [] σ := by
  unfold fX2_layOut_47b at hf
  refine g_iload_n X dX2_layOut_47 2 rfl rfl ?_
  refine g_aload_n X dX2_layOut_48 0 rfl rfl ?_
  refine g_get (q := 0) (kf := 1) (v := .ref (adr C 4)) X obj_x rfl infX2_layOut_X2 (by decide) (by decide +kernel) rfl dX2_layOut_49 ?_
  refine g_get (q := 4) (kf := 2) (v := .int (rI σ 4 2)) X (obj_s (k := 4) rfl) rfl infX2_layOut_X1 (by decide) (by decide +kernel) rfl dX2_layOut_52 ?_
  refine g_icmp_ge (tgt := 78) X dX2_layOut_55 (by decide) hf (fun hf => ?_) (fun hf => ?_)
  · refine g_iconst (v := (0 : Int32)) X dX2_layOut_78 (by decide) ?_
    refine g_istore_n (L' := [(2, .int (0 : Int32)), (0, .ref (adr C 0)), (1, .ref (adr C v1))]) X dX2_layOut_79 rfl (by decide) rfl ?_
    refine g_sub [1, 2, 0] (L' := [(0, .ref (adr C 0)), (1, .ref (adr C v1)), (2, .int (0 : Int32))]) rfl ?_
    exact tX2_layOut_80 X hq FU v1 (0 : Int32) hv1 σ hf
  · refine g_aload_n X dX2_layOut_58 1 rfl rfl ?_
    refine g_iload_n X dX2_layOut_59 2 rfl rfl ?_
    refine g_aload_n X dX2_layOut_60 0 rfl rfl ?_
    refine g_get (q := 0) (kf := 1) (v := .ref (adr C 4)) X obj_x rfl infX2_layOut_X2 (by decide) (by decide +kernel) rfl dX2_layOut_61 ?_
    refine g_get (q := 4) (kf := 1) (v := .ref (adr C 6)) X (obj_s (k := 4) rfl) rfl infX2_layOut_X1 (by decide) (by decide +kernel) rfl dX2_layOut_64 ?_
    refine g_iload_n X dX2_layOut_67 2 rfl rfl ?_
    refine g_iald (q := 6) (n := 5) X rfl rfl dX2_layOut_68 hf (fun hf => ?_)
    refine c_VV (q := v1) (vs := [.int v2, .int (rI σ 6 (ix v2))]) (rest := []) X (kX0_letLack (cL C) v1 v2 (rI σ 6 (ix v2)) hv1 σ) (fun s a hts => cwV 2 hts gX2_layOut_X0_letLack rfl rfl rfl (by decide +kernel) ⟨Nat.le_of_ble_eq_true rfl, Nat.le_of_ble_eq_true rfl⟩) (obj_p hv1) (rfl : vwCl[0]? = some (RX0, TX0, 15)) rfl rfl rfl rfl (Nat.le_of_ble_eq_true rfl) dX2_layOut_69 ⟨Nat.le_of_ble_eq_true rfl, Nat.le_of_ble_eq_true rfl⟩ hf (fun u1 σ2 hf => ?_)
    refine g_iinc (v := (v2 + 1)) (L' := [(2, .int (v2 + 1)), (0, .ref (adr C 0)), (1, .ref (adr C v1))]) X dX2_layOut_72 2 rfl rfl (by decide) rfl ?_
    refine g_goto (tgt := 47) X dX2_layOut_75 (by decide) ?_
    refine g_sub [1, 2, 0] (L' := [(0, .ref (adr C 0)), (1, .ref (adr C v1)), (2, .int (v2 + 1))]) rfl ?_
    exact ih47 v1 (v2 + 1) σ2 hv1 hf
set_option maxHeartbeats 4000000 in
set_option maxRecDepth 100000 in
theorem tX2_layOut_47 {C : Ctx} (X : CX C cX2_layOut 4 RX2 wsX2_layOut rmX2_layOut none) {r : Int32 × Mem} (hq : QV C r) : ∀ (n : Nat) (v1 : Nat) (v2 : Int32) (hv1 : ki v1 = 3) (σ : Mem) (hf : fX2_layOut_47 n v1 v2 σ = some r), G C 4 0 0 47 [(0, .ref (adr C 0)), (1, .ref (adr C v1)), (2, .int v2)] [] σ := by
  intro n
  induction n with
  | zero => intros; rename_i hf; exact absurd (show (none : Option (Int32 × Mem)) = some r from hf) (by simp)
  | succ n ih =>
    intro v1 v2 hv1 σ hf
    exact tX2_layOut_47b X hq (fX2_layOut_47 n) (fun v1 v2 σ hv1 hf => ih v1 v2 hv1 σ hf) v1 v2 hv1 σ hf
def fX2_layOut_14b (r14 : Nat → Int32 → Mem → Option (Int32 × Mem)) (v1 : Nat) (v2 : Int32) (σ : Mem) : Option (Int32 × Mem) :=
  if (rI σ 1 2) ≤ v2 then (fX2_layOut_47 FU v1 (0 : Int32) σ)
  else (grd (inb v2 5) (bnd (fX0_letStay v1 v2 (rI σ 3 (ix v2)) σ) fun u1 σ2 =>
  r14 v1 (v2 + 1) σ2))
def fX2_layOut_14 : Nat → Nat → Int32 → Mem → Option (Int32 × Mem)
  | 0 => fun _ _ _ => none
  | n + 1 => fX2_layOut_14b (fX2_layOut_14 n)
set_option maxHeartbeats 4000000 in
set_option maxRecDepth 100000 in
theorem tX2_layOut_14b {C : Ctx} (X : CX C cX2_layOut 4 RX2 wsX2_layOut rmX2_layOut none) {r : Int32 × Mem} (hq : QV C r) (r14 : Nat → Int32 → Mem → Option (Int32 × Mem)) (ih14 : ∀ (v1 : Nat) (v2 : Int32) (σ : Mem), ki v1 = 3 → r14 v1 v2 σ = some r → G C 4 0 0 14 [(0, .ref (adr C 0)), (1, .ref (adr C v1)), (2, .int v2)] [] σ) (v1 : Nat) (v2 : Int32) (hv1 : ki v1 = 3) (σ : Mem) (hf : fX2_layOut_14b r14 v1 v2 σ = some r) : G C 4 0 0 14 [(0, .ref (adr C 0)), (1, .ref (adr C v1)), (2, .int v2)] [] σ := by
  unfold fX2_layOut_14b at hf
  refine g_iload_n X dX2_layOut_14 2 rfl rfl ?_
  refine g_aload_n X dX2_layOut_15 0 rfl rfl ?_
  refine g_get (q := 0) (kf := 0) (v := .ref (adr C 1)) X obj_x rfl infX2_layOut_X2 (by decide) (by decide +kernel) rfl dX2_layOut_16 ?_
  refine g_get (q := 1) (kf := 2) (v := .int (rI σ 1 2)) X (obj_s (k := 1) rfl) rfl infX2_layOut_X1 (by decide) (by decide +kernel) rfl dX2_layOut_19 ?_
  refine g_icmp_ge (tgt := 45) X dX2_layOut_22 (by decide) hf (fun hf => ?_) (fun hf => ?_)
  · refine g_iconst (v := (0 : Int32)) X dX2_layOut_45 (by decide) ?_
    refine g_istore_n (L' := [(2, .int (0 : Int32)), (0, .ref (adr C 0)), (1, .ref (adr C v1))]) X dX2_layOut_46 rfl (by decide) rfl ?_
    refine g_sub [1, 2, 0] (L' := [(0, .ref (adr C 0)), (1, .ref (adr C v1)), (2, .int (0 : Int32))]) rfl ?_
    exact tX2_layOut_47 X hq FU v1 (0 : Int32) hv1 σ hf
  · refine g_aload_n X dX2_layOut_25 1 rfl rfl ?_
    refine g_iload_n X dX2_layOut_26 2 rfl rfl ?_
    refine g_aload_n X dX2_layOut_27 0 rfl rfl ?_
    refine g_get (q := 0) (kf := 0) (v := .ref (adr C 1)) X obj_x rfl infX2_layOut_X2 (by decide) (by decide +kernel) rfl dX2_layOut_28 ?_
    refine g_get (q := 1) (kf := 1) (v := .ref (adr C 3)) X (obj_s (k := 1) rfl) rfl infX2_layOut_X1 (by decide) (by decide +kernel) rfl dX2_layOut_31 ?_
    refine g_iload_n X dX2_layOut_34 2 rfl rfl ?_
    refine g_iald (q := 3) (n := 5) X rfl rfl dX2_layOut_35 hf (fun hf => ?_)
    refine c_VV (q := v1) (vs := [.int v2, .int (rI σ 3 (ix v2))]) (rest := []) X (kX0_letStay (cL C) v1 v2 (rI σ 3 (ix v2)) hv1 σ) (fun s a hts => cwV 2 hts gX2_layOut_X0_letStay rfl rfl rfl (by decide +kernel) ⟨Nat.le_of_ble_eq_true rfl, Nat.le_of_ble_eq_true rfl⟩) (obj_p hv1) (rfl : vwCl[0]? = some (RX0, TX0, 15)) rfl rfl rfl rfl (Nat.le_of_ble_eq_true rfl) dX2_layOut_36 ⟨Nat.le_of_ble_eq_true rfl, Nat.le_of_ble_eq_true rfl⟩ hf (fun u1 σ2 hf => ?_)
    refine g_iinc (v := (v2 + 1)) (L' := [(2, .int (v2 + 1)), (0, .ref (adr C 0)), (1, .ref (adr C v1))]) X dX2_layOut_39 2 rfl rfl (by decide) rfl ?_
    refine g_goto (tgt := 14) X dX2_layOut_42 (by decide) ?_
    refine g_sub [1, 2, 0] (L' := [(0, .ref (adr C 0)), (1, .ref (adr C v1)), (2, .int (v2 + 1))]) rfl ?_
    exact ih14 v1 (v2 + 1) σ2 hv1 hf
set_option maxHeartbeats 4000000 in
set_option maxRecDepth 100000 in
theorem tX2_layOut_14 {C : Ctx} (X : CX C cX2_layOut 4 RX2 wsX2_layOut rmX2_layOut none) {r : Int32 × Mem} (hq : QV C r) : ∀ (n : Nat) (v1 : Nat) (v2 : Int32) (hv1 : ki v1 = 3) (σ : Mem) (hf : fX2_layOut_14 n v1 v2 σ = some r), G C 4 0 0 14 [(0, .ref (adr C 0)), (1, .ref (adr C v1)), (2, .int v2)] [] σ := by
  intro n
  induction n with
  | zero => intros; rename_i hf; exact absurd (show (none : Option (Int32 × Mem)) = some r from hf) (by simp)
  | succ n ih =>
    intro v1 v2 hv1 σ hf
    exact tX2_layOut_14b X hq (fX2_layOut_14 n) (fun v1 v2 σ hv1 hf => ih v1 v2 hv1 σ hf) v1 v2 hv1 σ hf
def fX2_layOut_e (v1 : Nat) (σ : Mem) : Option (Int32 × Mem) :=
  bnd (fX0_begin v1 (rI σ 0 12) (rI σ 0 13) σ) fun u1 σ2 =>
  fX2_layOut_14 FU v1 (0 : Int32) σ2
set_option maxHeartbeats 4000000 in
set_option maxRecDepth 100000 in
theorem tX2_layOut_e {C : Ctx} (X : CX C cX2_layOut 4 RX2 wsX2_layOut rmX2_layOut none) {r : Int32 × Mem} (hq : QV C r) (v1 : Nat) (hv1 : ki v1 = 3) (σ : Mem) (hf : fX2_layOut_e v1 σ = some r) : G C 4 0 0 0 [(0, .ref (adr C 0)), (1, .ref (adr C v1))] [] σ := by
  unfold fX2_layOut_e at hf
  refine g_aload_n X dX2_layOut_0 1 rfl rfl ?_
  refine g_aload_n X dX2_layOut_1 0 rfl rfl ?_
  refine g_get (q := 0) (kf := 12) (v := .int (rI σ 0 12)) X obj_x rfl infX2_layOut_X2 (by decide) (by decide +kernel) rfl dX2_layOut_2 ?_
  refine g_aload_n X dX2_layOut_5 0 rfl rfl ?_
  refine g_get (q := 0) (kf := 13) (v := .int (rI σ 0 13)) X obj_x rfl infX2_layOut_X2 (by decide) (by decide +kernel) rfl dX2_layOut_6 ?_
  refine c_VV (q := v1) (vs := [.int (rI σ 0 12), .int (rI σ 0 13)]) (rest := []) X (kX0_begin (cL C) v1 (rI σ 0 12) (rI σ 0 13) hv1 σ) (fun s a hts => cwV 2 hts gX2_layOut_X0_begin rfl rfl rfl (by decide +kernel) ⟨Nat.le_of_ble_eq_true rfl, Nat.le_of_ble_eq_true rfl⟩) (obj_p hv1) (rfl : vwCl[0]? = some (RX0, TX0, 15)) rfl rfl rfl rfl (Nat.le_of_ble_eq_true rfl) dX2_layOut_9 ⟨Nat.le_of_ble_eq_true rfl, Nat.le_of_ble_eq_true rfl⟩ hf (fun u1 σ2 hf => ?_)
  refine g_iconst (v := (0 : Int32)) X dX2_layOut_12 (by decide) ?_
  refine g_istore_n (L' := [(2, .int (0 : Int32)), (0, .ref (adr C 0)), (1, .ref (adr C v1))]) X dX2_layOut_13 rfl (by decide) rfl ?_
  refine g_sub [1, 2, 0] (L' := [(0, .ref (adr C 0)), (1, .ref (adr C v1)), (2, .int (0 : Int32))]) rfl ?_
  exact tX2_layOut_14 X hq FU v1 (0 : Int32) hv1 σ2 hf
def fX2_layOut (v1 : Nat) (σ : Mem) : Option (Int32 × Mem) := fX2_layOut_e v1 σ
theorem kX2_layOut (l : Launch) (v1 : Nat) (hv1 : ki v1 = 3) (σ : Mem) : KV l yX2_layOut wsX2_layOut rmX2_layOut (fun ad => [.ref (ad 0), .ref (ad v1)]) σ (fX2_layOut v1 σ) := fun r hr => kt_of (by decide +kernel) rfl (fun _ => Nat.le_of_ble_eq_true rfl) (fun C X hne hq => tX2_layOut_e X hq v1 hv1 σ hr)
/-! ### X2_planned -/
abbrev rmX2_planned : Room := { frames := 4, cells := 0, slots := 0, locals := 101 }
theorem infX2_planned_X2 : ∀ w ∈ u_ws RX2 TX2 15, w ∈ wsX2_planned := by decide +kernel
def fX2_planned_27 (σ : Mem) : Option (Nat × Mem) :=
  some (13, σ)
set_option maxHeartbeats 4000000 in
set_option maxRecDepth 100000 in
theorem tX2_planned_27 {C : Ctx} (X : CX C cX2_planned 1 RX2 wsX2_planned rmX2_planned (some (.object "Heapcarrier$Plan"))) {r : Nat × Mem} (hq : QR C r) (σ : Mem) (hf : fX2_planned_27 σ = some r) : G C 1 0 0 27 [(0, .ref (adr C 0))] [] σ := by
  unfold fX2_planned_27 at hf
  refine g_aload_n X dX2_planned_27 0 rfl rfl ?_
  refine g_get (q := 0) (kf := 8) (v := .ref (adr C 13)) X obj_x rfl infX2_planned_X2 (by decide) (by decide +kernel) rfl dX2_planned_28 ?_
  exact r_aret X hq dX2_planned_31 hf
def fX2_planned_e (σ : Mem) : Option (Nat × Mem) :=
  if (rI σ 0 14) = 0 then (bnd (fX2_layOut 13 σ) fun u1 σ2 =>
  bnd (fX0_improve 13 σ2) fun u3 σ4 =>
  ltM (wI σ4 0 14 (1 : Int32)) fun σ5 =>
  fX2_planned_27 σ5)
  else (fX2_planned_27 σ)
set_option maxHeartbeats 4000000 in
set_option maxRecDepth 100000 in
theorem tX2_planned_e {C : Ctx} (X : CX C cX2_planned 1 RX2 wsX2_planned rmX2_planned (some (.object "Heapcarrier$Plan"))) {r : Nat × Mem} (hq : QR C r) (σ : Mem) (hf : fX2_planned_e σ = some r) : G C 1 0 0 0 [(0, .ref (adr C 0))] [] σ := by
  unfold fX2_planned_e at hf
  refine g_aload_n X dX2_planned_0 0 rfl rfl ?_
  refine g_get (q := 0) (kf := 14) (v := .int (rI σ 0 14)) X obj_x rfl infX2_planned_X2 (by decide) (by decide +kernel) rfl dX2_planned_1 ?_
  refine g_if_ne (tgt := 27) X dX2_planned_4 (by decide) hf (fun hf => ?_) (fun hf => ?_)
  · exact tX2_planned_27 X hq σ hf
  · refine g_aload_n X dX2_planned_7 0 rfl rfl ?_
    refine g_aload_n X dX2_planned_8 0 rfl rfl ?_
    refine g_get (q := 0) (kf := 8) (v := .ref (adr C 13)) X obj_x rfl infX2_planned_X2 (by decide) (by decide +kernel) rfl dX2_planned_9 ?_
    refine c_VV (q := 0) (vs := [.ref (adr C 13)]) (rest := []) X (kX2_layOut (cL C) 13 rfl σ) (fun s a hts => cwV 1 hts gX2_planned_X2_layOut rfl rfl rfl (by decide +kernel) ⟨Nat.le_of_ble_eq_true rfl, Nat.le_of_ble_eq_true rfl⟩) obj_x (rfl : vwCl[2]? = some (RX2, TX2, 15)) rfl rfl rfl rfl (Nat.le_of_ble_eq_true rfl) dX2_planned_12 ⟨Nat.le_of_ble_eq_true rfl, Nat.le_of_ble_eq_true rfl⟩ hf (fun u1 σ2 hf => ?_)
    refine g_aload_n X dX2_planned_15 0 rfl rfl ?_
    refine g_get (q := 0) (kf := 8) (v := .ref (adr C 13)) X obj_x rfl infX2_planned_X2 (by decide) (by decide +kernel) rfl dX2_planned_16 ?_
    refine c_VV (q := 13) (vs := []) (rest := []) X (kX0_improve (cL C) 13 rfl σ2) (fun s a hts => cwV 0 hts gX2_planned_X0_improve rfl rfl rfl (by decide +kernel) ⟨Nat.le_of_ble_eq_true rfl, Nat.le_of_ble_eq_true rfl⟩) (obj_p (k := 13) rfl) (rfl : vwCl[0]? = some (RX0, TX0, 15)) rfl rfl rfl rfl (Nat.le_of_ble_eq_true rfl) dX2_planned_19 ⟨Nat.le_of_ble_eq_true rfl, Nat.le_of_ble_eq_true rfl⟩ hf (fun u3 σ4 hf => ?_)
    refine g_aload_n X dX2_planned_22 0 rfl rfl ?_
    refine g_iconst (v := (1 : Int32)) X dX2_planned_23 (by decide) ?_
    refine s_put (q := 0) (kf := 14) X obj_x rfl infX2_planned_X2 tyX2_ok nmX2 (by decide) (by decide +kernel) rfl rfl rfl rfl (fun _ _ => rfl) (fun _ _ => Nat.le_of_ble_eq_true rfl) dX2_planned_24 hf (fun σ5 hf => ?_)
    exact tX2_planned_27 X hq σ5 hf
def fX2_planned (σ : Mem) : Option (Nat × Mem) := fX2_planned_e σ
theorem kX2_planned (l : Launch) (σ : Mem) : KR l yX2_planned wsX2_planned rmX2_planned (fun ad => [.ref (ad 0)]) σ (fX2_planned σ) := fun r hr => kt_of (by decide +kernel) rfl (fun _ => Nat.le_of_ble_eq_true rfl) (fun C X hne hq => tX2_planned_e X hq σ hr)
/-! ### X2_least -/
abbrev rmX2_least : Room := { frames := 5, cells := 0, slots := 0, locals := 121 }
theorem infX2_least_X0 : ∀ w ∈ u_ws RX0 TX0 15, w ∈ wsX2_least := by decide +kernel
def fX2_least_e (σ : Mem) : Option (Int32 × Mem) :=
  bnd (fX2_planned σ) fun u1 σ2 =>
  grd (decide (u1 = 13)) (some ((rI σ2 13 4), σ2))
set_option maxHeartbeats 4000000 in
set_option maxRecDepth 100000 in
theorem tX2_least_e {C : Ctx} (X : CX C cX2_least 1 RX2 wsX2_least rmX2_least (some .int)) {r : Int32 × Mem} (hq : QI C r) (σ : Mem) (hf : fX2_least_e σ = some r) : G C 1 0 0 0 [(0, .ref (adr C 0))] [] σ := by
  unfold fX2_least_e at hf
  refine g_aload_n X dX2_least_0 0 rfl rfl ?_
  refine c_VR (q := 0) (vs := []) (rest := []) X (kX2_planned (cL C) σ) (fun s a hts => cwV 0 hts gX2_least_X2_planned rfl rfl rfl (by decide +kernel) ⟨Nat.le_of_ble_eq_true rfl, Nat.le_of_ble_eq_true rfl⟩) obj_x (rfl : vwCl[2]? = some (RX2, TX2, 15)) rfl rfl rfl rfl (Nat.le_of_ble_eq_true rfl) dX2_least_1 ⟨Nat.le_of_ble_eq_true rfl, Nat.le_of_ble_eq_true rfl⟩ hf (fun u1 σ2 hf => ?_)
  replace hf := grd_some hf
  obtain ⟨hg, hf⟩ := hf
  replace hg := of_decide_eq_true hg
  subst hg
  refine g_get (q := 13) (kf := 4) (v := .int (rI σ2 13 4)) X (obj_p (k := 13) rfl) rfl infX2_least_X0 (by decide) (by decide +kernel) rfl dX2_least_4 ?_
  exact r_iret X hq dX2_least_7 hf
def fX2_least (σ : Mem) : Option (Int32 × Mem) := fX2_least_e σ
theorem kX2_least (l : Launch) (σ : Mem) : KI l yX2_least wsX2_least rmX2_least (fun ad => [.ref (ad 0)]) σ (fX2_least σ) := fun r hr => kt_of (by decide +kernel) rfl (fun _ => Nat.le_of_ble_eq_true rfl) (fun C X hne hq => tX2_least_e X hq σ hr)
/-! ### X2_isTooMuchToTry -/
abbrev rmX2_isTooMuchToTry : Room := { frames := 1, cells := 0, slots := 0, locals := 29 }
theorem infX2_isTooMuchToTry_X1 : ∀ w ∈ u_ws RX1 TX1 3, w ∈ wsX2_isTooMuchToTry := by decide +kernel
theorem infX2_isTooMuchToTry_X2 : ∀ w ∈ u_ws RX2 TX2 15, w ∈ wsX2_isTooMuchToTry := by decide +kernel
def fX2_isTooMuchToTry_82 (r4 : Int32 → Int32 → Mem → Option (Int32 × Mem)) (r17 : Int32 → Int32 → Int32 → Mem → Option (Int32 × Mem)) (v2 : Int32) (v3 : Int32) (s0 : Int32) (s1 : Int32) (σ : Mem) : Option (Int32 × Mem) :=
  ltI (s1 * (s0 + (1 : Int32))) fun x1 =>
  if x1 ≤ (20000 : Int32) then (r17 x1 v2 (v3 + 1) σ)
  else (grd (decide ((1 : Int32) = 0 ∨ (1 : Int32) = 1)) (some ((1 : Int32), σ)))
set_option maxHeartbeats 4000000 in
set_option maxRecDepth 100000 in
theorem tX2_isTooMuchToTry_82 {C : Ctx} (X : CX C cX2_isTooMuchToTry 6 RX2 wsX2_isTooMuchToTry rmX2_isTooMuchToTry (some .boolean)) {r : Int32 × Mem} (hq : QI C r) (r4 : Int32 → Int32 → Mem → Option (Int32 × Mem)) (r17 : Int32 → Int32 → Int32 → Mem → Option (Int32 × Mem)) (ih4 : ∀ (v1 : Int32) (v2 : Int32) (σ : Mem), r4 v1 v2 σ = some r → G C 6 0 0 4 [(0, .ref (adr C 0)), (1, .int v1), (2, .int v2)] [] σ) (ih17 : ∀ (v1 : Int32) (v2 : Int32) (v3 : Int32) (σ : Mem), r17 v1 v2 v3 σ = some r → G C 6 0 0 17 [(0, .ref (adr C 0)), (1, .int v1), (2, .int v2), (3, .int v3)] [] σ) (v2 : Int32) (v3 : Int32) (s0 : Int32) (s1 : Int32) (σ : Mem) (hf : fX2_isTooMuchToTry_82 r4 r17 v2 v3 s0 s1 σ = some r) : G C 6 0 0 82 [(0, .ref (adr C 0)), (2, .int v2), (3, .int v3)] [.int s0, .int s1] σ := by
  unfold fX2_isTooMuchToTry_82 at hf
  refine g_iconst (v := (1 : Int32)) X dX2_isTooMuchToTry_82 (by decide) ?_
  refine g_iadd X dX2_isTooMuchToTry_83 ?_
  refine g_imul X dX2_isTooMuchToTry_84 ?_
  refine s_istore_n (M := fun x1 => [(1, .int x1), (0, .ref (adr C 0)), (2, .int v2), (3, .int v3)]) X dX2_isTooMuchToTry_85 rfl (by decide) (fun _ => rfl) hf (fun x1 hf => ?_)
  refine g_iload_n X dX2_isTooMuchToTry_86 0 rfl rfl ?_
  refine g_sipush (v := (20000 : Int32)) X dX2_isTooMuchToTry_87 (by decide) ?_
  refine g_icmp_le (tgt := 95) X dX2_isTooMuchToTry_90 (by decide) hf (fun hf => ?_) (fun hf => ?_)
  · refine g_iinc (v := (v3 + 1)) (L' := [(3, .int (v3 + 1)), (1, .int x1), (0, .ref (adr C 0)), (2, .int v2)]) X dX2_isTooMuchToTry_95 3 rfl rfl (by decide) rfl ?_
    refine g_goto (tgt := 17) X dX2_isTooMuchToTry_98 (by decide) ?_
    refine g_sub [2, 1, 3, 0] (L' := [(0, .ref (adr C 0)), (1, .int x1), (2, .int v2), (3, .int (v3 + 1))]) rfl ?_
    exact ih17 x1 v2 (v3 + 1) σ hf
  · refine g_iconst (v := (1 : Int32)) X dX2_isTooMuchToTry_93 (by decide) ?_
    exact r_zret X hq dX2_isTooMuchToTry_94 hf
def fX2_isTooMuchToTry_17b (r4 : Int32 → Int32 → Mem → Option (Int32 × Mem)) (r17 : Int32 → Int32 → Int32 → Mem → Option (Int32 × Mem)) (v1 : Int32) (v2 : Int32) (v3 : Int32) (σ : Mem) : Option (Int32 × Mem) :=
  if (rI σ 4 2) ≤ v3 then (r4 v1 (v2 + 1) σ)
  else (grd (inb v2 5) (grd (inb v3 5) (ltI (mnI (rI σ 3 (ix v2)) (rI σ 6 (ix v3))) fun x1 =>
  bnd (fX2_wayOf v2 v3 σ) fun u2 σ3 =>
  grd (inb u2 25) (ltI (rI σ3 8 (ix u2)) fun x4 =>
  if x4 = (-1 : Int32) then (fX2_isTooMuchToTry_82 r4 r17 v2 v3 x1 v1 σ3)
  else (fX2_isTooMuchToTry_82 r4 r17 v2 v3 (mnI x1 x4) v1 σ3)))))
def fX2_isTooMuchToTry_17 (r4 : Int32 → Int32 → Mem → Option (Int32 × Mem)) : Nat → Int32 → Int32 → Int32 → Mem → Option (Int32 × Mem)
  | 0 => fun _ _ _ _ => none
  | n + 1 => fX2_isTooMuchToTry_17b r4 (fX2_isTooMuchToTry_17 r4 n)
set_option maxHeartbeats 4000000 in
set_option maxRecDepth 100000 in
theorem tX2_isTooMuchToTry_17b {C : Ctx} (X : CX C cX2_isTooMuchToTry 6 RX2 wsX2_isTooMuchToTry rmX2_isTooMuchToTry (some .boolean)) {r : Int32 × Mem} (hq : QI C r) (r4 : Int32 → Int32 → Mem → Option (Int32 × Mem)) (ih4 : ∀ (v1 : Int32) (v2 : Int32) (σ : Mem), r4 v1 v2 σ = some r → G C 6 0 0 4 [(0, .ref (adr C 0)), (1, .int v1), (2, .int v2)] [] σ) (r17 : Int32 → Int32 → Int32 → Mem → Option (Int32 × Mem)) (ih17 : ∀ (v1 : Int32) (v2 : Int32) (v3 : Int32) (σ : Mem), r17 v1 v2 v3 σ = some r → G C 6 0 0 17 [(0, .ref (adr C 0)), (1, .int v1), (2, .int v2), (3, .int v3)] [] σ) (v1 : Int32) (v2 : Int32) (v3 : Int32) (σ : Mem) (hf : fX2_isTooMuchToTry_17b r4 r17 v1 v2 v3 σ = some r) : G C 6 0 0 17 [(0, .ref (adr C 0)), (1, .int v1), (2, .int v2), (3, .int v3)] [] σ := by
  unfold fX2_isTooMuchToTry_17b at hf
  refine g_iload_n X dX2_isTooMuchToTry_17 3 rfl rfl ?_
  refine g_aload_n X dX2_isTooMuchToTry_18 0 rfl rfl ?_
  refine g_get (q := 0) (kf := 1) (v := .ref (adr C 4)) X obj_x rfl infX2_isTooMuchToTry_X2 (by decide) (by decide +kernel) rfl dX2_isTooMuchToTry_19 ?_
  refine g_get (q := 4) (kf := 2) (v := .int (rI σ 4 2)) X (obj_s (k := 4) rfl) rfl infX2_isTooMuchToTry_X1 (by decide) (by decide +kernel) rfl dX2_isTooMuchToTry_22 ?_
  refine g_icmp_ge (tgt := 101) X dX2_isTooMuchToTry_25 (by decide) hf (fun hf => ?_) (fun hf => ?_)
  · refine g_iinc (v := (v2 + 1)) (L' := [(2, .int (v2 + 1)), (0, .ref (adr C 0)), (1, .int v1), (3, .int v3)]) X dX2_isTooMuchToTry_101 2 rfl rfl (by decide) rfl ?_
    refine g_goto (tgt := 4) X dX2_isTooMuchToTry_104 (by decide) ?_
    refine g_sub [1, 2, 0] (L' := [(0, .ref (adr C 0)), (1, .int v1), (2, .int (v2 + 1))]) rfl ?_
    exact ih4 v1 (v2 + 1) σ hf
  · refine g_aload_n X dX2_isTooMuchToTry_28 0 rfl rfl ?_
    refine g_get (q := 0) (kf := 0) (v := .ref (adr C 1)) X obj_x rfl infX2_isTooMuchToTry_X2 (by decide) (by decide +kernel) rfl dX2_isTooMuchToTry_29 ?_
    refine g_get (q := 1) (kf := 1) (v := .ref (adr C 3)) X (obj_s (k := 1) rfl) rfl infX2_isTooMuchToTry_X1 (by decide) (by decide +kernel) rfl dX2_isTooMuchToTry_32 ?_
    refine g_iload_n X dX2_isTooMuchToTry_35 2 rfl rfl ?_
    refine g_iald (q := 3) (n := 5) X rfl rfl dX2_isTooMuchToTry_36 hf (fun hf => ?_)
    refine g_aload_n X dX2_isTooMuchToTry_37 0 rfl rfl ?_
    refine g_get (q := 0) (kf := 1) (v := .ref (adr C 4)) X obj_x rfl infX2_isTooMuchToTry_X2 (by decide) (by decide +kernel) rfl dX2_isTooMuchToTry_38 ?_
    refine g_get (q := 4) (kf := 1) (v := .ref (adr C 6)) X (obj_s (k := 4) rfl) rfl infX2_isTooMuchToTry_X1 (by decide) (by decide +kernel) rfl dX2_isTooMuchToTry_41 ?_
    refine g_iload_n X dX2_isTooMuchToTry_44 3 rfl rfl ?_
    refine g_iald (q := 6) (n := 5) X rfl rfl dX2_isTooMuchToTry_45 hf (fun hf => ?_)
    refine g_minI X (by decide +kernel) (by decide +kernel) (by decide +kernel) (by decide +kernel) ⟨Nat.le_of_ble_eq_true rfl, Nat.le_of_ble_eq_true rfl, Nat.le_of_ble_eq_true rfl, Nat.le_of_ble_eq_true rfl⟩ dX2_isTooMuchToTry_46 ?_
    refine s_istore (M := fun x1 => [(4, .int x1), (0, .ref (adr C 0)), (1, .int v1), (2, .int v2), (3, .int v3)]) X dX2_isTooMuchToTry_49 (by decide) (fun _ => rfl) hf (fun x1 hf => ?_)
    refine g_aload_n X dX2_isTooMuchToTry_51 1 rfl rfl ?_
    refine g_get (q := 0) (kf := 3) (v := .ref (adr C 8)) X obj_x rfl infX2_isTooMuchToTry_X2 (by decide) (by decide +kernel) rfl dX2_isTooMuchToTry_52 ?_
    refine g_iload_n X dX2_isTooMuchToTry_55 3 rfl rfl ?_
    refine g_iload_n X dX2_isTooMuchToTry_56 4 rfl rfl ?_
    refine c_SI (vs := [.int v2, .int v3]) (rest := [.ref (adr C 8)]) X (kX2_wayOf (cL C) v2 v3 σ) (fun s a hts => va_cwS 2 hts gX2_isTooMuchToTry_X2_wayOf rfl rfl rfl (by decide +kernel) ⟨Nat.le_of_ble_eq_true rfl, Nat.le_of_ble_eq_true rfl⟩) rfl rfl rfl (Nat.le_of_ble_eq_true rfl) dX2_isTooMuchToTry_57 ⟨Nat.le_of_ble_eq_true rfl, Nat.le_of_ble_eq_true rfl⟩ hf (fun u2 σ3 hf => ?_)
    refine g_iald (q := 8) (n := 25) X rfl rfl dX2_isTooMuchToTry_60 hf (fun hf => ?_)
    refine s_istore (M := fun x4 => [(5, .int x4), (4, .int x1), (0, .ref (adr C 0)), (1, .int v1), (2, .int v2), (3, .int v3)]) X dX2_isTooMuchToTry_61 (by decide) (fun _ => rfl) hf (fun x4 hf => ?_)
    refine g_iload_n X dX2_isTooMuchToTry_63 3 rfl rfl ?_
    refine g_iload X dX2_isTooMuchToTry_64 0 rfl ?_
    refine g_iconst (v := (-1 : Int32)) X dX2_isTooMuchToTry_66 (by decide) ?_
    refine g_icmp_ne (tgt := 75) X dX2_isTooMuchToTry_67 (by decide) hf (fun hf => ?_) (fun hf => ?_)
    · refine g_iload X dX2_isTooMuchToTry_75 1 rfl ?_
      refine g_iload X dX2_isTooMuchToTry_77 0 rfl ?_
      refine g_minI X (by decide +kernel) (by decide +kernel) (by decide +kernel) (by decide +kernel) ⟨Nat.le_of_ble_eq_true rfl, Nat.le_of_ble_eq_true rfl, Nat.le_of_ble_eq_true rfl, Nat.le_of_ble_eq_true rfl⟩ dX2_isTooMuchToTry_79 ?_
      refine g_sub [2, 4, 5] (L' := [(0, .ref (adr C 0)), (2, .int v2), (3, .int v3)]) rfl ?_
      exact tX2_isTooMuchToTry_82 X hq r4 r17 ih4 ih17 v2 v3 (mnI x1 x4) v1 σ3 hf
    · refine g_iload X dX2_isTooMuchToTry_70 1 rfl ?_
      refine g_goto (tgt := 82) X dX2_isTooMuchToTry_72 (by decide) ?_
      refine g_sub [2, 4, 5] (L' := [(0, .ref (adr C 0)), (2, .int v2), (3, .int v3)]) rfl ?_
      exact tX2_isTooMuchToTry_82 X hq r4 r17 ih4 ih17 v2 v3 x1 v1 σ3 hf
set_option maxHeartbeats 4000000 in
set_option maxRecDepth 100000 in
theorem tX2_isTooMuchToTry_17 {C : Ctx} (X : CX C cX2_isTooMuchToTry 6 RX2 wsX2_isTooMuchToTry rmX2_isTooMuchToTry (some .boolean)) {r : Int32 × Mem} (hq : QI C r) (r4 : Int32 → Int32 → Mem → Option (Int32 × Mem)) (ih4 : ∀ (v1 : Int32) (v2 : Int32) (σ : Mem), r4 v1 v2 σ = some r → G C 6 0 0 4 [(0, .ref (adr C 0)), (1, .int v1), (2, .int v2)] [] σ) : ∀ (n : Nat) (v1 : Int32) (v2 : Int32) (v3 : Int32) (σ : Mem) (hf : fX2_isTooMuchToTry_17 r4 n v1 v2 v3 σ = some r), G C 6 0 0 17 [(0, .ref (adr C 0)), (1, .int v1), (2, .int v2), (3, .int v3)] [] σ := by
  intro n
  induction n with
  | zero => intros; rename_i hf; exact absurd (show (none : Option (Int32 × Mem)) = some r from hf) (by simp)
  | succ n ih =>
    intro v1 v2 v3 σ hf
    exact tX2_isTooMuchToTry_17b X hq r4 ih4 (fX2_isTooMuchToTry_17 r4 n) (fun v1 v2 v3 σ hf => ih v1 v2 v3 σ hf) v1 v2 v3 σ hf
def fX2_isTooMuchToTry_4b (r4 : Int32 → Int32 → Mem → Option (Int32 × Mem)) (v1 : Int32) (v2 : Int32) (σ : Mem) : Option (Int32 × Mem) :=
  if (rI σ 1 2) ≤ v2 then (grd (decide ((0 : Int32) = 0 ∨ (0 : Int32) = 1)) (some ((0 : Int32), σ)))
  else (fX2_isTooMuchToTry_17 r4 FU v1 v2 (0 : Int32) σ)
def fX2_isTooMuchToTry_4 : Nat → Int32 → Int32 → Mem → Option (Int32 × Mem)
  | 0 => fun _ _ _ => none
  | n + 1 => fX2_isTooMuchToTry_4b (fX2_isTooMuchToTry_4 n)
set_option maxHeartbeats 4000000 in
set_option maxRecDepth 100000 in
theorem tX2_isTooMuchToTry_4b {C : Ctx} (X : CX C cX2_isTooMuchToTry 6 RX2 wsX2_isTooMuchToTry rmX2_isTooMuchToTry (some .boolean)) {r : Int32 × Mem} (hq : QI C r) (r4 : Int32 → Int32 → Mem → Option (Int32 × Mem)) (ih4 : ∀ (v1 : Int32) (v2 : Int32) (σ : Mem), r4 v1 v2 σ = some r → G C 6 0 0 4 [(0, .ref (adr C 0)), (1, .int v1), (2, .int v2)] [] σ) (v1 : Int32) (v2 : Int32) (σ : Mem) (hf : fX2_isTooMuchToTry_4b r4 v1 v2 σ = some r) : G C 6 0 0 4 [(0, .ref (adr C 0)), (1, .int v1), (2, .int v2)] [] σ := by
  unfold fX2_isTooMuchToTry_4b at hf
  refine g_iload_n X dX2_isTooMuchToTry_4 2 rfl rfl ?_
  refine g_aload_n X dX2_isTooMuchToTry_5 0 rfl rfl ?_
  refine g_get (q := 0) (kf := 0) (v := .ref (adr C 1)) X obj_x rfl infX2_isTooMuchToTry_X2 (by decide) (by decide +kernel) rfl dX2_isTooMuchToTry_6 ?_
  refine g_get (q := 1) (kf := 2) (v := .int (rI σ 1 2)) X (obj_s (k := 1) rfl) rfl infX2_isTooMuchToTry_X1 (by decide) (by decide +kernel) rfl dX2_isTooMuchToTry_9 ?_
  refine g_icmp_ge (tgt := 107) X dX2_isTooMuchToTry_12 (by decide) hf (fun hf => ?_) (fun hf => ?_)
  · refine g_iconst (v := (0 : Int32)) X dX2_isTooMuchToTry_107 (by decide) ?_
    exact r_zret X hq dX2_isTooMuchToTry_108 hf
  · refine g_iconst (v := (0 : Int32)) X dX2_isTooMuchToTry_15 (by decide) ?_
    refine g_istore_n (L' := [(3, .int (0 : Int32)), (0, .ref (adr C 0)), (1, .int v1), (2, .int v2)]) X dX2_isTooMuchToTry_16 rfl (by decide) rfl ?_
    refine g_sub [1, 2, 3, 0] (L' := [(0, .ref (adr C 0)), (1, .int v1), (2, .int v2), (3, .int (0 : Int32))]) rfl ?_
    exact tX2_isTooMuchToTry_17 X hq r4 ih4 FU v1 v2 (0 : Int32) σ hf
set_option maxHeartbeats 4000000 in
set_option maxRecDepth 100000 in
theorem tX2_isTooMuchToTry_4 {C : Ctx} (X : CX C cX2_isTooMuchToTry 6 RX2 wsX2_isTooMuchToTry rmX2_isTooMuchToTry (some .boolean)) {r : Int32 × Mem} (hq : QI C r) : ∀ (n : Nat) (v1 : Int32) (v2 : Int32) (σ : Mem) (hf : fX2_isTooMuchToTry_4 n v1 v2 σ = some r), G C 6 0 0 4 [(0, .ref (adr C 0)), (1, .int v1), (2, .int v2)] [] σ := by
  intro n
  induction n with
  | zero => intros; rename_i hf; exact absurd (show (none : Option (Int32 × Mem)) = some r from hf) (by simp)
  | succ n ih =>
    intro v1 v2 σ hf
    exact tX2_isTooMuchToTry_4b X hq (fX2_isTooMuchToTry_4 n) (fun v1 v2 σ hf => ih v1 v2 σ hf) v1 v2 σ hf
def fX2_isTooMuchToTry_e (σ : Mem) : Option (Int32 × Mem) :=
  fX2_isTooMuchToTry_4 FU (1 : Int32) (0 : Int32) σ
set_option maxHeartbeats 4000000 in
set_option maxRecDepth 100000 in
theorem tX2_isTooMuchToTry_e {C : Ctx} (X : CX C cX2_isTooMuchToTry 6 RX2 wsX2_isTooMuchToTry rmX2_isTooMuchToTry (some .boolean)) {r : Int32 × Mem} (hq : QI C r) (σ : Mem) (hf : fX2_isTooMuchToTry_e σ = some r) : G C 6 0 0 0 [(0, .ref (adr C 0))] [] σ := by
  unfold fX2_isTooMuchToTry_e at hf
  refine g_iconst (v := (1 : Int32)) X dX2_isTooMuchToTry_0 (by decide) ?_
  refine g_istore_n (L' := [(1, .int (1 : Int32)), (0, .ref (adr C 0))]) X dX2_isTooMuchToTry_1 rfl (by decide) rfl ?_
  refine g_iconst (v := (0 : Int32)) X dX2_isTooMuchToTry_2 (by decide) ?_
  refine g_istore_n (L' := [(2, .int (0 : Int32)), (1, .int (1 : Int32)), (0, .ref (adr C 0))]) X dX2_isTooMuchToTry_3 rfl (by decide) rfl ?_
  refine g_sub [2, 1, 0] (L' := [(0, .ref (adr C 0)), (1, .int (1 : Int32)), (2, .int (0 : Int32))]) rfl ?_
  exact tX2_isTooMuchToTry_4 X hq FU (1 : Int32) (0 : Int32) σ hf
def fX2_isTooMuchToTry (σ : Mem) : Option (Int32 × Mem) := fX2_isTooMuchToTry_e σ
theorem kX2_isTooMuchToTry (l : Launch) (σ : Mem) : KI l yX2_isTooMuchToTry wsX2_isTooMuchToTry rmX2_isTooMuchToTry (fun ad => [.ref (ad 0)]) σ (fX2_isTooMuchToTry σ) := fun r hr => kt_of (by decide +kernel) rfl (fun _ => Nat.le_of_ble_eq_true rfl) (fun C X hne hq => tX2_isTooMuchToTry_e X hq σ hr)
/-! ### X2_leastAnew -/
abbrev rmX2_leastAnew : Room := { frames := 6, cells := 1, slots := 6, locals := 83 }
theorem infX2_leastAnew_X0 : ∀ w ∈ u_ws RX0 TX0 15, w ∈ wsX2_leastAnew := by decide +kernel
theorem infX2_leastAnew_X2 : ∀ w ∈ u_ws RX2 TX2 15, w ∈ wsX2_leastAnew := by decide +kernel
def fX2_leastAnew_70 (v1 : Int32) (σ : Mem) : Option (Sum Int32 Nat × Mem) :=
  some (Sum.inl v1, σ)
set_option maxHeartbeats 4000000 in
set_option maxRecDepth 100000 in
theorem tX2_leastAnew_70 {C : Ctx} (X : CX C cX2_leastAnew 3 RX2 wsX2_leastAnew rmX2_leastAnew (some .int)) (hne : NH C) {r : Sum Int32 Nat × Mem} (hq : QXI C r) (v1 : Int32) (σ : Mem) (hf : fX2_leastAnew_70 v1 σ = some r) : G C 3 0 0 70 [(1, .int v1)] [] σ := by
  unfold fX2_leastAnew_70 at hf
  refine g_iload_n X dX2_leastAnew_70 0 rfl rfl ?_
  exact r_iretX X hq dX2_leastAnew_71 hf
def fX2_leastAnew_35b (r35 : Int32 → Int32 → Mem → Option (Sum Int32 Nat × Mem)) (v1 : Int32) (v2 : Int32) (σ : Mem) : Option (Sum Int32 Nat × Mem) :=
  if (20000 : Int32) ≤ v2 then (fX2_leastAnew_70 v1 σ)
  else (bnd (fX0_turnToNext 24 σ) fun u1 σ2 =>
  if u1 = 0 then (fX2_leastAnew_70 v1 σ2)
  else (ltI (mnI v1 (rI σ2 24 4)) fun x3 =>
  r35 x3 (v2 + 1) σ2))
def fX2_leastAnew_35 : Nat → Int32 → Int32 → Mem → Option (Sum Int32 Nat × Mem)
  | 0 => fun _ _ _ => none
  | n + 1 => fX2_leastAnew_35b (fX2_leastAnew_35 n)
set_option maxHeartbeats 4000000 in
set_option maxRecDepth 100000 in
theorem tX2_leastAnew_35b {C : Ctx} (X : CX C cX2_leastAnew 3 RX2 wsX2_leastAnew rmX2_leastAnew (some .int)) (hne : NH C) {r : Sum Int32 Nat × Mem} (hq : QXI C r) (r35 : Int32 → Int32 → Mem → Option (Sum Int32 Nat × Mem)) (ih35 : ∀ (v1 : Int32) (v2 : Int32) (σ : Mem), r35 v1 v2 σ = some r → G C 3 0 0 35 [(0, .ref (adr C 0)), (1, .int v1), (2, .int v2)] [] σ) (v1 : Int32) (v2 : Int32) (σ : Mem) (hf : fX2_leastAnew_35b r35 v1 v2 σ = some r) : G C 3 0 0 35 [(0, .ref (adr C 0)), (1, .int v1), (2, .int v2)] [] σ := by
  unfold fX2_leastAnew_35b at hf
  refine g_iload_n X dX2_leastAnew_35 2 rfl rfl ?_
  refine g_sipush (v := (20000 : Int32)) X dX2_leastAnew_36 (by decide) ?_
  refine g_icmp_ge (tgt := 70) X dX2_leastAnew_39 (by decide) hf (fun hf => ?_) (fun hf => ?_)
  · refine g_sub [1] (L' := [(1, .int v1)]) rfl ?_
    exact tX2_leastAnew_70 X hne hq v1 σ hf
  · refine g_aload_n X dX2_leastAnew_42 0 rfl rfl ?_
    refine g_get (q := 0) (kf := 9) (v := .ref (adr C 24)) X obj_x rfl infX2_leastAnew_X2 (by decide) (by decide +kernel) rfl dX2_leastAnew_43 ?_
    refine c_VI (q := 24) (vs := []) (rest := []) X (kX0_turnToNext (cL C) 24 rfl σ) (fun s a hts => cwV 0 hts gX2_leastAnew_X0_turnToNext rfl rfl rfl (by decide +kernel) ⟨Nat.le_of_ble_eq_true rfl, Nat.le_of_ble_eq_true rfl⟩) (obj_p (k := 24) rfl) (rfl : vwCl[0]? = some (RX0, TX0, 15)) rfl rfl rfl rfl (Nat.le_of_ble_eq_true rfl) dX2_leastAnew_46 ⟨Nat.le_of_ble_eq_true rfl, Nat.le_of_ble_eq_true rfl⟩ hf (fun u1 σ2 hf => ?_)
    refine g_if_eq (tgt := 70) X dX2_leastAnew_49 (by decide) hf (fun hf => ?_) (fun hf => ?_)
    · refine g_sub [1] (L' := [(1, .int v1)]) rfl ?_
      exact tX2_leastAnew_70 X hne hq v1 σ2 hf
    · refine g_iload_n X dX2_leastAnew_52 1 rfl rfl ?_
      refine g_aload_n X dX2_leastAnew_53 0 rfl rfl ?_
      refine g_get (q := 0) (kf := 9) (v := .ref (adr C 24)) X obj_x rfl infX2_leastAnew_X2 (by decide) (by decide +kernel) rfl dX2_leastAnew_54 ?_
      refine g_get (q := 24) (kf := 4) (v := .int (rI σ2 24 4)) X (obj_p (k := 24) rfl) rfl infX2_leastAnew_X0 (by decide) (by decide +kernel) rfl dX2_leastAnew_57 ?_
      refine g_minI X (by decide +kernel) (by decide +kernel) (by decide +kernel) (by decide +kernel) ⟨Nat.le_of_ble_eq_true rfl, Nat.le_of_ble_eq_true rfl, Nat.le_of_ble_eq_true rfl, Nat.le_of_ble_eq_true rfl⟩ dX2_leastAnew_60 ?_
      refine s_istore_n (M := fun x3 => [(1, .int x3), (0, .ref (adr C 0)), (2, .int v2)]) X dX2_leastAnew_63 rfl (by decide) (fun _ => rfl) hf (fun x3 hf => ?_)
      refine g_iinc (v := (v2 + 1)) (L' := [(2, .int (v2 + 1)), (1, .int x3), (0, .ref (adr C 0))]) X dX2_leastAnew_64 2 rfl rfl (by decide) rfl ?_
      refine g_goto (tgt := 35) X dX2_leastAnew_67 (by decide) ?_
      refine g_sub [2, 1, 0] (L' := [(0, .ref (adr C 0)), (1, .int x3), (2, .int (v2 + 1))]) rfl ?_
      exact ih35 x3 (v2 + 1) σ2 hf
set_option maxHeartbeats 4000000 in
set_option maxRecDepth 100000 in
theorem tX2_leastAnew_35 {C : Ctx} (X : CX C cX2_leastAnew 3 RX2 wsX2_leastAnew rmX2_leastAnew (some .int)) (hne : NH C) {r : Sum Int32 Nat × Mem} (hq : QXI C r) : ∀ (n : Nat) (v1 : Int32) (v2 : Int32) (σ : Mem) (hf : fX2_leastAnew_35 n v1 v2 σ = some r), G C 3 0 0 35 [(0, .ref (adr C 0)), (1, .int v1), (2, .int v2)] [] σ := by
  intro n
  induction n with
  | zero => intros; rename_i hf; exact absurd (show (none : Option (Sum Int32 Nat × Mem)) = some r from hf) (by simp)
  | succ n ih =>
    intro v1 v2 σ hf
    exact tX2_leastAnew_35b X hne hq (fX2_leastAnew_35 n) (fun v1 v2 σ hf => ih v1 v2 σ hf) v1 v2 σ hf
def fX2_leastAnew_e (σ : Mem) : Option (Sum Int32 Nat × Mem) :=
  bnd (fX2_isTooMuchToTry σ) fun u1 σ2 =>
  if u1 = 0 then (bnd (fX2_layOut 24 σ2) fun u3 σ4 =>
  ltI (rI σ4 24 4) fun x5 =>
  fX2_leastAnew_35 FU x5 (1 : Int32) σ4)
  else (some (Sum.inr 2, σ2))
set_option maxHeartbeats 4000000 in
set_option maxRecDepth 100000 in
theorem tX2_leastAnew_e {C : Ctx} (X : CX C cX2_leastAnew 3 RX2 wsX2_leastAnew rmX2_leastAnew (some .int)) (hne : NH C) {r : Sum Int32 Nat × Mem} (hq : QXI C r) (σ : Mem) (hf : fX2_leastAnew_e σ = some r) : G C 3 0 0 0 [(0, .ref (adr C 0))] [] σ := by
  unfold fX2_leastAnew_e at hf
  refine g_aload_n X dX2_leastAnew_0 0 rfl rfl ?_
  refine c_VI (q := 0) (vs := []) (rest := []) X (kX2_isTooMuchToTry (cL C) σ) (fun s a hts => cwV 0 hts gX2_leastAnew_X2_isTooMuchToTry rfl rfl rfl (by decide +kernel) ⟨Nat.le_of_ble_eq_true rfl, Nat.le_of_ble_eq_true rfl⟩) obj_x (rfl : vwCl[2]? = some (RX2, TX2, 15)) rfl rfl rfl rfl (Nat.le_of_ble_eq_true rfl) dX2_leastAnew_1 ⟨Nat.le_of_ble_eq_true rfl, Nat.le_of_ble_eq_true rfl⟩ hf (fun u1 σ2 hf => ?_)
  refine g_if_eq (tgt := 17) X dX2_leastAnew_4 (by decide) hf (fun hf => ?_) (fun hf => ?_)
  · refine g_aload_n X dX2_leastAnew_17 0 rfl rfl ?_
    refine g_aload_n X dX2_leastAnew_18 0 rfl rfl ?_
    refine g_get (q := 0) (kf := 9) (v := .ref (adr C 24)) X obj_x rfl infX2_leastAnew_X2 (by decide) (by decide +kernel) rfl dX2_leastAnew_19 ?_
    refine c_VV (q := 0) (vs := [.ref (adr C 24)]) (rest := []) X (kX2_layOut (cL C) 24 rfl σ2) (fun s a hts => cwV 1 hts gX2_leastAnew_X2_layOut rfl rfl rfl (by decide +kernel) ⟨Nat.le_of_ble_eq_true rfl, Nat.le_of_ble_eq_true rfl⟩) obj_x (rfl : vwCl[2]? = some (RX2, TX2, 15)) rfl rfl rfl rfl (Nat.le_of_ble_eq_true rfl) dX2_leastAnew_22 ⟨Nat.le_of_ble_eq_true rfl, Nat.le_of_ble_eq_true rfl⟩ hf (fun u3 σ4 hf => ?_)
    refine g_aload_n X dX2_leastAnew_25 0 rfl rfl ?_
    refine g_get (q := 0) (kf := 9) (v := .ref (adr C 24)) X obj_x rfl infX2_leastAnew_X2 (by decide) (by decide +kernel) rfl dX2_leastAnew_26 ?_
    refine g_get (q := 24) (kf := 4) (v := .int (rI σ4 24 4)) X (obj_p (k := 24) rfl) rfl infX2_leastAnew_X0 (by decide) (by decide +kernel) rfl dX2_leastAnew_29 ?_
    refine s_istore_n (M := fun x5 => [(1, .int x5), (0, .ref (adr C 0))]) X dX2_leastAnew_32 rfl (by decide) (fun _ => rfl) hf (fun x5 hf => ?_)
    refine g_iconst (v := (1 : Int32)) X dX2_leastAnew_33 (by decide) ?_
    refine g_istore_n (L' := [(2, .int (1 : Int32)), (1, .int x5), (0, .ref (adr C 0))]) X dX2_leastAnew_34 rfl (by decide) rfl ?_
    refine g_sub [2, 1, 0] (L' := [(0, .ref (adr C 0)), (1, .int x5), (2, .int (1 : Int32))]) rfl ?_
    exact tX2_leastAnew_35 X hne hq FU x5 (1 : Int32) σ4 hf
  · exact e_throw (E := iIS) (text := "too many plans to try") (ik := 122) (is := 124) (ic := 126) X hne hq (by decide +kernel) (by decide +kernel) (by decide +kernel) (by decide +kernel) (by decide +kernel) (by decide +kernel) (Or.inr (Or.inr rfl)) (by decide +kernel) dX2_leastAnew_7 dX2_leastAnew_10 dX2_leastAnew_11 dX2_leastAnew_13 dX2_leastAnew_16 (by decide) (Nat.le_of_ble_eq_true rfl) (by decide) (by decide) ⟨2, (Option.some.inj hf).symm, rfl⟩
def fX2_leastAnew (σ : Mem) : Option (Sum Int32 Nat × Mem) := fX2_leastAnew_e σ
theorem kX2_leastAnew (l : Launch) (σ : Mem) : KXI l yX2_leastAnew wsX2_leastAnew rmX2_leastAnew (fun ad => [.ref (ad 0)]) σ (fX2_leastAnew σ) := fun r hr => kt_of (by decide +kernel) rfl (fun _ => Nat.le_of_ble_eq_true rfl) (fun C X hne hq => tX2_leastAnew_e X hne hq σ hr)
/-! ### X2_carried -/
abbrev rmX2_carried : Room := { frames := 8, cells := 1, slots := 6, locals := 126 }
theorem infX2_carried_X0 : ∀ w ∈ u_ws RX0 TX0 15, w ∈ wsX2_carried := by decide +kernel
def fX2_carried_e (v1 : Int32) (v2 : Int32) (σ : Mem) : Option (Sum Int32 Nat × Mem) :=
  bndX (fX2_checkWay v1 v2 σ) fun u1 σ2 =>
  bnd (fX2_planned σ2) fun u3 σ4 =>
  grd (decide (u3 = 13)) (bnd (fX2_wayOf v1 v2 σ4) fun u5 σ6 =>
  grd (inb u5 25) (some (Sum.inl (rI σ6 16 (ix u5)), σ6)))
set_option maxHeartbeats 4000000 in
set_option maxRecDepth 100000 in
theorem tX2_carried_e {C : Ctx} (X : CX C cX2_carried 3 RX2 wsX2_carried rmX2_carried (some .int)) (hne : NH C) {r : Sum Int32 Nat × Mem} (hq : QXI C r) (v1 : Int32) (v2 : Int32) (σ : Mem) (hf : fX2_carried_e v1 v2 σ = some r) : G C 3 0 0 0 [(0, .ref (adr C 0)), (1, .int v1), (2, .int v2)] [] σ := by
  unfold fX2_carried_e at hf
  refine g_aload_n X dX2_carried_0 0 rfl rfl ?_
  refine g_iload_n X dX2_carried_1 1 rfl rfl ?_
  refine g_iload_n X dX2_carried_2 2 rfl rfl ?_
  refine c_VXV (q := 0) (vs := [.int v1, .int v2]) (rest := []) X hne (kX2_checkWay (cL C) v1 v2 σ) (fun s a hts => cwV 2 hts gX2_carried_X2_checkWay rfl rfl rfl (by decide +kernel) ⟨Nat.le_of_ble_eq_true rfl, Nat.le_of_ble_eq_true rfl⟩) obj_x (rfl : vwCl[2]? = some (RX2, TX2, 15)) rfl rfl rfl rfl (Nat.le_of_ble_eq_true rfl) dX2_carried_3 ⟨Nat.le_of_ble_eq_true rfl, Nat.le_of_ble_eq_true rfl⟩ ⟨rfl, rfl⟩ hq hf (fun u1 σ2 hf => ?_)
  refine g_aload_n X dX2_carried_6 0 rfl rfl ?_
  refine c_VR (q := 0) (vs := []) (rest := []) X (kX2_planned (cL C) σ2) (fun s a hts => cwV 0 hts gX2_carried_X2_planned rfl rfl rfl (by decide +kernel) ⟨Nat.le_of_ble_eq_true rfl, Nat.le_of_ble_eq_true rfl⟩) obj_x (rfl : vwCl[2]? = some (RX2, TX2, 15)) rfl rfl rfl rfl (Nat.le_of_ble_eq_true rfl) dX2_carried_7 ⟨Nat.le_of_ble_eq_true rfl, Nat.le_of_ble_eq_true rfl⟩ hf (fun u3 σ4 hf => ?_)
  replace hf := grd_some hf
  obtain ⟨hg, hf⟩ := hf
  replace hg := of_decide_eq_true hg
  subst hg
  refine g_get (q := 13) (kf := 2) (v := .ref (adr C 16)) X (obj_p (k := 13) rfl) rfl infX2_carried_X0 (by decide) (by decide +kernel) rfl dX2_carried_10 ?_
  refine g_iload_n X dX2_carried_13 1 rfl rfl ?_
  refine g_iload_n X dX2_carried_14 2 rfl rfl ?_
  refine c_SI (vs := [.int v1, .int v2]) (rest := [.ref (adr C 16)]) X (kX2_wayOf (cL C) v1 v2 σ4) (fun s a hts => va_cwS 2 hts gX2_carried_X2_wayOf rfl rfl rfl (by decide +kernel) ⟨Nat.le_of_ble_eq_true rfl, Nat.le_of_ble_eq_true rfl⟩) rfl rfl rfl (Nat.le_of_ble_eq_true rfl) dX2_carried_15 ⟨Nat.le_of_ble_eq_true rfl, Nat.le_of_ble_eq_true rfl⟩ hf (fun u5 σ6 hf => ?_)
  refine g_iald (q := 16) (n := 25) X rfl rfl dX2_carried_18 hf (fun hf => ?_)
  exact r_iretX X hq dX2_carried_19 hf
def fX2_carried (v1 : Int32) (v2 : Int32) (σ : Mem) : Option (Sum Int32 Nat × Mem) := fX2_carried_e v1 v2 σ
theorem kX2_carried (l : Launch) (v1 : Int32) (v2 : Int32) (σ : Mem) : KXI l yX2_carried wsX2_carried rmX2_carried (fun ad => [.ref (ad 0), .int v1, .int v2]) σ (fX2_carried v1 v2 σ) := fun r hr => kt_of (by decide +kernel) rfl (fun _ => Nat.le_of_ble_eq_true rfl) (fun C X hne hq => tX2_carried_e X hne hq v1 v2 σ hr)
/-! ### X2_left -/
abbrev rmX2_left : Room := { frames := 7, cells := 1, slots := 6, locals := 121 }
theorem infX2_left_X0 : ∀ w ∈ u_ws RX0 TX0 15, w ∈ wsX2_left := by decide +kernel
def fX2_left_31 (s0 : Int32) (σ : Mem) : Option (Sum Int32 Nat × Mem) :=
  some (Sum.inl s0, σ)
set_option maxHeartbeats 4000000 in
set_option maxRecDepth 100000 in
theorem tX2_left_31 {C : Ctx} (X : CX C cX2_left 3 RX2 wsX2_left rmX2_left (some .int)) (hne : NH C) {r : Sum Int32 Nat × Mem} (hq : QXI C r) (s0 : Int32) (σ : Mem) (hf : fX2_left_31 s0 σ = some r) : G C 3 0 0 31 [] [.int s0] σ := by
  unfold fX2_left_31 at hf
  exact r_iretX X hq dX2_left_31 hf
def fX2_left_e (v1 : Int32) (v2 : Int32) (σ : Mem) : Option (Sum Int32 Nat × Mem) :=
  bndX (fX2_checkNumber v1 v2 σ) fun u1 σ2 =>
  if v1 = 0 then (bnd (fX2_planned σ2) fun u3 σ4 =>
  grd (decide (u3 = 13)) (grd (inb v2 5) (fX2_left_31 (rI σ4 14 (ix v2)) σ4)))
  else (bnd (fX2_planned σ2) fun u5 σ6 =>
  grd (decide (u5 = 13)) (grd (inb v2 5) (fX2_left_31 (rI σ6 15 (ix v2)) σ6)))
set_option maxHeartbeats 4000000 in
set_option maxRecDepth 100000 in
theorem tX2_left_e {C : Ctx} (X : CX C cX2_left 3 RX2 wsX2_left rmX2_left (some .int)) (hne : NH C) {r : Sum Int32 Nat × Mem} (hq : QXI C r) (v1 : Int32) (v2 : Int32) (σ : Mem) (hf : fX2_left_e v1 v2 σ = some r) : G C 3 0 0 0 [(0, .ref (adr C 0)), (1, .int v1), (2, .int v2)] [] σ := by
  unfold fX2_left_e at hf
  refine g_aload_n X dX2_left_0 0 rfl rfl ?_
  refine g_iload_n X dX2_left_1 1 rfl rfl ?_
  refine g_iload_n X dX2_left_2 2 rfl rfl ?_
  refine c_VXV (q := 0) (vs := [.int v1, .int v2]) (rest := []) X hne (kX2_checkNumber (cL C) v1 v2 σ) (fun s a hts => cwV 2 hts gX2_left_X2_checkNumber rfl rfl rfl (by decide +kernel) ⟨Nat.le_of_ble_eq_true rfl, Nat.le_of_ble_eq_true rfl⟩) obj_x (rfl : vwCl[2]? = some (RX2, TX2, 15)) rfl rfl rfl rfl (Nat.le_of_ble_eq_true rfl) dX2_left_3 ⟨Nat.le_of_ble_eq_true rfl, Nat.le_of_ble_eq_true rfl⟩ ⟨rfl, rfl⟩ hq hf (fun u1 σ2 hf => ?_)
  refine g_iload_n X dX2_left_6 1 rfl rfl ?_
  refine g_if_eq (tgt := 22) X dX2_left_7 (by decide) hf (fun hf => ?_) (fun hf => ?_)
  · refine g_aload_n X dX2_left_22 0 rfl rfl ?_
    refine c_VR (q := 0) (vs := []) (rest := []) X (kX2_planned (cL C) σ2) (fun s a hts => cwV 0 hts gX2_left_X2_planned rfl rfl rfl (by decide +kernel) ⟨Nat.le_of_ble_eq_true rfl, Nat.le_of_ble_eq_true rfl⟩) obj_x (rfl : vwCl[2]? = some (RX2, TX2, 15)) rfl rfl rfl rfl (Nat.le_of_ble_eq_true rfl) dX2_left_23 ⟨Nat.le_of_ble_eq_true rfl, Nat.le_of_ble_eq_true rfl⟩ hf (fun u3 σ4 hf => ?_)
    replace hf := grd_some hf
    obtain ⟨hg, hf⟩ := hf
    replace hg := of_decide_eq_true hg
    subst hg
    refine g_get (q := 13) (kf := 0) (v := .ref (adr C 14)) X (obj_p (k := 13) rfl) rfl infX2_left_X0 (by decide) (by decide +kernel) rfl dX2_left_26 ?_
    refine g_iload_n X dX2_left_29 2 rfl rfl ?_
    refine g_iald (q := 14) (n := 5) X rfl rfl dX2_left_30 hf (fun hf => ?_)
    refine g_sub [] (L' := []) rfl ?_
    exact tX2_left_31 X hne hq (rI σ4 14 (ix v2)) σ4 hf
  · refine g_aload_n X dX2_left_10 0 rfl rfl ?_
    refine c_VR (q := 0) (vs := []) (rest := []) X (kX2_planned (cL C) σ2) (fun s a hts => cwV 0 hts gX2_left_X2_planned rfl rfl rfl (by decide +kernel) ⟨Nat.le_of_ble_eq_true rfl, Nat.le_of_ble_eq_true rfl⟩) obj_x (rfl : vwCl[2]? = some (RX2, TX2, 15)) rfl rfl rfl rfl (Nat.le_of_ble_eq_true rfl) dX2_left_11 ⟨Nat.le_of_ble_eq_true rfl, Nat.le_of_ble_eq_true rfl⟩ hf (fun u5 σ6 hf => ?_)
    replace hf := grd_some hf
    obtain ⟨hg, hf⟩ := hf
    replace hg := of_decide_eq_true hg
    subst hg
    refine g_get (q := 13) (kf := 1) (v := .ref (adr C 15)) X (obj_p (k := 13) rfl) rfl infX2_left_X0 (by decide) (by decide +kernel) rfl dX2_left_14 ?_
    refine g_iload_n X dX2_left_17 2 rfl rfl ?_
    refine g_iald (q := 15) (n := 5) X rfl rfl dX2_left_18 hf (fun hf => ?_)
    refine g_goto (tgt := 31) X dX2_left_19 (by decide) ?_
    refine g_sub [] (L' := []) rfl ?_
    exact tX2_left_31 X hne hq (rI σ6 15 (ix v2)) σ6 hf
def fX2_left (v1 : Int32) (v2 : Int32) (σ : Mem) : Option (Sum Int32 Nat × Mem) := fX2_left_e v1 v2 σ
theorem kX2_left (l : Launch) (v1 : Int32) (v2 : Int32) (σ : Mem) : KXI l yX2_left wsX2_left rmX2_left (fun ad => [.ref (ad 0), .int v1, .int v2]) σ (fX2_left v1 v2 σ) := fun r hr => kt_of (by decide +kernel) rfl (fun _ => Nat.le_of_ble_eq_true rfl) (fun C X hne hq => tX2_left_e X hne hq v1 v2 σ hr)
/-! ### X2_without -/
abbrev rmX2_without : Room := { frames := 8, cells := 1, slots := 6, locals := 126 }
theorem infX2_without_X0 : ∀ w ∈ u_ws RX0 TX0 15, w ∈ wsX2_without := by decide +kernel
theorem infX2_without_X2 : ∀ w ∈ u_ws RX2 TX2 15, w ∈ wsX2_without := by decide +kernel
def fX2_without_e (v1 : Int32) (v2 : Int32) (σ : Mem) : Option (Sum Int32 Nat × Mem) :=
  bndX (fX2_checkWay v1 v2 σ) fun u1 σ2 =>
  bnd (fX2_layOut 24 σ2) fun u3 σ4 =>
  bnd (fX2_wayOf v1 v2 σ4) fun u5 σ6 =>
  grd (inb u5 25) (ltM (wI σ6 28 (ix u5) (0 : Int32)) fun σ7 =>
  bnd (fX0_improve 24 σ7) fun u8 σ9 =>
  bnd (fX2_planned σ9) fun u10 σ11 =>
  grd (decide (u10 = 13)) (some (Sum.inl ((rI σ9 24 4) - (rI σ11 13 4)), σ11)))
set_option maxHeartbeats 4000000 in
set_option maxRecDepth 100000 in
theorem tX2_without_e {C : Ctx} (X : CX C cX2_without 3 RX2 wsX2_without rmX2_without (some .int)) (hne : NH C) {r : Sum Int32 Nat × Mem} (hq : QXI C r) (v1 : Int32) (v2 : Int32) (σ : Mem) (hf : fX2_without_e v1 v2 σ = some r) : G C 3 0 0 0 [(0, .ref (adr C 0)), (1, .int v1), (2, .int v2)] [] σ := by
  unfold fX2_without_e at hf
  refine g_aload_n X dX2_without_0 0 rfl rfl ?_
  refine g_iload_n X dX2_without_1 1 rfl rfl ?_
  refine g_iload_n X dX2_without_2 2 rfl rfl ?_
  refine c_VXV (q := 0) (vs := [.int v1, .int v2]) (rest := []) X hne (kX2_checkWay (cL C) v1 v2 σ) (fun s a hts => cwV 2 hts gX2_without_X2_checkWay rfl rfl rfl (by decide +kernel) ⟨Nat.le_of_ble_eq_true rfl, Nat.le_of_ble_eq_true rfl⟩) obj_x (rfl : vwCl[2]? = some (RX2, TX2, 15)) rfl rfl rfl rfl (Nat.le_of_ble_eq_true rfl) dX2_without_3 ⟨Nat.le_of_ble_eq_true rfl, Nat.le_of_ble_eq_true rfl⟩ ⟨rfl, rfl⟩ hq hf (fun u1 σ2 hf => ?_)
  refine g_aload_n X dX2_without_6 0 rfl rfl ?_
  refine g_aload_n X dX2_without_7 0 rfl rfl ?_
  refine g_get (q := 0) (kf := 9) (v := .ref (adr C 24)) X obj_x rfl infX2_without_X2 (by decide) (by decide +kernel) rfl dX2_without_8 ?_
  refine c_VV (q := 0) (vs := [.ref (adr C 24)]) (rest := []) X (kX2_layOut (cL C) 24 rfl σ2) (fun s a hts => cwV 1 hts gX2_without_X2_layOut rfl rfl rfl (by decide +kernel) ⟨Nat.le_of_ble_eq_true rfl, Nat.le_of_ble_eq_true rfl⟩) obj_x (rfl : vwCl[2]? = some (RX2, TX2, 15)) rfl rfl rfl rfl (Nat.le_of_ble_eq_true rfl) dX2_without_11 ⟨Nat.le_of_ble_eq_true rfl, Nat.le_of_ble_eq_true rfl⟩ hf (fun u3 σ4 hf => ?_)
  refine g_aload_n X dX2_without_14 0 rfl rfl ?_
  refine g_get (q := 0) (kf := 9) (v := .ref (adr C 24)) X obj_x rfl infX2_without_X2 (by decide) (by decide +kernel) rfl dX2_without_15 ?_
  refine g_get (q := 24) (kf := 3) (v := .ref (adr C 28)) X (obj_p (k := 24) rfl) rfl infX2_without_X0 (by decide) (by decide +kernel) rfl dX2_without_18 ?_
  refine g_iload_n X dX2_without_21 1 rfl rfl ?_
  refine g_iload_n X dX2_without_22 2 rfl rfl ?_
  refine c_SI (vs := [.int v1, .int v2]) (rest := [.ref (adr C 28)]) X (kX2_wayOf (cL C) v1 v2 σ4) (fun s a hts => va_cwS 2 hts gX2_without_X2_wayOf rfl rfl rfl (by decide +kernel) ⟨Nat.le_of_ble_eq_true rfl, Nat.le_of_ble_eq_true rfl⟩) rfl rfl rfl (Nat.le_of_ble_eq_true rfl) dX2_without_23 ⟨Nat.le_of_ble_eq_true rfl, Nat.le_of_ble_eq_true rfl⟩ hf (fun u5 σ6 hf => ?_)
  refine g_iconst (v := (0 : Int32)) X dX2_without_26 (by decide) ?_
  refine s_iast (q := 28) (n := 25) X rfl rfl dX2_without_27 hf (fun σ7 hf => ?_)
  refine g_aload_n X dX2_without_28 0 rfl rfl ?_
  refine g_get (q := 0) (kf := 9) (v := .ref (adr C 24)) X obj_x rfl infX2_without_X2 (by decide) (by decide +kernel) rfl dX2_without_29 ?_
  refine c_VV (q := 24) (vs := []) (rest := []) X (kX0_improve (cL C) 24 rfl σ7) (fun s a hts => cwV 0 hts gX2_without_X0_improve rfl rfl rfl (by decide +kernel) ⟨Nat.le_of_ble_eq_true rfl, Nat.le_of_ble_eq_true rfl⟩) (obj_p (k := 24) rfl) (rfl : vwCl[0]? = some (RX0, TX0, 15)) rfl rfl rfl rfl (Nat.le_of_ble_eq_true rfl) dX2_without_32 ⟨Nat.le_of_ble_eq_true rfl, Nat.le_of_ble_eq_true rfl⟩ hf (fun u8 σ9 hf => ?_)
  refine g_aload_n X dX2_without_35 0 rfl rfl ?_
  refine g_get (q := 0) (kf := 9) (v := .ref (adr C 24)) X obj_x rfl infX2_without_X2 (by decide) (by decide +kernel) rfl dX2_without_36 ?_
  refine g_get (q := 24) (kf := 4) (v := .int (rI σ9 24 4)) X (obj_p (k := 24) rfl) rfl infX2_without_X0 (by decide) (by decide +kernel) rfl dX2_without_39 ?_
  refine g_aload_n X dX2_without_42 0 rfl rfl ?_
  refine c_VR (q := 0) (vs := []) (rest := [.int (rI σ9 24 4)]) X (kX2_planned (cL C) σ9) (fun s a hts => cwV 0 hts gX2_without_X2_planned rfl rfl rfl (by decide +kernel) ⟨Nat.le_of_ble_eq_true rfl, Nat.le_of_ble_eq_true rfl⟩) obj_x (rfl : vwCl[2]? = some (RX2, TX2, 15)) rfl rfl rfl rfl (Nat.le_of_ble_eq_true rfl) dX2_without_43 ⟨Nat.le_of_ble_eq_true rfl, Nat.le_of_ble_eq_true rfl⟩ hf (fun u10 σ11 hf => ?_)
  replace hf := grd_some hf
  obtain ⟨hg, hf⟩ := hf
  replace hg := of_decide_eq_true hg
  subst hg
  refine g_get (q := 13) (kf := 4) (v := .int (rI σ11 13 4)) X (obj_p (k := 13) rfl) rfl infX2_without_X0 (by decide) (by decide +kernel) rfl dX2_without_46 ?_
  refine g_isub X dX2_without_49 ?_
  exact r_iretX X hq dX2_without_50 hf
def fX2_without (v1 : Int32) (v2 : Int32) (σ : Mem) : Option (Sum Int32 Nat × Mem) := fX2_without_e v1 v2 σ
theorem kX2_without (l : Launch) (v1 : Int32) (v2 : Int32) (σ : Mem) : KXI l yX2_without wsX2_without rmX2_without (fun ad => [.ref (ad 0), .int v1, .int v2]) σ (fX2_without v1 v2 σ) := fun r hr => kt_of (by decide +kernel) rfl (fun _ => Nat.le_of_ble_eq_true rfl) (fun C X hne hq => tX2_without_e X hne hq v1 v2 σ hr)
/-! ### X2_holePrice -/
abbrev rmX2_holePrice : Room := { frames := 5, cells := 0, slots := 0, locals := 121 }
theorem infX2_holePrice_X0 : ∀ w ∈ u_ws RX0 TX0 15, w ∈ wsX2_holePrice := by decide +kernel
theorem infX2_holePrice_X2 : ∀ w ∈ u_ws RX2 TX2 15, w ∈ wsX2_holePrice := by decide +kernel
def fX2_holePrice_e (v1 : Int32) (σ : Mem) : Option (Int32 × Mem) :=
  bnd (fX2_layOut 24 σ) fun u1 σ2 =>
  bnd (fX0_letLack 24 v1 (-1 : Int32) σ2) fun u3 σ4 =>
  bnd (fX0_improve 24 σ4) fun u5 σ6 =>
  bnd (fX2_planned σ6) fun u7 σ8 =>
  grd (decide (u7 = 13)) (some (((rI σ8 13 4) - (rI σ8 24 4)), σ8))
set_option maxHeartbeats 4000000 in
set_option maxRecDepth 100000 in
theorem tX2_holePrice_e {C : Ctx} (X : CX C cX2_holePrice 2 RX2 wsX2_holePrice rmX2_holePrice (some .int)) {r : Int32 × Mem} (hq : QI C r) (v1 : Int32) (σ : Mem) (hf : fX2_holePrice_e v1 σ = some r) : G C 2 0 0 0 [(0, .ref (adr C 0)), (1, .int v1)] [] σ := by
  unfold fX2_holePrice_e at hf
  refine g_aload_n X dX2_holePrice_0 0 rfl rfl ?_
  refine g_aload_n X dX2_holePrice_1 0 rfl rfl ?_
  refine g_get (q := 0) (kf := 9) (v := .ref (adr C 24)) X obj_x rfl infX2_holePrice_X2 (by decide) (by decide +kernel) rfl dX2_holePrice_2 ?_
  refine c_VV (q := 0) (vs := [.ref (adr C 24)]) (rest := []) X (kX2_layOut (cL C) 24 rfl σ) (fun s a hts => cwV 1 hts gX2_holePrice_X2_layOut rfl rfl rfl (by decide +kernel) ⟨Nat.le_of_ble_eq_true rfl, Nat.le_of_ble_eq_true rfl⟩) obj_x (rfl : vwCl[2]? = some (RX2, TX2, 15)) rfl rfl rfl rfl (Nat.le_of_ble_eq_true rfl) dX2_holePrice_5 ⟨Nat.le_of_ble_eq_true rfl, Nat.le_of_ble_eq_true rfl⟩ hf (fun u1 σ2 hf => ?_)
  refine g_aload_n X dX2_holePrice_8 0 rfl rfl ?_
  refine g_get (q := 0) (kf := 9) (v := .ref (adr C 24)) X obj_x rfl infX2_holePrice_X2 (by decide) (by decide +kernel) rfl dX2_holePrice_9 ?_
  refine g_iload_n X dX2_holePrice_12 1 rfl rfl ?_
  refine g_iconst (v := (-1 : Int32)) X dX2_holePrice_13 (by decide) ?_
  refine c_VV (q := 24) (vs := [.int v1, .int (-1 : Int32)]) (rest := []) X (kX0_letLack (cL C) 24 v1 (-1 : Int32) rfl σ2) (fun s a hts => cwV 2 hts gX2_holePrice_X0_letLack rfl rfl rfl (by decide +kernel) ⟨Nat.le_of_ble_eq_true rfl, Nat.le_of_ble_eq_true rfl⟩) (obj_p (k := 24) rfl) (rfl : vwCl[0]? = some (RX0, TX0, 15)) rfl rfl rfl rfl (Nat.le_of_ble_eq_true rfl) dX2_holePrice_14 ⟨Nat.le_of_ble_eq_true rfl, Nat.le_of_ble_eq_true rfl⟩ hf (fun u3 σ4 hf => ?_)
  refine g_aload_n X dX2_holePrice_17 0 rfl rfl ?_
  refine g_get (q := 0) (kf := 9) (v := .ref (adr C 24)) X obj_x rfl infX2_holePrice_X2 (by decide) (by decide +kernel) rfl dX2_holePrice_18 ?_
  refine c_VV (q := 24) (vs := []) (rest := []) X (kX0_improve (cL C) 24 rfl σ4) (fun s a hts => cwV 0 hts gX2_holePrice_X0_improve rfl rfl rfl (by decide +kernel) ⟨Nat.le_of_ble_eq_true rfl, Nat.le_of_ble_eq_true rfl⟩) (obj_p (k := 24) rfl) (rfl : vwCl[0]? = some (RX0, TX0, 15)) rfl rfl rfl rfl (Nat.le_of_ble_eq_true rfl) dX2_holePrice_21 ⟨Nat.le_of_ble_eq_true rfl, Nat.le_of_ble_eq_true rfl⟩ hf (fun u5 σ6 hf => ?_)
  refine g_aload_n X dX2_holePrice_24 0 rfl rfl ?_
  refine c_VR (q := 0) (vs := []) (rest := []) X (kX2_planned (cL C) σ6) (fun s a hts => cwV 0 hts gX2_holePrice_X2_planned rfl rfl rfl (by decide +kernel) ⟨Nat.le_of_ble_eq_true rfl, Nat.le_of_ble_eq_true rfl⟩) obj_x (rfl : vwCl[2]? = some (RX2, TX2, 15)) rfl rfl rfl rfl (Nat.le_of_ble_eq_true rfl) dX2_holePrice_25 ⟨Nat.le_of_ble_eq_true rfl, Nat.le_of_ble_eq_true rfl⟩ hf (fun u7 σ8 hf => ?_)
  replace hf := grd_some hf
  obtain ⟨hg, hf⟩ := hf
  replace hg := of_decide_eq_true hg
  subst hg
  refine g_get (q := 13) (kf := 4) (v := .int (rI σ8 13 4)) X (obj_p (k := 13) rfl) rfl infX2_holePrice_X0 (by decide) (by decide +kernel) rfl dX2_holePrice_28 ?_
  refine g_aload_n X dX2_holePrice_31 0 rfl rfl ?_
  refine g_get (q := 0) (kf := 9) (v := .ref (adr C 24)) X obj_x rfl infX2_holePrice_X2 (by decide) (by decide +kernel) rfl dX2_holePrice_32 ?_
  refine g_get (q := 24) (kf := 4) (v := .int (rI σ8 24 4)) X (obj_p (k := 24) rfl) rfl infX2_holePrice_X0 (by decide) (by decide +kernel) rfl dX2_holePrice_35 ?_
  refine g_isub X dX2_holePrice_38 ?_
  exact r_iret X hq dX2_holePrice_39 hf
def fX2_holePrice (v1 : Int32) (σ : Mem) : Option (Int32 × Mem) := fX2_holePrice_e v1 σ
theorem kX2_holePrice (l : Launch) (v1 : Int32) (σ : Mem) : KI l yX2_holePrice wsX2_holePrice rmX2_holePrice (fun ad => [.ref (ad 0), .int v1]) σ (fX2_holePrice v1 σ) := fun r hr => kt_of (by decide +kernel) rfl (fun _ => Nat.le_of_ble_eq_true rfl) (fun C X hne hq => tX2_holePrice_e X hq v1 σ hr)
/-! ### X2_heapPrice -/
abbrev rmX2_heapPrice : Room := { frames := 5, cells := 0, slots := 0, locals := 121 }
theorem infX2_heapPrice_X0 : ∀ w ∈ u_ws RX0 TX0 15, w ∈ wsX2_heapPrice := by decide +kernel
theorem infX2_heapPrice_X2 : ∀ w ∈ u_ws RX2 TX2 15, w ∈ wsX2_heapPrice := by decide +kernel
def fX2_heapPrice_e (v1 : Int32) (σ : Mem) : Option (Int32 × Mem) :=
  bnd (fX2_layOut 24 σ) fun u1 σ2 =>
  bnd (fX0_letStay 24 v1 (1 : Int32) σ2) fun u3 σ4 =>
  bnd (fX0_improve 24 σ4) fun u5 σ6 =>
  bnd (fX2_planned σ6) fun u7 σ8 =>
  grd (decide (u7 = 13)) (some (((rI σ6 24 4) - (rI σ8 13 4)), σ8))
set_option maxHeartbeats 4000000 in
set_option maxRecDepth 100000 in
theorem tX2_heapPrice_e {C : Ctx} (X : CX C cX2_heapPrice 2 RX2 wsX2_heapPrice rmX2_heapPrice (some .int)) {r : Int32 × Mem} (hq : QI C r) (v1 : Int32) (σ : Mem) (hf : fX2_heapPrice_e v1 σ = some r) : G C 2 0 0 0 [(0, .ref (adr C 0)), (1, .int v1)] [] σ := by
  unfold fX2_heapPrice_e at hf
  refine g_aload_n X dX2_heapPrice_0 0 rfl rfl ?_
  refine g_aload_n X dX2_heapPrice_1 0 rfl rfl ?_
  refine g_get (q := 0) (kf := 9) (v := .ref (adr C 24)) X obj_x rfl infX2_heapPrice_X2 (by decide) (by decide +kernel) rfl dX2_heapPrice_2 ?_
  refine c_VV (q := 0) (vs := [.ref (adr C 24)]) (rest := []) X (kX2_layOut (cL C) 24 rfl σ) (fun s a hts => cwV 1 hts gX2_heapPrice_X2_layOut rfl rfl rfl (by decide +kernel) ⟨Nat.le_of_ble_eq_true rfl, Nat.le_of_ble_eq_true rfl⟩) obj_x (rfl : vwCl[2]? = some (RX2, TX2, 15)) rfl rfl rfl rfl (Nat.le_of_ble_eq_true rfl) dX2_heapPrice_5 ⟨Nat.le_of_ble_eq_true rfl, Nat.le_of_ble_eq_true rfl⟩ hf (fun u1 σ2 hf => ?_)
  refine g_aload_n X dX2_heapPrice_8 0 rfl rfl ?_
  refine g_get (q := 0) (kf := 9) (v := .ref (adr C 24)) X obj_x rfl infX2_heapPrice_X2 (by decide) (by decide +kernel) rfl dX2_heapPrice_9 ?_
  refine g_iload_n X dX2_heapPrice_12 1 rfl rfl ?_
  refine g_iconst (v := (1 : Int32)) X dX2_heapPrice_13 (by decide) ?_
  refine c_VV (q := 24) (vs := [.int v1, .int (1 : Int32)]) (rest := []) X (kX0_letStay (cL C) 24 v1 (1 : Int32) rfl σ2) (fun s a hts => cwV 2 hts gX2_heapPrice_X0_letStay rfl rfl rfl (by decide +kernel) ⟨Nat.le_of_ble_eq_true rfl, Nat.le_of_ble_eq_true rfl⟩) (obj_p (k := 24) rfl) (rfl : vwCl[0]? = some (RX0, TX0, 15)) rfl rfl rfl rfl (Nat.le_of_ble_eq_true rfl) dX2_heapPrice_14 ⟨Nat.le_of_ble_eq_true rfl, Nat.le_of_ble_eq_true rfl⟩ hf (fun u3 σ4 hf => ?_)
  refine g_aload_n X dX2_heapPrice_17 0 rfl rfl ?_
  refine g_get (q := 0) (kf := 9) (v := .ref (adr C 24)) X obj_x rfl infX2_heapPrice_X2 (by decide) (by decide +kernel) rfl dX2_heapPrice_18 ?_
  refine c_VV (q := 24) (vs := []) (rest := []) X (kX0_improve (cL C) 24 rfl σ4) (fun s a hts => cwV 0 hts gX2_heapPrice_X0_improve rfl rfl rfl (by decide +kernel) ⟨Nat.le_of_ble_eq_true rfl, Nat.le_of_ble_eq_true rfl⟩) (obj_p (k := 24) rfl) (rfl : vwCl[0]? = some (RX0, TX0, 15)) rfl rfl rfl rfl (Nat.le_of_ble_eq_true rfl) dX2_heapPrice_21 ⟨Nat.le_of_ble_eq_true rfl, Nat.le_of_ble_eq_true rfl⟩ hf (fun u5 σ6 hf => ?_)
  refine g_aload_n X dX2_heapPrice_24 0 rfl rfl ?_
  refine g_get (q := 0) (kf := 9) (v := .ref (adr C 24)) X obj_x rfl infX2_heapPrice_X2 (by decide) (by decide +kernel) rfl dX2_heapPrice_25 ?_
  refine g_get (q := 24) (kf := 4) (v := .int (rI σ6 24 4)) X (obj_p (k := 24) rfl) rfl infX2_heapPrice_X0 (by decide) (by decide +kernel) rfl dX2_heapPrice_28 ?_
  refine g_aload_n X dX2_heapPrice_31 0 rfl rfl ?_
  refine c_VR (q := 0) (vs := []) (rest := [.int (rI σ6 24 4)]) X (kX2_planned (cL C) σ6) (fun s a hts => cwV 0 hts gX2_heapPrice_X2_planned rfl rfl rfl (by decide +kernel) ⟨Nat.le_of_ble_eq_true rfl, Nat.le_of_ble_eq_true rfl⟩) obj_x (rfl : vwCl[2]? = some (RX2, TX2, 15)) rfl rfl rfl rfl (Nat.le_of_ble_eq_true rfl) dX2_heapPrice_32 ⟨Nat.le_of_ble_eq_true rfl, Nat.le_of_ble_eq_true rfl⟩ hf (fun u7 σ8 hf => ?_)
  replace hf := grd_some hf
  obtain ⟨hg, hf⟩ := hf
  replace hg := of_decide_eq_true hg
  subst hg
  refine g_get (q := 13) (kf := 4) (v := .int (rI σ8 13 4)) X (obj_p (k := 13) rfl) rfl infX2_heapPrice_X0 (by decide) (by decide +kernel) rfl dX2_heapPrice_35 ?_
  refine g_isub X dX2_heapPrice_38 ?_
  exact r_iret X hq dX2_heapPrice_39 hf
def fX2_heapPrice (v1 : Int32) (σ : Mem) : Option (Int32 × Mem) := fX2_heapPrice_e v1 σ
theorem kX2_heapPrice (l : Launch) (v1 : Int32) (σ : Mem) : KI l yX2_heapPrice wsX2_heapPrice rmX2_heapPrice (fun ad => [.ref (ad 0), .int v1]) σ (fX2_heapPrice v1 σ) := fun r hr => kt_of (by decide +kernel) rfl (fun _ => Nat.le_of_ble_eq_true rfl) (fun C X hne hq => tX2_heapPrice_e X hq v1 σ hr)
/-! ### X2_price -/
abbrev rmX2_price : Room := { frames := 7, cells := 1, slots := 6, locals := 142 }
def fX2_price_23 (s0 : Int32) (σ : Mem) : Option (Sum Int32 Nat × Mem) :=
  some (Sum.inl s0, σ)
set_option maxHeartbeats 4000000 in
set_option maxRecDepth 100000 in
theorem tX2_price_23 {C : Ctx} (X : CX C cX2_price 3 RX2 wsX2_price rmX2_price (some .int)) (hne : NH C) {r : Sum Int32 Nat × Mem} (hq : QXI C r) (s0 : Int32) (σ : Mem) (hf : fX2_price_23 s0 σ = some r) : G C 3 0 0 23 [] [.int s0] σ := by
  unfold fX2_price_23 at hf
  exact r_iretX X hq dX2_price_23 hf
def fX2_price_e (v1 : Int32) (v2 : Int32) (σ : Mem) : Option (Sum Int32 Nat × Mem) :=
  bndX (fX2_checkNumber v1 v2 σ) fun u1 σ2 =>
  if v1 = 0 then (bnd (fX2_heapPrice v2 σ2) fun u3 σ4 =>
  fX2_price_23 u3 σ4)
  else (bnd (fX2_holePrice v2 σ2) fun u5 σ6 =>
  fX2_price_23 u5 σ6)
set_option maxHeartbeats 4000000 in
set_option maxRecDepth 100000 in
theorem tX2_price_e {C : Ctx} (X : CX C cX2_price 3 RX2 wsX2_price rmX2_price (some .int)) (hne : NH C) {r : Sum Int32 Nat × Mem} (hq : QXI C r) (v1 : Int32) (v2 : Int32) (σ : Mem) (hf : fX2_price_e v1 v2 σ = some r) : G C 3 0 0 0 [(0, .ref (adr C 0)), (1, .int v1), (2, .int v2)] [] σ := by
  unfold fX2_price_e at hf
  refine g_aload_n X dX2_price_0 0 rfl rfl ?_
  refine g_iload_n X dX2_price_1 1 rfl rfl ?_
  refine g_iload_n X dX2_price_2 2 rfl rfl ?_
  refine c_VXV (q := 0) (vs := [.int v1, .int v2]) (rest := []) X hne (kX2_checkNumber (cL C) v1 v2 σ) (fun s a hts => cwV 2 hts gX2_price_X2_checkNumber rfl rfl rfl (by decide +kernel) ⟨Nat.le_of_ble_eq_true rfl, Nat.le_of_ble_eq_true rfl⟩) obj_x (rfl : vwCl[2]? = some (RX2, TX2, 15)) rfl rfl rfl rfl (Nat.le_of_ble_eq_true rfl) dX2_price_3 ⟨Nat.le_of_ble_eq_true rfl, Nat.le_of_ble_eq_true rfl⟩ ⟨rfl, rfl⟩ hq hf (fun u1 σ2 hf => ?_)
  refine g_iload_n X dX2_price_6 1 rfl rfl ?_
  refine g_if_eq (tgt := 18) X dX2_price_7 (by decide) hf (fun hf => ?_) (fun hf => ?_)
  · refine g_aload_n X dX2_price_18 0 rfl rfl ?_
    refine g_iload_n X dX2_price_19 2 rfl rfl ?_
    refine c_VI (q := 0) (vs := [.int v2]) (rest := []) X (kX2_heapPrice (cL C) v2 σ2) (fun s a hts => cwV 1 hts gX2_price_X2_heapPrice rfl rfl rfl (by decide +kernel) ⟨Nat.le_of_ble_eq_true rfl, Nat.le_of_ble_eq_true rfl⟩) obj_x (rfl : vwCl[2]? = some (RX2, TX2, 15)) rfl rfl rfl rfl (Nat.le_of_ble_eq_true rfl) dX2_price_20 ⟨Nat.le_of_ble_eq_true rfl, Nat.le_of_ble_eq_true rfl⟩ hf (fun u3 σ4 hf => ?_)
    refine g_sub [] (L' := []) rfl ?_
    exact tX2_price_23 X hne hq u3 σ4 hf
  · refine g_aload_n X dX2_price_10 0 rfl rfl ?_
    refine g_iload_n X dX2_price_11 2 rfl rfl ?_
    refine c_VI (q := 0) (vs := [.int v2]) (rest := []) X (kX2_holePrice (cL C) v2 σ2) (fun s a hts => cwV 1 hts gX2_price_X2_holePrice rfl rfl rfl (by decide +kernel) ⟨Nat.le_of_ble_eq_true rfl, Nat.le_of_ble_eq_true rfl⟩) obj_x (rfl : vwCl[2]? = some (RX2, TX2, 15)) rfl rfl rfl rfl (Nat.le_of_ble_eq_true rfl) dX2_price_12 ⟨Nat.le_of_ble_eq_true rfl, Nat.le_of_ble_eq_true rfl⟩ hf (fun u5 σ6 hf => ?_)
    refine g_goto (tgt := 23) X dX2_price_15 (by decide) ?_
    refine g_sub [] (L' := []) rfl ?_
    exact tX2_price_23 X hne hq u5 σ6 hf
def fX2_price (v1 : Int32) (v2 : Int32) (σ : Mem) : Option (Sum Int32 Nat × Mem) := fX2_price_e v1 v2 σ
theorem kX2_price (l : Launch) (v1 : Int32) (v2 : Int32) (σ : Mem) : KXI l yX2_price wsX2_price rmX2_price (fun ad => [.ref (ad 0), .int v1, .int v2]) σ (fX2_price v1 v2 σ) := fun r hr => kt_of (by decide +kernel) rfl (fun _ => Nat.le_of_ble_eq_true rfl) (fun C X hne hq => tX2_price_e X hne hq v1 v2 σ hr)
/-! ### X2_tollOf -/
abbrev rmX2_tollOf : Room := { frames := 3, cells := 0, slots := 0, locals := 60 }
theorem infX2_tollOf_X2 : ∀ w ∈ u_ws RX2 TX2 15, w ∈ wsX2_tollOf := by decide +kernel
def fX2_tollOf_e (v1 : Int32) (v2 : Int32) (v3 : Int32) (v4 : Int32) (σ : Mem) : Option (Int32 × Mem) :=
  bnd (fX2_wayOf v1 v2 σ) fun u1 σ2 =>
  grd (inb u1 25) (if (rI σ2 8 (ix u1)) = (-1 : Int32) then (some ((0 : Int32), σ2))
  else (bnd (fX2_unitCost v1 v2 σ2) fun u3 σ4 =>
  some ((mxI (0 : Int32) ((v3 + v4) - u3)), σ4)))
set_option maxHeartbeats 4000000 in
set_option maxRecDepth 100000 in
theorem tX2_tollOf_e {C : Ctx} (X : CX C cX2_tollOf 5 RX2 wsX2_tollOf rmX2_tollOf (some .int)) {r : Int32 × Mem} (hq : QI C r) (v1 : Int32) (v2 : Int32) (v3 : Int32) (v4 : Int32) (σ : Mem) (hf : fX2_tollOf_e v1 v2 v3 v4 σ = some r) : G C 5 0 0 0 [(0, .ref (adr C 0)), (1, .int v1), (2, .int v2), (3, .int v3), (4, .int v4)] [] σ := by
  unfold fX2_tollOf_e at hf
  refine g_aload_n X dX2_tollOf_0 0 rfl rfl ?_
  refine g_get (q := 0) (kf := 3) (v := .ref (adr C 8)) X obj_x rfl infX2_tollOf_X2 (by decide) (by decide +kernel) rfl dX2_tollOf_1 ?_
  refine g_iload_n X dX2_tollOf_4 1 rfl rfl ?_
  refine g_iload_n X dX2_tollOf_5 2 rfl rfl ?_
  refine c_SI (vs := [.int v1, .int v2]) (rest := [.ref (adr C 8)]) X (kX2_wayOf (cL C) v1 v2 σ) (fun s a hts => va_cwS 2 hts gX2_tollOf_X2_wayOf rfl rfl rfl (by decide +kernel) ⟨Nat.le_of_ble_eq_true rfl, Nat.le_of_ble_eq_true rfl⟩) rfl rfl rfl (Nat.le_of_ble_eq_true rfl) dX2_tollOf_6 ⟨Nat.le_of_ble_eq_true rfl, Nat.le_of_ble_eq_true rfl⟩ hf (fun u1 σ2 hf => ?_)
  refine g_iald (q := 8) (n := 25) X rfl rfl dX2_tollOf_9 hf (fun hf => ?_)
  refine g_iconst (v := (-1 : Int32)) X dX2_tollOf_10 (by decide) ?_
  refine g_icmp_ne (tgt := 16) X dX2_tollOf_11 (by decide) hf (fun hf => ?_) (fun hf => ?_)
  · refine g_iconst (v := (0 : Int32)) X dX2_tollOf_16 (by decide) ?_
    refine g_iload_n X dX2_tollOf_17 3 rfl rfl ?_
    refine g_iload X dX2_tollOf_18 4 rfl ?_
    refine g_iadd X dX2_tollOf_20 ?_
    refine g_aload_n X dX2_tollOf_21 0 rfl rfl ?_
    refine g_iload_n X dX2_tollOf_22 1 rfl rfl ?_
    refine g_iload_n X dX2_tollOf_23 2 rfl rfl ?_
    refine c_VI (q := 0) (vs := [.int v1, .int v2]) (rest := [.int (v3 + v4), .int (0 : Int32)]) X (kX2_unitCost (cL C) v1 v2 σ2) (fun s a hts => cwV 2 hts gX2_tollOf_X2_unitCost rfl rfl rfl (by decide +kernel) ⟨Nat.le_of_ble_eq_true rfl, Nat.le_of_ble_eq_true rfl⟩) obj_x (rfl : vwCl[2]? = some (RX2, TX2, 15)) rfl rfl rfl rfl (Nat.le_of_ble_eq_true rfl) dX2_tollOf_24 ⟨Nat.le_of_ble_eq_true rfl, Nat.le_of_ble_eq_true rfl⟩ hf (fun u3 σ4 hf => ?_)
    refine g_isub X dX2_tollOf_27 ?_
    refine g_maxI X (by decide +kernel) (by decide +kernel) (by decide +kernel) (by decide +kernel) ⟨Nat.le_of_ble_eq_true rfl, Nat.le_of_ble_eq_true rfl, Nat.le_of_ble_eq_true rfl, Nat.le_of_ble_eq_true rfl⟩ dX2_tollOf_28 ?_
    exact r_iret X hq dX2_tollOf_31 hf
  · refine g_iconst (v := (0 : Int32)) X dX2_tollOf_14 (by decide) ?_
    exact r_iret X hq dX2_tollOf_15 hf
def fX2_tollOf (v1 : Int32) (v2 : Int32) (v3 : Int32) (v4 : Int32) (σ : Mem) : Option (Int32 × Mem) := fX2_tollOf_e v1 v2 v3 v4 σ
theorem kX2_tollOf (l : Launch) (v1 : Int32) (v2 : Int32) (v3 : Int32) (v4 : Int32) (σ : Mem) : KI l yX2_tollOf wsX2_tollOf rmX2_tollOf (fun ad => [.ref (ad 0), .int v1, .int v2, .int v3, .int v4]) σ (fX2_tollOf v1 v2 v3 v4 σ) := fun r hr => kt_of (by decide +kernel) rfl (fun _ => Nat.le_of_ble_eq_true rfl) (fun C X hne hq => tX2_tollOf_e X hq v1 v2 v3 v4 σ hr)
/-! ### X2_toll -/
abbrev rmX2_toll : Room := { frames := 8, cells := 1, slots := 6, locals := 142 }
def fX2_toll_e (v1 : Int32) (v2 : Int32) (σ : Mem) : Option (Sum Int32 Nat × Mem) :=
  bndX (fX2_checkWay v1 v2 σ) fun u1 σ2 =>
  bnd (fX2_heapPrice v1 σ2) fun u3 σ4 =>
  bnd (fX2_holePrice v2 σ4) fun u5 σ6 =>
  bnd (fX2_tollOf v1 v2 u3 u5 σ6) fun u7 σ8 =>
  some (Sum.inl u7, σ8)
set_option maxHeartbeats 4000000 in
set_option maxRecDepth 100000 in
theorem tX2_toll_e {C : Ctx} (X : CX C cX2_toll 3 RX2 wsX2_toll rmX2_toll (some .int)) (hne : NH C) {r : Sum Int32 Nat × Mem} (hq : QXI C r) (v1 : Int32) (v2 : Int32) (σ : Mem) (hf : fX2_toll_e v1 v2 σ = some r) : G C 3 0 0 0 [(0, .ref (adr C 0)), (1, .int v1), (2, .int v2)] [] σ := by
  unfold fX2_toll_e at hf
  refine g_aload_n X dX2_toll_0 0 rfl rfl ?_
  refine g_iload_n X dX2_toll_1 1 rfl rfl ?_
  refine g_iload_n X dX2_toll_2 2 rfl rfl ?_
  refine c_VXV (q := 0) (vs := [.int v1, .int v2]) (rest := []) X hne (kX2_checkWay (cL C) v1 v2 σ) (fun s a hts => cwV 2 hts gX2_toll_X2_checkWay rfl rfl rfl (by decide +kernel) ⟨Nat.le_of_ble_eq_true rfl, Nat.le_of_ble_eq_true rfl⟩) obj_x (rfl : vwCl[2]? = some (RX2, TX2, 15)) rfl rfl rfl rfl (Nat.le_of_ble_eq_true rfl) dX2_toll_3 ⟨Nat.le_of_ble_eq_true rfl, Nat.le_of_ble_eq_true rfl⟩ ⟨rfl, rfl⟩ hq hf (fun u1 σ2 hf => ?_)
  refine g_aload_n X dX2_toll_6 0 rfl rfl ?_
  refine g_iload_n X dX2_toll_7 1 rfl rfl ?_
  refine g_iload_n X dX2_toll_8 2 rfl rfl ?_
  refine g_aload_n X dX2_toll_9 0 rfl rfl ?_
  refine g_iload_n X dX2_toll_10 1 rfl rfl ?_
  refine c_VI (q := 0) (vs := [.int v1]) (rest := [.int v2, .int v1, .ref (adr C 0)]) X (kX2_heapPrice (cL C) v1 σ2) (fun s a hts => cwV 1 hts gX2_toll_X2_heapPrice rfl rfl rfl (by decide +kernel) ⟨Nat.le_of_ble_eq_true rfl, Nat.le_of_ble_eq_true rfl⟩) obj_x (rfl : vwCl[2]? = some (RX2, TX2, 15)) rfl rfl rfl rfl (Nat.le_of_ble_eq_true rfl) dX2_toll_11 ⟨Nat.le_of_ble_eq_true rfl, Nat.le_of_ble_eq_true rfl⟩ hf (fun u3 σ4 hf => ?_)
  refine g_aload_n X dX2_toll_14 0 rfl rfl ?_
  refine g_iload_n X dX2_toll_15 2 rfl rfl ?_
  refine c_VI (q := 0) (vs := [.int v2]) (rest := [.int u3, .int v2, .int v1, .ref (adr C 0)]) X (kX2_holePrice (cL C) v2 σ4) (fun s a hts => cwV 1 hts gX2_toll_X2_holePrice rfl rfl rfl (by decide +kernel) ⟨Nat.le_of_ble_eq_true rfl, Nat.le_of_ble_eq_true rfl⟩) obj_x (rfl : vwCl[2]? = some (RX2, TX2, 15)) rfl rfl rfl rfl (Nat.le_of_ble_eq_true rfl) dX2_toll_16 ⟨Nat.le_of_ble_eq_true rfl, Nat.le_of_ble_eq_true rfl⟩ hf (fun u5 σ6 hf => ?_)
  refine c_VI (q := 0) (vs := [.int v1, .int v2, .int u3, .int u5]) (rest := []) X (kX2_tollOf (cL C) v1 v2 u3 u5 σ6) (fun s a hts => cwV 4 hts gX2_toll_X2_tollOf rfl rfl rfl (by decide +kernel) ⟨Nat.le_of_ble_eq_true rfl, Nat.le_of_ble_eq_true rfl⟩) obj_x (rfl : vwCl[2]? = some (RX2, TX2, 15)) rfl rfl rfl rfl (Nat.le_of_ble_eq_true rfl) dX2_toll_19 ⟨Nat.le_of_ble_eq_true rfl, Nat.le_of_ble_eq_true rfl⟩ hf (fun u7 σ8 hf => ?_)
  exact r_iretX X hq dX2_toll_22 hf
def fX2_toll (v1 : Int32) (v2 : Int32) (σ : Mem) : Option (Sum Int32 Nat × Mem) := fX2_toll_e v1 v2 σ
theorem kX2_toll (l : Launch) (v1 : Int32) (v2 : Int32) (σ : Mem) : KXI l yX2_toll wsX2_toll rmX2_toll (fun ad => [.ref (ad 0), .int v1, .int v2]) σ (fX2_toll v1 v2 σ) := fun r hr => kt_of (by decide +kernel) rfl (fun _ => Nat.le_of_ble_eq_true rfl) (fun C X hne hq => tX2_toll_e X hne hq v1 v2 σ hr)
/-! ### X2_proof -/
abbrev rmX2_proof : Room := { frames := 6, cells := 0, slots := 0, locals := 142 }
theorem infX2_proof_X1 : ∀ w ∈ u_ws RX1 TX1 3, w ∈ wsX2_proof := by decide +kernel
theorem infX2_proof_X2 : ∀ w ∈ u_ws RX2 TX2 15, w ∈ wsX2_proof := by decide +kernel
def fX2_proof_115b (r102 : Int32 → Int32 → Mem → Option (Int32 × Mem)) (r115 : Int32 → Int32 → Int32 → Mem → Option (Int32 × Mem)) (v1 : Int32) (v2 : Int32) (v3 : Int32) (σ : Mem) : Option (Int32 × Mem) :=
  if (rI σ 4 2) ≤ v3 then (r102 v1 (v2 + 1) σ)
  else (grd (inb v2 5) (grd (inb v3 5) (bnd (fX2_tollOf v2 v3 (rI σ 11 (ix v2)) (rI σ 12 (ix v3)) σ) fun u1 σ2 =>
  bnd (fX2_wayOf v2 v3 σ2) fun u3 σ4 =>
  grd (inb u3 25) (ltI (v1 - (u1 * (mxI (rI σ4 8 (ix u3)) (0 : Int32)))) fun x5 =>
  r115 x5 v2 (v3 + 1) σ4))))
def fX2_proof_115 (r102 : Int32 → Int32 → Mem → Option (Int32 × Mem)) : Nat → Int32 → Int32 → Int32 → Mem → Option (Int32 × Mem)
  | 0 => fun _ _ _ _ => none
  | n + 1 => fX2_proof_115b r102 (fX2_proof_115 r102 n)
set_option maxHeartbeats 4000000 in
set_option maxRecDepth 100000 in
theorem tX2_proof_115b {C : Ctx} (X : CX C cX2_proof 5 RX2 wsX2_proof rmX2_proof (some .int)) {r : Int32 × Mem} (hq : QI C r) (r102 : Int32 → Int32 → Mem → Option (Int32 × Mem)) (ih102 : ∀ (v1 : Int32) (v2 : Int32) (σ : Mem), r102 v1 v2 σ = some r → G C 5 0 0 102 [(0, .ref (adr C 0)), (1, .int v1), (2, .int v2)] [] σ) (r115 : Int32 → Int32 → Int32 → Mem → Option (Int32 × Mem)) (ih115 : ∀ (v1 : Int32) (v2 : Int32) (v3 : Int32) (σ : Mem), r115 v1 v2 v3 σ = some r → G C 5 0 0 115 [(0, .ref (adr C 0)), (1, .int v1), (2, .int v2), (3, .int v3)] [] σ) (v1 : Int32) (v2 : Int32) (v3 : Int32) (σ : Mem) (hf : fX2_proof_115b r102 r115 v1 v2 v3 σ = some r) : G C 5 0 0 115 [(0, .ref (adr C 0)), (1, .int v1), (2, .int v2), (3, .int v3)] [] σ := by
  unfold fX2_proof_115b at hf
  refine g_iload_n X dX2_proof_115 3 rfl rfl ?_
  refine g_aload_n X dX2_proof_116 0 rfl rfl ?_
  refine g_get (q := 0) (kf := 1) (v := .ref (adr C 4)) X obj_x rfl infX2_proof_X2 (by decide) (by decide +kernel) rfl dX2_proof_117 ?_
  refine g_get (q := 4) (kf := 2) (v := .int (rI σ 4 2)) X (obj_s (k := 4) rfl) rfl infX2_proof_X1 (by decide) (by decide +kernel) rfl dX2_proof_120 ?_
  refine g_icmp_ge (tgt := 172) X dX2_proof_123 (by decide) hf (fun hf => ?_) (fun hf => ?_)
  · refine g_iinc (v := (v2 + 1)) (L' := [(2, .int (v2 + 1)), (0, .ref (adr C 0)), (1, .int v1), (3, .int v3)]) X dX2_proof_172 2 rfl rfl (by decide) rfl ?_
    refine g_goto (tgt := 102) X dX2_proof_175 (by decide) ?_
    refine g_sub [1, 2, 0] (L' := [(0, .ref (adr C 0)), (1, .int v1), (2, .int (v2 + 1))]) rfl ?_
    exact ih102 v1 (v2 + 1) σ hf
  · refine g_aload_n X dX2_proof_126 0 rfl rfl ?_
    refine g_iload_n X dX2_proof_127 2 rfl rfl ?_
    refine g_iload_n X dX2_proof_128 3 rfl rfl ?_
    refine g_aload_n X dX2_proof_129 0 rfl rfl ?_
    refine g_get (q := 0) (kf := 6) (v := .ref (adr C 11)) X obj_x rfl infX2_proof_X2 (by decide) (by decide +kernel) rfl dX2_proof_130 ?_
    refine g_iload_n X dX2_proof_133 2 rfl rfl ?_
    refine g_iald (q := 11) (n := 5) X rfl rfl dX2_proof_134 hf (fun hf => ?_)
    refine g_aload_n X dX2_proof_135 0 rfl rfl ?_
    refine g_get (q := 0) (kf := 7) (v := .ref (adr C 12)) X obj_x rfl infX2_proof_X2 (by decide) (by decide +kernel) rfl dX2_proof_136 ?_
    refine g_iload_n X dX2_proof_139 3 rfl rfl ?_
    refine g_iald (q := 12) (n := 5) X rfl rfl dX2_proof_140 hf (fun hf => ?_)
    refine c_VI (q := 0) (vs := [.int v2, .int v3, .int (rI σ 11 (ix v2)), .int (rI σ 12 (ix v3))]) (rest := []) X (kX2_tollOf (cL C) v2 v3 (rI σ 11 (ix v2)) (rI σ 12 (ix v3)) σ) (fun s a hts => cwV 4 hts gX2_proof_X2_tollOf rfl rfl rfl (by decide +kernel) ⟨Nat.le_of_ble_eq_true rfl, Nat.le_of_ble_eq_true rfl⟩) obj_x (rfl : vwCl[2]? = some (RX2, TX2, 15)) rfl rfl rfl rfl (Nat.le_of_ble_eq_true rfl) dX2_proof_141 ⟨Nat.le_of_ble_eq_true rfl, Nat.le_of_ble_eq_true rfl⟩ hf (fun u1 σ2 hf => ?_)
    refine g_istore (L' := [(4, .int u1), (0, .ref (adr C 0)), (1, .int v1), (2, .int v2), (3, .int v3)]) X dX2_proof_144 (by decide) rfl ?_
    refine g_iload_n X dX2_proof_146 2 rfl rfl ?_
    refine g_iload X dX2_proof_147 0 rfl ?_
    refine g_aload_n X dX2_proof_149 1 rfl rfl ?_
    refine g_get (q := 0) (kf := 3) (v := .ref (adr C 8)) X obj_x rfl infX2_proof_X2 (by decide) (by decide +kernel) rfl dX2_proof_150 ?_
    refine g_iload_n X dX2_proof_153 3 rfl rfl ?_
    refine g_iload_n X dX2_proof_154 4 rfl rfl ?_
    refine c_SI (vs := [.int v2, .int v3]) (rest := [.ref (adr C 8), .int u1, .int v1]) X (kX2_wayOf (cL C) v2 v3 σ2) (fun s a hts => va_cwS 2 hts gX2_proof_X2_wayOf rfl rfl rfl (by decide +kernel) ⟨Nat.le_of_ble_eq_true rfl, Nat.le_of_ble_eq_true rfl⟩) rfl rfl rfl (Nat.le_of_ble_eq_true rfl) dX2_proof_155 ⟨Nat.le_of_ble_eq_true rfl, Nat.le_of_ble_eq_true rfl⟩ hf (fun u3 σ4 hf => ?_)
    refine g_iald (q := 8) (n := 25) X rfl rfl dX2_proof_158 hf (fun hf => ?_)
    refine g_iconst (v := (0 : Int32)) X dX2_proof_159 (by decide) ?_
    refine g_maxI X (by decide +kernel) (by decide +kernel) (by decide +kernel) (by decide +kernel) ⟨Nat.le_of_ble_eq_true rfl, Nat.le_of_ble_eq_true rfl, Nat.le_of_ble_eq_true rfl, Nat.le_of_ble_eq_true rfl⟩ dX2_proof_160 ?_
    refine g_imul X dX2_proof_163 ?_
    refine g_isub X dX2_proof_164 ?_
    refine s_istore_n (M := fun x5 => [(1, .int x5), (4, .int u1), (0, .ref (adr C 0)), (2, .int v2), (3, .int v3)]) X dX2_proof_165 rfl (by decide) (fun _ => rfl) hf (fun x5 hf => ?_)
    refine g_iinc (v := (v3 + 1)) (L' := [(3, .int (v3 + 1)), (1, .int x5), (4, .int u1), (0, .ref (adr C 0)), (2, .int v2)]) X dX2_proof_166 4 rfl rfl (by decide) rfl ?_
    refine g_goto (tgt := 115) X dX2_proof_169 (by decide) ?_
    refine g_sub [3, 1, 4, 0] (L' := [(0, .ref (adr C 0)), (1, .int x5), (2, .int v2), (3, .int (v3 + 1))]) rfl ?_
    exact ih115 x5 v2 (v3 + 1) σ4 hf
set_option maxHeartbeats 4000000 in
set_option maxRecDepth 100000 in
theorem tX2_proof_115 {C : Ctx} (X : CX C cX2_proof 5 RX2 wsX2_proof rmX2_proof (some .int)) {r : Int32 × Mem} (hq : QI C r) (r102 : Int32 → Int32 → Mem → Option (Int32 × Mem)) (ih102 : ∀ (v1 : Int32) (v2 : Int32) (σ : Mem), r102 v1 v2 σ = some r → G C 5 0 0 102 [(0, .ref (adr C 0)), (1, .int v1), (2, .int v2)] [] σ) : ∀ (n : Nat) (v1 : Int32) (v2 : Int32) (v3 : Int32) (σ : Mem) (hf : fX2_proof_115 r102 n v1 v2 v3 σ = some r), G C 5 0 0 115 [(0, .ref (adr C 0)), (1, .int v1), (2, .int v2), (3, .int v3)] [] σ := by
  intro n
  induction n with
  | zero => intros; rename_i hf; exact absurd (show (none : Option (Int32 × Mem)) = some r from hf) (by simp)
  | succ n ih =>
    intro v1 v2 v3 σ hf
    exact tX2_proof_115b X hq r102 ih102 (fX2_proof_115 r102 n) (fun v1 v2 v3 σ hf => ih v1 v2 v3 σ hf) v1 v2 v3 σ hf
def fX2_proof_102b (r102 : Int32 → Int32 → Mem → Option (Int32 × Mem)) (v1 : Int32) (v2 : Int32) (σ : Mem) : Option (Int32 × Mem) :=
  if (rI σ 1 2) ≤ v2 then (some (v1, σ))
  else (fX2_proof_115 r102 FU v1 v2 (0 : Int32) σ)
def fX2_proof_102 : Nat → Int32 → Int32 → Mem → Option (Int32 × Mem)
  | 0 => fun _ _ _ => none
  | n + 1 => fX2_proof_102b (fX2_proof_102 n)
set_option maxHeartbeats 4000000 in
set_option maxRecDepth 100000 in
theorem tX2_proof_102b {C : Ctx} (X : CX C cX2_proof 5 RX2 wsX2_proof rmX2_proof (some .int)) {r : Int32 × Mem} (hq : QI C r) (r102 : Int32 → Int32 → Mem → Option (Int32 × Mem)) (ih102 : ∀ (v1 : Int32) (v2 : Int32) (σ : Mem), r102 v1 v2 σ = some r → G C 5 0 0 102 [(0, .ref (adr C 0)), (1, .int v1), (2, .int v2)] [] σ) (v1 : Int32) (v2 : Int32) (σ : Mem) (hf : fX2_proof_102b r102 v1 v2 σ = some r) : G C 5 0 0 102 [(0, .ref (adr C 0)), (1, .int v1), (2, .int v2)] [] σ := by
  unfold fX2_proof_102b at hf
  refine g_iload_n X dX2_proof_102 2 rfl rfl ?_
  refine g_aload_n X dX2_proof_103 0 rfl rfl ?_
  refine g_get (q := 0) (kf := 0) (v := .ref (adr C 1)) X obj_x rfl infX2_proof_X2 (by decide) (by decide +kernel) rfl dX2_proof_104 ?_
  refine g_get (q := 1) (kf := 2) (v := .int (rI σ 1 2)) X (obj_s (k := 1) rfl) rfl infX2_proof_X1 (by decide) (by decide +kernel) rfl dX2_proof_107 ?_
  refine g_icmp_ge (tgt := 178) X dX2_proof_110 (by decide) hf (fun hf => ?_) (fun hf => ?_)
  · refine g_iload_n X dX2_proof_178 1 rfl rfl ?_
    exact r_iret X hq dX2_proof_179 hf
  · refine g_iconst (v := (0 : Int32)) X dX2_proof_113 (by decide) ?_
    refine g_istore_n (L' := [(3, .int (0 : Int32)), (0, .ref (adr C 0)), (1, .int v1), (2, .int v2)]) X dX2_proof_114 rfl (by decide) rfl ?_
    refine g_sub [1, 2, 3, 0] (L' := [(0, .ref (adr C 0)), (1, .int v1), (2, .int v2), (3, .int (0 : Int32))]) rfl ?_
    exact tX2_proof_115 X hq r102 ih102 FU v1 v2 (0 : Int32) σ hf
set_option maxHeartbeats 4000000 in
set_option maxRecDepth 100000 in
theorem tX2_proof_102 {C : Ctx} (X : CX C cX2_proof 5 RX2 wsX2_proof rmX2_proof (some .int)) {r : Int32 × Mem} (hq : QI C r) : ∀ (n : Nat) (v1 : Int32) (v2 : Int32) (σ : Mem) (hf : fX2_proof_102 n v1 v2 σ = some r), G C 5 0 0 102 [(0, .ref (adr C 0)), (1, .int v1), (2, .int v2)] [] σ := by
  intro n
  induction n with
  | zero => intros; rename_i hf; exact absurd (show (none : Option (Int32 × Mem)) = some r from hf) (by simp)
  | succ n ih =>
    intro v1 v2 σ hf
    exact tX2_proof_102b X hq (fX2_proof_102 n) (fun v1 v2 σ hf => ih v1 v2 σ hf) v1 v2 σ hf
def fX2_proof_53b (r53 : Int32 → Int32 → Mem → Option (Int32 × Mem)) (v1 : Int32) (v2 : Int32) (σ : Mem) : Option (Int32 × Mem) :=
  if (rI σ 4 2) ≤ v2 then (fX2_proof_102 FU v1 (0 : Int32) σ)
  else (bnd (fX2_holePrice v2 σ) fun u1 σ2 =>
  grd (inb v2 5) (ltM (wI σ2 12 (ix v2) u1) fun σ3 =>
  grd (inb v2 5) (grd (inb v2 5) (ltI (v1 + ((rI σ3 12 (ix v2)) * (rI σ3 6 (ix v2)))) fun x4 =>
  r53 x4 (v2 + 1) σ3))))
def fX2_proof_53 : Nat → Int32 → Int32 → Mem → Option (Int32 × Mem)
  | 0 => fun _ _ _ => none
  | n + 1 => fX2_proof_53b (fX2_proof_53 n)
set_option maxHeartbeats 4000000 in
set_option maxRecDepth 100000 in
theorem tX2_proof_53b {C : Ctx} (X : CX C cX2_proof 5 RX2 wsX2_proof rmX2_proof (some .int)) {r : Int32 × Mem} (hq : QI C r) (r53 : Int32 → Int32 → Mem → Option (Int32 × Mem)) (ih53 : ∀ (v1 : Int32) (v2 : Int32) (σ : Mem), r53 v1 v2 σ = some r → G C 5 0 0 53 [(0, .ref (adr C 0)), (1, .int v1), (2, .int v2)] [] σ) (v1 : Int32) (v2 : Int32) (σ : Mem) (hf : fX2_proof_53b r53 v1 v2 σ = some r) : G C 5 0 0 53 [(0, .ref (adr C 0)), (1, .int v1), (2, .int v2)] [] σ := by
  unfold fX2_proof_53b at hf
  refine g_iload_n X dX2_proof_53 2 rfl rfl ?_
  refine g_aload_n X dX2_proof_54 0 rfl rfl ?_
  refine g_get (q := 0) (kf := 1) (v := .ref (adr C 4)) X obj_x rfl infX2_proof_X2 (by decide) (by decide +kernel) rfl dX2_proof_55 ?_
  refine g_get (q := 4) (kf := 2) (v := .int (rI σ 4 2)) X (obj_s (k := 4) rfl) rfl infX2_proof_X1 (by decide) (by decide +kernel) rfl dX2_proof_58 ?_
  refine g_icmp_ge (tgt := 100) X dX2_proof_61 (by decide) hf (fun hf => ?_) (fun hf => ?_)
  · refine g_iconst (v := (0 : Int32)) X dX2_proof_100 (by decide) ?_
    refine g_istore_n (L' := [(2, .int (0 : Int32)), (0, .ref (adr C 0)), (1, .int v1)]) X dX2_proof_101 rfl (by decide) rfl ?_
    refine g_sub [1, 2, 0] (L' := [(0, .ref (adr C 0)), (1, .int v1), (2, .int (0 : Int32))]) rfl ?_
    exact tX2_proof_102 X hq FU v1 (0 : Int32) σ hf
  · refine g_aload_n X dX2_proof_64 0 rfl rfl ?_
    refine g_get (q := 0) (kf := 7) (v := .ref (adr C 12)) X obj_x rfl infX2_proof_X2 (by decide) (by decide +kernel) rfl dX2_proof_65 ?_
    refine g_iload_n X dX2_proof_68 2 rfl rfl ?_
    refine g_aload_n X dX2_proof_69 0 rfl rfl ?_
    refine g_iload_n X dX2_proof_70 2 rfl rfl ?_
    refine c_VI (q := 0) (vs := [.int v2]) (rest := [.int v2, .ref (adr C 12)]) X (kX2_holePrice (cL C) v2 σ) (fun s a hts => cwV 1 hts gX2_proof_X2_holePrice rfl rfl rfl (by decide +kernel) ⟨Nat.le_of_ble_eq_true rfl, Nat.le_of_ble_eq_true rfl⟩) obj_x (rfl : vwCl[2]? = some (RX2, TX2, 15)) rfl rfl rfl rfl (Nat.le_of_ble_eq_true rfl) dX2_proof_71 ⟨Nat.le_of_ble_eq_true rfl, Nat.le_of_ble_eq_true rfl⟩ hf (fun u1 σ2 hf => ?_)
    refine s_iast (q := 12) (n := 5) X rfl rfl dX2_proof_74 hf (fun σ3 hf => ?_)
    refine g_iload_n X dX2_proof_75 1 rfl rfl ?_
    refine g_aload_n X dX2_proof_76 0 rfl rfl ?_
    refine g_get (q := 0) (kf := 7) (v := .ref (adr C 12)) X obj_x rfl infX2_proof_X2 (by decide) (by decide +kernel) rfl dX2_proof_77 ?_
    refine g_iload_n X dX2_proof_80 2 rfl rfl ?_
    refine g_iald (q := 12) (n := 5) X rfl rfl dX2_proof_81 hf (fun hf => ?_)
    refine g_aload_n X dX2_proof_82 0 rfl rfl ?_
    refine g_get (q := 0) (kf := 1) (v := .ref (adr C 4)) X obj_x rfl infX2_proof_X2 (by decide) (by decide +kernel) rfl dX2_proof_83 ?_
    refine g_get (q := 4) (kf := 1) (v := .ref (adr C 6)) X (obj_s (k := 4) rfl) rfl infX2_proof_X1 (by decide) (by decide +kernel) rfl dX2_proof_86 ?_
    refine g_iload_n X dX2_proof_89 2 rfl rfl ?_
    refine g_iald (q := 6) (n := 5) X rfl rfl dX2_proof_90 hf (fun hf => ?_)
    refine g_imul X dX2_proof_91 ?_
    refine g_iadd X dX2_proof_92 ?_
    refine s_istore_n (M := fun x4 => [(1, .int x4), (0, .ref (adr C 0)), (2, .int v2)]) X dX2_proof_93 rfl (by decide) (fun _ => rfl) hf (fun x4 hf => ?_)
    refine g_iinc (v := (v2 + 1)) (L' := [(2, .int (v2 + 1)), (1, .int x4), (0, .ref (adr C 0))]) X dX2_proof_94 2 rfl rfl (by decide) rfl ?_
    refine g_goto (tgt := 53) X dX2_proof_97 (by decide) ?_
    refine g_sub [2, 1, 0] (L' := [(0, .ref (adr C 0)), (1, .int x4), (2, .int (v2 + 1))]) rfl ?_
    exact ih53 x4 (v2 + 1) σ3 hf
set_option maxHeartbeats 4000000 in
set_option maxRecDepth 100000 in
theorem tX2_proof_53 {C : Ctx} (X : CX C cX2_proof 5 RX2 wsX2_proof rmX2_proof (some .int)) {r : Int32 × Mem} (hq : QI C r) : ∀ (n : Nat) (v1 : Int32) (v2 : Int32) (σ : Mem) (hf : fX2_proof_53 n v1 v2 σ = some r), G C 5 0 0 53 [(0, .ref (adr C 0)), (1, .int v1), (2, .int v2)] [] σ := by
  intro n
  induction n with
  | zero => intros; rename_i hf; exact absurd (show (none : Option (Int32 × Mem)) = some r from hf) (by simp)
  | succ n ih =>
    intro v1 v2 σ hf
    exact tX2_proof_53b X hq (fX2_proof_53 n) (fun v1 v2 σ hf => ih v1 v2 σ hf) v1 v2 σ hf
def fX2_proof_4b (r4 : Int32 → Int32 → Mem → Option (Int32 × Mem)) (v1 : Int32) (v2 : Int32) (σ : Mem) : Option (Int32 × Mem) :=
  if (rI σ 1 2) ≤ v2 then (fX2_proof_53 FU v1 (0 : Int32) σ)
  else (bnd (fX2_heapPrice v2 σ) fun u1 σ2 =>
  grd (inb v2 5) (ltM (wI σ2 11 (ix v2) u1) fun σ3 =>
  grd (inb v2 5) (grd (inb v2 5) (ltI (v1 + ((rI σ3 11 (ix v2)) * (rI σ3 3 (ix v2)))) fun x4 =>
  r4 x4 (v2 + 1) σ3))))
def fX2_proof_4 : Nat → Int32 → Int32 → Mem → Option (Int32 × Mem)
  | 0 => fun _ _ _ => none
  | n + 1 => fX2_proof_4b (fX2_proof_4 n)
set_option maxHeartbeats 4000000 in
set_option maxRecDepth 100000 in
theorem tX2_proof_4b {C : Ctx} (X : CX C cX2_proof 5 RX2 wsX2_proof rmX2_proof (some .int)) {r : Int32 × Mem} (hq : QI C r) (r4 : Int32 → Int32 → Mem → Option (Int32 × Mem)) (ih4 : ∀ (v1 : Int32) (v2 : Int32) (σ : Mem), r4 v1 v2 σ = some r → G C 5 0 0 4 [(0, .ref (adr C 0)), (1, .int v1), (2, .int v2)] [] σ) (v1 : Int32) (v2 : Int32) (σ : Mem) (hf : fX2_proof_4b r4 v1 v2 σ = some r) : G C 5 0 0 4 [(0, .ref (adr C 0)), (1, .int v1), (2, .int v2)] [] σ := by
  unfold fX2_proof_4b at hf
  refine g_iload_n X dX2_proof_4 2 rfl rfl ?_
  refine g_aload_n X dX2_proof_5 0 rfl rfl ?_
  refine g_get (q := 0) (kf := 0) (v := .ref (adr C 1)) X obj_x rfl infX2_proof_X2 (by decide) (by decide +kernel) rfl dX2_proof_6 ?_
  refine g_get (q := 1) (kf := 2) (v := .int (rI σ 1 2)) X (obj_s (k := 1) rfl) rfl infX2_proof_X1 (by decide) (by decide +kernel) rfl dX2_proof_9 ?_
  refine g_icmp_ge (tgt := 51) X dX2_proof_12 (by decide) hf (fun hf => ?_) (fun hf => ?_)
  · refine g_iconst (v := (0 : Int32)) X dX2_proof_51 (by decide) ?_
    refine g_istore_n (L' := [(2, .int (0 : Int32)), (0, .ref (adr C 0)), (1, .int v1)]) X dX2_proof_52 rfl (by decide) rfl ?_
    refine g_sub [1, 2, 0] (L' := [(0, .ref (adr C 0)), (1, .int v1), (2, .int (0 : Int32))]) rfl ?_
    exact tX2_proof_53 X hq FU v1 (0 : Int32) σ hf
  · refine g_aload_n X dX2_proof_15 0 rfl rfl ?_
    refine g_get (q := 0) (kf := 6) (v := .ref (adr C 11)) X obj_x rfl infX2_proof_X2 (by decide) (by decide +kernel) rfl dX2_proof_16 ?_
    refine g_iload_n X dX2_proof_19 2 rfl rfl ?_
    refine g_aload_n X dX2_proof_20 0 rfl rfl ?_
    refine g_iload_n X dX2_proof_21 2 rfl rfl ?_
    refine c_VI (q := 0) (vs := [.int v2]) (rest := [.int v2, .ref (adr C 11)]) X (kX2_heapPrice (cL C) v2 σ) (fun s a hts => cwV 1 hts gX2_proof_X2_heapPrice rfl rfl rfl (by decide +kernel) ⟨Nat.le_of_ble_eq_true rfl, Nat.le_of_ble_eq_true rfl⟩) obj_x (rfl : vwCl[2]? = some (RX2, TX2, 15)) rfl rfl rfl rfl (Nat.le_of_ble_eq_true rfl) dX2_proof_22 ⟨Nat.le_of_ble_eq_true rfl, Nat.le_of_ble_eq_true rfl⟩ hf (fun u1 σ2 hf => ?_)
    refine s_iast (q := 11) (n := 5) X rfl rfl dX2_proof_25 hf (fun σ3 hf => ?_)
    refine g_iload_n X dX2_proof_26 1 rfl rfl ?_
    refine g_aload_n X dX2_proof_27 0 rfl rfl ?_
    refine g_get (q := 0) (kf := 6) (v := .ref (adr C 11)) X obj_x rfl infX2_proof_X2 (by decide) (by decide +kernel) rfl dX2_proof_28 ?_
    refine g_iload_n X dX2_proof_31 2 rfl rfl ?_
    refine g_iald (q := 11) (n := 5) X rfl rfl dX2_proof_32 hf (fun hf => ?_)
    refine g_aload_n X dX2_proof_33 0 rfl rfl ?_
    refine g_get (q := 0) (kf := 0) (v := .ref (adr C 1)) X obj_x rfl infX2_proof_X2 (by decide) (by decide +kernel) rfl dX2_proof_34 ?_
    refine g_get (q := 1) (kf := 1) (v := .ref (adr C 3)) X (obj_s (k := 1) rfl) rfl infX2_proof_X1 (by decide) (by decide +kernel) rfl dX2_proof_37 ?_
    refine g_iload_n X dX2_proof_40 2 rfl rfl ?_
    refine g_iald (q := 3) (n := 5) X rfl rfl dX2_proof_41 hf (fun hf => ?_)
    refine g_imul X dX2_proof_42 ?_
    refine g_iadd X dX2_proof_43 ?_
    refine s_istore_n (M := fun x4 => [(1, .int x4), (0, .ref (adr C 0)), (2, .int v2)]) X dX2_proof_44 rfl (by decide) (fun _ => rfl) hf (fun x4 hf => ?_)
    refine g_iinc (v := (v2 + 1)) (L' := [(2, .int (v2 + 1)), (1, .int x4), (0, .ref (adr C 0))]) X dX2_proof_45 2 rfl rfl (by decide) rfl ?_
    refine g_goto (tgt := 4) X dX2_proof_48 (by decide) ?_
    refine g_sub [2, 1, 0] (L' := [(0, .ref (adr C 0)), (1, .int x4), (2, .int (v2 + 1))]) rfl ?_
    exact ih4 x4 (v2 + 1) σ3 hf
set_option maxHeartbeats 4000000 in
set_option maxRecDepth 100000 in
theorem tX2_proof_4 {C : Ctx} (X : CX C cX2_proof 5 RX2 wsX2_proof rmX2_proof (some .int)) {r : Int32 × Mem} (hq : QI C r) : ∀ (n : Nat) (v1 : Int32) (v2 : Int32) (σ : Mem) (hf : fX2_proof_4 n v1 v2 σ = some r), G C 5 0 0 4 [(0, .ref (adr C 0)), (1, .int v1), (2, .int v2)] [] σ := by
  intro n
  induction n with
  | zero => intros; rename_i hf; exact absurd (show (none : Option (Int32 × Mem)) = some r from hf) (by simp)
  | succ n ih =>
    intro v1 v2 σ hf
    exact tX2_proof_4b X hq (fX2_proof_4 n) (fun v1 v2 σ hf => ih v1 v2 σ hf) v1 v2 σ hf
def fX2_proof_e (σ : Mem) : Option (Int32 × Mem) :=
  fX2_proof_4 FU (0 : Int32) (0 : Int32) σ
set_option maxHeartbeats 4000000 in
set_option maxRecDepth 100000 in
theorem tX2_proof_e {C : Ctx} (X : CX C cX2_proof 5 RX2 wsX2_proof rmX2_proof (some .int)) {r : Int32 × Mem} (hq : QI C r) (σ : Mem) (hf : fX2_proof_e σ = some r) : G C 5 0 0 0 [(0, .ref (adr C 0))] [] σ := by
  unfold fX2_proof_e at hf
  refine g_iconst (v := (0 : Int32)) X dX2_proof_0 (by decide) ?_
  refine g_istore_n (L' := [(1, .int (0 : Int32)), (0, .ref (adr C 0))]) X dX2_proof_1 rfl (by decide) rfl ?_
  refine g_iconst (v := (0 : Int32)) X dX2_proof_2 (by decide) ?_
  refine g_istore_n (L' := [(2, .int (0 : Int32)), (1, .int (0 : Int32)), (0, .ref (adr C 0))]) X dX2_proof_3 rfl (by decide) rfl ?_
  refine g_sub [2, 1, 0] (L' := [(0, .ref (adr C 0)), (1, .int (0 : Int32)), (2, .int (0 : Int32))]) rfl ?_
  exact tX2_proof_4 X hq FU (0 : Int32) (0 : Int32) σ hf
def fX2_proof (σ : Mem) : Option (Int32 × Mem) := fX2_proof_e σ
theorem kX2_proof (l : Launch) (σ : Mem) : KI l yX2_proof wsX2_proof rmX2_proof (fun ad => [.ref (ad 0)]) σ (fX2_proof σ) := fun r hr => kt_of (by decide +kernel) rfl (fun _ => Nat.le_of_ble_eq_true rfl) (fun C X hne hq => tX2_proof_e X hq σ hr)
/-! ### X2_sum -/
abbrev rmX2_sum : Room := { frames := 0, cells := 0, slots := 0, locals := 8 }
def fX2_sum_10b (r10 : Int32 → Nat → Int32 → Int32 → Mem → Option (Int32 × Mem)) (v1 : Int32) (v2 : Nat) (v3 : Int32) (v4 : Int32) (σ : Mem) : Option (Int32 × Mem) :=
  if v3 ≤ v4 then (some (v1, σ))
  else (grd (inb v4 (ln v2)) (ltI (rI σ v2 (ix v4)) fun x1 =>
  ltI (v1 + x1) fun x2 =>
  r10 x2 v2 v3 (v4 + 1) σ))
def fX2_sum_10 : Nat → Int32 → Nat → Int32 → Int32 → Mem → Option (Int32 × Mem)
  | 0 => fun _ _ _ _ _ => none
  | n + 1 => fX2_sum_10b (fX2_sum_10 n)
set_option maxHeartbeats 4000000 in
set_option maxRecDepth 100000 in
theorem tX2_sum_10b {C : Ctx} (X : CX C cX2_sum 6 RX2 wsX2_sum rmX2_sum (some .int)) {r : Int32 × Mem} (hq : QI C r) (r10 : Int32 → Nat → Int32 → Int32 → Mem → Option (Int32 × Mem)) (ih10 : ∀ (v1 : Int32) (v2 : Nat) (v3 : Int32) (v4 : Int32) (σ : Mem), ki v2 = 5 → r10 v1 v2 v3 v4 σ = some r → G C 6 0 0 10 [(1, .int v1), (2, .ref (adr C v2)), (3, .int v3), (4, .int v4)] [] σ) (v1 : Int32) (v2 : Nat) (v3 : Int32) (v4 : Int32) (hv2 : ki v2 = 5) (σ : Mem) (hf : fX2_sum_10b r10 v1 v2 v3 v4 σ = some r) : G C 6 0 0 10 [(1, .int v1), (2, .ref (adr C v2)), (3, .int v3), (4, .int v4)] [] σ := by
  unfold fX2_sum_10b at hf
  refine g_iload X dX2_sum_10 3 rfl ?_
  refine g_iload_n X dX2_sum_12 2 rfl rfl ?_
  refine g_icmp_ge (tgt := 33) X dX2_sum_13 (by decide) hf (fun hf => ?_) (fun hf => ?_)
  · refine g_iload_n X dX2_sum_33 0 rfl rfl ?_
    exact r_iret X hq dX2_sum_34 hf
  · refine g_aload_n X dX2_sum_16 1 rfl rfl ?_
    refine g_iload X dX2_sum_17 3 rfl ?_
    refine g_iald (q := v2) (n := (ln v2)) X hv2 rfl dX2_sum_19 hf (fun hf => ?_)
    refine s_istore (M := fun x1 => [(5, .int x1), (1, .int v1), (2, .ref (adr C v2)), (3, .int v3), (4, .int v4)]) X dX2_sum_20 (by decide) (fun _ => rfl) hf (fun x1 hf => ?_)
    refine g_iload_n X dX2_sum_22 1 rfl rfl ?_
    refine g_iload X dX2_sum_23 0 rfl ?_
    refine g_iadd X dX2_sum_25 ?_
    refine s_istore_n (M := fun x2 => [(1, .int x2), (5, .int x1), (2, .ref (adr C v2)), (3, .int v3), (4, .int v4)]) X dX2_sum_26 rfl (by decide) (fun _ => rfl) hf (fun x2 hf => ?_)
    refine g_iinc (v := (v4 + 1)) (L' := [(4, .int (v4 + 1)), (1, .int x2), (5, .int x1), (2, .ref (adr C v2)), (3, .int v3)]) X dX2_sum_27 4 rfl rfl (by decide) rfl ?_
    refine g_goto (tgt := 10) X dX2_sum_30 (by decide) ?_
    refine g_sub [1, 3, 4, 0] (L' := [(1, .int x2), (2, .ref (adr C v2)), (3, .int v3), (4, .int (v4 + 1))]) rfl ?_
    exact ih10 x2 v2 v3 (v4 + 1) σ hv2 hf
set_option maxHeartbeats 4000000 in
set_option maxRecDepth 100000 in
theorem tX2_sum_10 {C : Ctx} (X : CX C cX2_sum 6 RX2 wsX2_sum rmX2_sum (some .int)) {r : Int32 × Mem} (hq : QI C r) : ∀ (n : Nat) (v1 : Int32) (v2 : Nat) (v3 : Int32) (v4 : Int32) (hv2 : ki v2 = 5) (σ : Mem) (hf : fX2_sum_10 n v1 v2 v3 v4 σ = some r), G C 6 0 0 10 [(1, .int v1), (2, .ref (adr C v2)), (3, .int v3), (4, .int v4)] [] σ := by
  intro n
  induction n with
  | zero => intros; rename_i hf; exact absurd (show (none : Option (Int32 × Mem)) = some r from hf) (by simp)
  | succ n ih =>
    intro v1 v2 v3 v4 hv2 σ hf
    exact tX2_sum_10b X hq (fX2_sum_10 n) (fun v1 v2 v3 v4 σ hv2 hf => ih v1 v2 v3 v4 hv2 σ hf) v1 v2 v3 v4 hv2 σ hf
def fX2_sum_e (v0 : Nat) (σ : Mem) : Option (Int32 × Mem) :=
  ltI (Int32.ofNat (ln v0)) fun x1 =>
  fX2_sum_10 FU (0 : Int32) v0 x1 (0 : Int32) σ
set_option maxHeartbeats 4000000 in
set_option maxRecDepth 100000 in
theorem tX2_sum_e {C : Ctx} (X : CX C cX2_sum 6 RX2 wsX2_sum rmX2_sum (some .int)) {r : Int32 × Mem} (hq : QI C r) (v0 : Nat) (hv0 : ki v0 = 5) (σ : Mem) (hf : fX2_sum_e v0 σ = some r) : G C 6 0 0 0 [(0, .ref (adr C v0))] [] σ := by
  unfold fX2_sum_e at hf
  refine g_iconst (v := (0 : Int32)) X dX2_sum_0 (by decide) ?_
  refine g_istore_n (L' := [(1, .int (0 : Int32)), (0, .ref (adr C v0))]) X dX2_sum_1 rfl (by decide) rfl ?_
  refine g_aload_n X dX2_sum_2 1 rfl rfl ?_
  refine g_astore_n (L' := [(2, .ref (adr C v0)), (1, .int (0 : Int32)), (0, .ref (adr C v0))]) X dX2_sum_3 rfl (by decide) rfl ?_
  refine g_aload_n X dX2_sum_4 0 rfl rfl ?_
  refine g_alenI (q := v0) (n := (ln v0)) X hv0 rfl dX2_sum_5 ?_
  refine s_istore_n (M := fun x1 => [(3, .int x1), (2, .ref (adr C v0)), (1, .int (0 : Int32)), (0, .ref (adr C v0))]) X dX2_sum_6 rfl (by decide) (fun _ => rfl) hf (fun x1 hf => ?_)
  refine g_iconst (v := (0 : Int32)) X dX2_sum_7 (by decide) ?_
  refine g_istore (L' := [(4, .int (0 : Int32)), (3, .int x1), (2, .ref (adr C v0)), (1, .int (0 : Int32)), (0, .ref (adr C v0))]) X dX2_sum_8 (by decide) rfl ?_
  refine g_sub [3, 2, 1, 0] (L' := [(1, .int (0 : Int32)), (2, .ref (adr C v0)), (3, .int x1), (4, .int (0 : Int32))]) rfl ?_
  exact tX2_sum_10 X hq FU (0 : Int32) v0 x1 (0 : Int32) hv0 σ hf
def fX2_sum (v0 : Nat) (σ : Mem) : Option (Int32 × Mem) := fX2_sum_e v0 σ
theorem kX2_sum (l : Launch) (v0 : Nat) (hv0 : ki v0 = 5) (σ : Mem) : KI l yX2_sum wsX2_sum rmX2_sum (fun ad => [.ref (ad v0)]) σ (fX2_sum v0 σ) := fun r hr => kt_of (by decide +kernel) rfl (fun _ => Nat.le_of_ble_eq_true rfl) (fun C X hne hq => tX2_sum_e X hq v0 hv0 σ hr)
/-! ### X2_canGoByOrder -/
abbrev rmX2_canGoByOrder : Room := { frames := 1, cells := 0, slots := 0, locals := 33 }
theorem infX2_canGoByOrder_X1 : ∀ w ∈ u_ws RX1 TX1 3, w ∈ wsX2_canGoByOrder := by decide +kernel
theorem infX2_canGoByOrder_X2 : ∀ w ∈ u_ws RX2 TX2 15, w ∈ wsX2_canGoByOrder := by decide +kernel
def fX2_canGoByOrder_61 (σ : Mem) : Option (Int32 × Mem) :=
  grd (decide ((0 : Int32) = 0 ∨ (0 : Int32) = 1)) (some ((0 : Int32), σ))
set_option maxHeartbeats 4000000 in
set_option maxRecDepth 100000 in
theorem tX2_canGoByOrder_61 {C : Ctx} (X : CX C cX2_canGoByOrder 2 RX2 wsX2_canGoByOrder rmX2_canGoByOrder (some .boolean)) {r : Int32 × Mem} (hq : QI C r) (σ : Mem) (hf : fX2_canGoByOrder_61 σ = some r) : G C 2 0 0 61 [] [] σ := by
  unfold fX2_canGoByOrder_61 at hf
  refine g_iconst (v := (0 : Int32)) X dX2_canGoByOrder_61 (by decide) ?_
  exact r_zret X hq dX2_canGoByOrder_62 hf
def fX2_canGoByOrder_35b (r35 : Int32 → Mem → Option (Int32 × Mem)) (v1 : Int32) (σ : Mem) : Option (Int32 × Mem) :=
  if (25 : Int32) ≤ v1 then (grd (decide ((1 : Int32) = 0 ∨ (1 : Int32) = 1)) (some ((1 : Int32), σ)))
  else (grd (inb v1 25) (if (rI σ 7 (ix v1)) = (-1 : Int32) then (grd (inb v1 25) (if (rI σ 8 (ix v1)) = (-1 : Int32) then (r35 (v1 + 1) σ)
  else (fX2_canGoByOrder_61 σ)))
  else (fX2_canGoByOrder_61 σ)))
def fX2_canGoByOrder_35 : Nat → Int32 → Mem → Option (Int32 × Mem)
  | 0 => fun _ _ => none
  | n + 1 => fX2_canGoByOrder_35b (fX2_canGoByOrder_35 n)
set_option maxHeartbeats 4000000 in
set_option maxRecDepth 100000 in
theorem tX2_canGoByOrder_35b {C : Ctx} (X : CX C cX2_canGoByOrder 2 RX2 wsX2_canGoByOrder rmX2_canGoByOrder (some .boolean)) {r : Int32 × Mem} (hq : QI C r) (r35 : Int32 → Mem → Option (Int32 × Mem)) (ih35 : ∀ (v1 : Int32) (σ : Mem), r35 v1 σ = some r → G C 2 0 0 35 [(0, .ref (adr C 0)), (1, .int v1)] [] σ) (v1 : Int32) (σ : Mem) (hf : fX2_canGoByOrder_35b r35 v1 σ = some r) : G C 2 0 0 35 [(0, .ref (adr C 0)), (1, .int v1)] [] σ := by
  unfold fX2_canGoByOrder_35b at hf
  refine g_iload_n X dX2_canGoByOrder_35 1 rfl rfl ?_
  refine g_bipush (v := (25 : Int32)) X dX2_canGoByOrder_36 (by decide) ?_
  refine g_icmp_ge (tgt := 69) X dX2_canGoByOrder_38 (by decide) hf (fun hf => ?_) (fun hf => ?_)
  · refine g_iconst (v := (1 : Int32)) X dX2_canGoByOrder_69 (by decide) ?_
    exact r_zret X hq dX2_canGoByOrder_70 hf
  · refine g_aload_n X dX2_canGoByOrder_41 0 rfl rfl ?_
    refine g_get (q := 0) (kf := 2) (v := .ref (adr C 7)) X obj_x rfl infX2_canGoByOrder_X2 (by decide) (by decide +kernel) rfl dX2_canGoByOrder_42 ?_
    refine g_iload_n X dX2_canGoByOrder_45 1 rfl rfl ?_
    refine g_iald (q := 7) (n := 25) X rfl rfl dX2_canGoByOrder_46 hf (fun hf => ?_)
    refine g_iconst (v := (-1 : Int32)) X dX2_canGoByOrder_47 (by decide) ?_
    refine g_icmp_ne (tgt := 61) X dX2_canGoByOrder_48 (by decide) hf (fun hf => ?_) (fun hf => ?_)
    · refine g_sub [] (L' := []) rfl ?_
      exact tX2_canGoByOrder_61 X hq σ hf
    · refine g_aload_n X dX2_canGoByOrder_51 0 rfl rfl ?_
      refine g_get (q := 0) (kf := 3) (v := .ref (adr C 8)) X obj_x rfl infX2_canGoByOrder_X2 (by decide) (by decide +kernel) rfl dX2_canGoByOrder_52 ?_
      refine g_iload_n X dX2_canGoByOrder_55 1 rfl rfl ?_
      refine g_iald (q := 8) (n := 25) X rfl rfl dX2_canGoByOrder_56 hf (fun hf => ?_)
      refine g_iconst (v := (-1 : Int32)) X dX2_canGoByOrder_57 (by decide) ?_
      refine g_icmp_eq (tgt := 63) X dX2_canGoByOrder_58 (by decide) hf (fun hf => ?_) (fun hf => ?_)
      · refine g_iinc (v := (v1 + 1)) (L' := [(1, .int (v1 + 1)), (0, .ref (adr C 0))]) X dX2_canGoByOrder_63 1 rfl rfl (by decide) rfl ?_
        refine g_goto (tgt := 35) X dX2_canGoByOrder_66 (by decide) ?_
        refine g_sub [1, 0] (L' := [(0, .ref (adr C 0)), (1, .int (v1 + 1))]) rfl ?_
        exact ih35 (v1 + 1) σ hf
      · refine g_sub [] (L' := []) rfl ?_
        exact tX2_canGoByOrder_61 X hq σ hf
set_option maxHeartbeats 4000000 in
set_option maxRecDepth 100000 in
theorem tX2_canGoByOrder_35 {C : Ctx} (X : CX C cX2_canGoByOrder 2 RX2 wsX2_canGoByOrder rmX2_canGoByOrder (some .boolean)) {r : Int32 × Mem} (hq : QI C r) : ∀ (n : Nat) (v1 : Int32) (σ : Mem) (hf : fX2_canGoByOrder_35 n v1 σ = some r), G C 2 0 0 35 [(0, .ref (adr C 0)), (1, .int v1)] [] σ := by
  intro n
  induction n with
  | zero => intros; rename_i hf; exact absurd (show (none : Option (Int32 × Mem)) = some r from hf) (by simp)
  | succ n ih =>
    intro v1 σ hf
    exact tX2_canGoByOrder_35b X hq (fX2_canGoByOrder_35 n) (fun v1 σ hf => ih v1 σ hf) v1 σ hf
def fX2_canGoByOrder_31 (σ : Mem) : Option (Int32 × Mem) :=
  grd (decide ((0 : Int32) = 0 ∨ (0 : Int32) = 1)) (some ((0 : Int32), σ))
set_option maxHeartbeats 4000000 in
set_option maxRecDepth 100000 in
theorem tX2_canGoByOrder_31 {C : Ctx} (X : CX C cX2_canGoByOrder 2 RX2 wsX2_canGoByOrder rmX2_canGoByOrder (some .boolean)) {r : Int32 × Mem} (hq : QI C r) (σ : Mem) (hf : fX2_canGoByOrder_31 σ = some r) : G C 2 0 0 31 [] [] σ := by
  unfold fX2_canGoByOrder_31 at hf
  refine g_iconst (v := (0 : Int32)) X dX2_canGoByOrder_31 (by decide) ?_
  exact r_zret X hq dX2_canGoByOrder_32 hf
def fX2_canGoByOrder_e (σ : Mem) : Option (Int32 × Mem) :=
  if (rI σ 0 10) = (1 : Int32) then (fX2_canGoByOrder_31 σ)
  else (bnd (fX2_sum 3 σ) fun u1 σ2 =>
  bnd (fX2_sum 6 σ2) fun u3 σ4 =>
  if u1 = u3 then (fX2_canGoByOrder_35 FU (0 : Int32) σ4)
  else (fX2_canGoByOrder_31 σ4))
set_option maxHeartbeats 4000000 in
set_option maxRecDepth 100000 in
theorem tX2_canGoByOrder_e {C : Ctx} (X : CX C cX2_canGoByOrder 2 RX2 wsX2_canGoByOrder rmX2_canGoByOrder (some .boolean)) {r : Int32 × Mem} (hq : QI C r) (σ : Mem) (hf : fX2_canGoByOrder_e σ = some r) : G C 2 0 0 0 [(0, .ref (adr C 0))] [] σ := by
  unfold fX2_canGoByOrder_e at hf
  refine g_aload_n X dX2_canGoByOrder_0 0 rfl rfl ?_
  refine g_get (q := 0) (kf := 10) (v := .int (rI σ 0 10)) X obj_x rfl infX2_canGoByOrder_X2 (by decide) (by decide +kernel) rfl dX2_canGoByOrder_1 ?_
  refine g_iconst (v := (1 : Int32)) X dX2_canGoByOrder_4 (by decide) ?_
  refine g_icmp_eq (tgt := 31) X dX2_canGoByOrder_5 (by decide) hf (fun hf => ?_) (fun hf => ?_)
  · refine g_sub [] (L' := []) rfl ?_
    exact tX2_canGoByOrder_31 X hq σ hf
  · refine g_aload_n X dX2_canGoByOrder_8 0 rfl rfl ?_
    refine g_get (q := 0) (kf := 0) (v := .ref (adr C 1)) X obj_x rfl infX2_canGoByOrder_X2 (by decide) (by decide +kernel) rfl dX2_canGoByOrder_9 ?_
    refine g_get (q := 1) (kf := 1) (v := .ref (adr C 3)) X (obj_s (k := 1) rfl) rfl infX2_canGoByOrder_X1 (by decide) (by decide +kernel) rfl dX2_canGoByOrder_12 ?_
    refine c_SI (vs := [.ref (adr C 3)]) (rest := []) X (kX2_sum (cL C) 3 rfl σ) (fun s a hts => va_cwS 1 hts gX2_canGoByOrder_X2_sum rfl rfl rfl (by decide +kernel) ⟨Nat.le_of_ble_eq_true rfl, Nat.le_of_ble_eq_true rfl⟩) rfl rfl rfl (Nat.le_of_ble_eq_true rfl) dX2_canGoByOrder_15 ⟨Nat.le_of_ble_eq_true rfl, Nat.le_of_ble_eq_true rfl⟩ hf (fun u1 σ2 hf => ?_)
    refine g_aload_n X dX2_canGoByOrder_18 0 rfl rfl ?_
    refine g_get (q := 0) (kf := 1) (v := .ref (adr C 4)) X obj_x rfl infX2_canGoByOrder_X2 (by decide) (by decide +kernel) rfl dX2_canGoByOrder_19 ?_
    refine g_get (q := 4) (kf := 1) (v := .ref (adr C 6)) X (obj_s (k := 4) rfl) rfl infX2_canGoByOrder_X1 (by decide) (by decide +kernel) rfl dX2_canGoByOrder_22 ?_
    refine c_SI (vs := [.ref (adr C 6)]) (rest := [.int u1]) X (kX2_sum (cL C) 6 rfl σ2) (fun s a hts => va_cwS 1 hts gX2_canGoByOrder_X2_sum rfl rfl rfl (by decide +kernel) ⟨Nat.le_of_ble_eq_true rfl, Nat.le_of_ble_eq_true rfl⟩) rfl rfl rfl (Nat.le_of_ble_eq_true rfl) dX2_canGoByOrder_25 ⟨Nat.le_of_ble_eq_true rfl, Nat.le_of_ble_eq_true rfl⟩ hf (fun u3 σ4 hf => ?_)
    refine g_icmp_eq (tgt := 33) X dX2_canGoByOrder_28 (by decide) hf (fun hf => ?_) (fun hf => ?_)
    · refine g_iconst (v := (0 : Int32)) X dX2_canGoByOrder_33 (by decide) ?_
      refine g_istore_n (L' := [(1, .int (0 : Int32)), (0, .ref (adr C 0))]) X dX2_canGoByOrder_34 rfl (by decide) rfl ?_
      refine g_sub [1, 0] (L' := [(0, .ref (adr C 0)), (1, .int (0 : Int32))]) rfl ?_
      exact tX2_canGoByOrder_35 X hq FU (0 : Int32) σ4 hf
    · refine g_sub [] (L' := []) rfl ?_
      exact tX2_canGoByOrder_31 X hq σ4 hf
def fX2_canGoByOrder (σ : Mem) : Option (Int32 × Mem) := fX2_canGoByOrder_e σ
theorem kX2_canGoByOrder (l : Launch) (σ : Mem) : KI l yX2_canGoByOrder wsX2_canGoByOrder rmX2_canGoByOrder (fun ad => [.ref (ad 0)]) σ (fX2_canGoByOrder σ) := fun r hr => kt_of (by decide +kernel) rfl (fun _ => Nat.le_of_ble_eq_true rfl) (fun C X hne hq => tX2_canGoByOrder_e X hq σ hr)
/-! ### X2_addSurplus -/
abbrev rmX2_addSurplus : Room := { frames := 0, cells := 0, slots := 0, locals := 8 }
theorem infX2_addSurplus_X2 : ∀ w ∈ u_ws RX2 TX2 15, w ∈ wsX2_addSurplus := by decide +kernel
def fX2_addSurplus_62 (σ : Mem) : Option (Int32 × Mem) :=
  some ((0 : Int32), σ)
set_option maxHeartbeats 4000000 in
set_option maxRecDepth 100000 in
theorem tX2_addSurplus_62 {C : Ctx} (X : CX C cX2_addSurplus 6 RX2 wsX2_addSurplus rmX2_addSurplus none) {r : Int32 × Mem} (hq : QV C r) (σ : Mem) (hf : fX2_addSurplus_62 σ = some r) : G C 6 0 0 62 [] [] σ := by
  unfold fX2_addSurplus_62 at hf
  exact r_vret X hq dX2_addSurplus_62 hf
def fX2_addSurplus_31b (r31 : Int32 → Int32 → Int32 → Mem → Option (Int32 × Mem)) (v2 : Int32) (v3 : Int32) (v5 : Int32) (σ : Mem) : Option (Int32 × Mem) :=
  if v3 ≤ v5 then (fX2_addSurplus_62 σ)
  else (if (200 : Int32) ≤ v5 then (fX2_addSurplus_62 σ)
  else (grd (inb v5 200) (grd (inb v5 200) (ltM (wI σ 10 (ix v5) ((rI σ 10 (ix v5)) + v2)) fun σ1 =>
  r31 v2 v3 (v5 + 1) σ1))))
def fX2_addSurplus_31 : Nat → Int32 → Int32 → Int32 → Mem → Option (Int32 × Mem)
  | 0 => fun _ _ _ _ => none
  | n + 1 => fX2_addSurplus_31b (fX2_addSurplus_31 n)
set_option maxHeartbeats 4000000 in
set_option maxRecDepth 100000 in
theorem tX2_addSurplus_31b {C : Ctx} (X : CX C cX2_addSurplus 6 RX2 wsX2_addSurplus rmX2_addSurplus none) {r : Int32 × Mem} (hq : QV C r) (r31 : Int32 → Int32 → Int32 → Mem → Option (Int32 × Mem)) (ih31 : ∀ (v2 : Int32) (v3 : Int32) (v5 : Int32) (σ : Mem), r31 v2 v3 v5 σ = some r → G C 6 0 0 31 [(0, .ref (adr C 0)), (2, .int v2), (3, .int v3), (5, .int v5)] [] σ) (v2 : Int32) (v3 : Int32) (v5 : Int32) (σ : Mem) (hf : fX2_addSurplus_31b r31 v2 v3 v5 σ = some r) : G C 6 0 0 31 [(0, .ref (adr C 0)), (2, .int v2), (3, .int v3), (5, .int v5)] [] σ := by
  unfold fX2_addSurplus_31b at hf
  refine g_iload X dX2_addSurplus_31 3 rfl ?_
  refine g_iload_n X dX2_addSurplus_33 2 rfl rfl ?_
  refine g_icmp_ge (tgt := 62) X dX2_addSurplus_34 (by decide) hf (fun hf => ?_) (fun hf => ?_)
  · refine g_sub [] (L' := []) rfl ?_
    exact tX2_addSurplus_62 X hq σ hf
  · refine g_iload X dX2_addSurplus_37 3 rfl ?_
    refine g_sipush (v := (200 : Int32)) X dX2_addSurplus_39 (by decide) ?_
    refine g_icmp_ge (tgt := 62) X dX2_addSurplus_42 (by decide) hf (fun hf => ?_) (fun hf => ?_)
    · refine g_sub [] (L' := []) rfl ?_
      exact tX2_addSurplus_62 X hq σ hf
    · refine g_aload_n X dX2_addSurplus_45 0 rfl rfl ?_
      refine g_get (q := 0) (kf := 5) (v := .ref (adr C 10)) X obj_x rfl infX2_addSurplus_X2 (by decide) (by decide +kernel) rfl dX2_addSurplus_46 ?_
      refine g_iload X dX2_addSurplus_49 3 rfl ?_
      refine g_dup2 X dX2_addSurplus_51 rfl rfl ?_
      refine g_iald (q := 10) (n := 200) X rfl rfl dX2_addSurplus_52 hf (fun hf => ?_)
      refine g_iload_n X dX2_addSurplus_53 1 rfl rfl ?_
      refine g_iadd X dX2_addSurplus_54 ?_
      refine s_iast (q := 10) (n := 200) X rfl rfl dX2_addSurplus_55 hf (fun σ1 hf => ?_)
      refine g_iinc (v := (v5 + 1)) (L' := [(5, .int (v5 + 1)), (0, .ref (adr C 0)), (2, .int v2), (3, .int v3)]) X dX2_addSurplus_56 3 rfl rfl (by decide) rfl ?_
      refine g_goto (tgt := 31) X dX2_addSurplus_59 (by decide) ?_
      refine g_sub [1, 2, 3, 0] (L' := [(0, .ref (adr C 0)), (2, .int v2), (3, .int v3), (5, .int (v5 + 1))]) rfl ?_
      exact ih31 v2 v3 (v5 + 1) σ1 hf
set_option maxHeartbeats 4000000 in
set_option maxRecDepth 100000 in
theorem tX2_addSurplus_31 {C : Ctx} (X : CX C cX2_addSurplus 6 RX2 wsX2_addSurplus rmX2_addSurplus none) {r : Int32 × Mem} (hq : QV C r) : ∀ (n : Nat) (v2 : Int32) (v3 : Int32) (v5 : Int32) (σ : Mem) (hf : fX2_addSurplus_31 n v2 v3 v5 σ = some r), G C 6 0 0 31 [(0, .ref (adr C 0)), (2, .int v2), (3, .int v3), (5, .int v5)] [] σ := by
  intro n
  induction n with
  | zero => intros; rename_i hf; exact absurd (show (none : Option (Int32 × Mem)) = some r from hf) (by simp)
  | succ n ih =>
    intro v2 v3 v5 σ hf
    exact tX2_addSurplus_31b X hq (fX2_addSurplus_31 n) (fun v2 v3 v5 σ hf => ih v2 v3 v5 σ hf) v2 v3 v5 σ hf
def fX2_addSurplus_25 (v2 : Int32) (v3 : Int32) (s0 : Int32) (σ : Mem) : Option (Int32 × Mem) :=
  fX2_addSurplus_31 FU v2 v3 s0 σ
set_option maxHeartbeats 4000000 in
set_option maxRecDepth 100000 in
theorem tX2_addSurplus_25 {C : Ctx} (X : CX C cX2_addSurplus 6 RX2 wsX2_addSurplus rmX2_addSurplus none) {r : Int32 × Mem} (hq : QV C r) (v2 : Int32) (v3 : Int32) (s0 : Int32) (σ : Mem) (hf : fX2_addSurplus_25 v2 v3 s0 σ = some r) : G C 6 0 0 25 [(0, .ref (adr C 0)), (2, .int v2), (3, .int v3)] [.int s0] σ := by
  unfold fX2_addSurplus_25 at hf
  refine g_istore (L' := [(4, .int s0), (0, .ref (adr C 0)), (2, .int v2), (3, .int v3)]) X dX2_addSurplus_25 (by decide) rfl ?_
  refine g_iload X dX2_addSurplus_27 0 rfl ?_
  refine g_istore (L' := [(5, .int s0), (4, .int s0), (0, .ref (adr C 0)), (2, .int v2), (3, .int v3)]) X dX2_addSurplus_29 (by decide) rfl ?_
  refine g_sub [2, 3, 4, 0] (L' := [(0, .ref (adr C 0)), (2, .int v2), (3, .int v3), (5, .int s0)]) rfl ?_
  exact tX2_addSurplus_31 X hq FU v2 v3 s0 σ hf
def fX2_addSurplus_24 (v1 : Int32) (v2 : Int32) (v3 : Int32) (σ : Mem) : Option (Int32 × Mem) :=
  fX2_addSurplus_25 v2 v3 v1 σ
set_option maxHeartbeats 4000000 in
set_option maxRecDepth 100000 in
theorem tX2_addSurplus_24 {C : Ctx} (X : CX C cX2_addSurplus 6 RX2 wsX2_addSurplus rmX2_addSurplus none) {r : Int32 × Mem} (hq : QV C r) (v1 : Int32) (v2 : Int32) (v3 : Int32) (σ : Mem) (hf : fX2_addSurplus_24 v1 v2 v3 σ = some r) : G C 6 0 0 24 [(0, .ref (adr C 0)), (1, .int v1), (2, .int v2), (3, .int v3)] [] σ := by
  unfold fX2_addSurplus_24 at hf
  refine g_iload_n X dX2_addSurplus_24 1 rfl rfl ?_
  refine g_sub [0, 2, 3] (L' := [(0, .ref (adr C 0)), (2, .int v2), (3, .int v3)]) rfl ?_
  exact tX2_addSurplus_25 X hq v2 v3 v1 σ hf
def fX2_addSurplus_e (v1 : Int32) (v2 : Int32) (v3 : Int32) (σ : Mem) : Option (Int32 × Mem) :=
  if (rI σ 0 10) = (2 : Int32) then (if (rI σ 0 11) ≤ 0 then (fX2_addSurplus_24 v1 v2 v3 σ)
  else (grd (decide ((rI σ 0 11) ≠ 0)) (fX2_addSurplus_25 v2 v3 (v1 - v1 / (rI σ 0 11) * (rI σ 0 11)) σ)))
  else (fX2_addSurplus_24 v1 v2 v3 σ)
set_option maxHeartbeats 4000000 in
set_option maxRecDepth 100000 in
theorem tX2_addSurplus_e {C : Ctx} (X : CX C cX2_addSurplus 6 RX2 wsX2_addSurplus rmX2_addSurplus none) {r : Int32 × Mem} (hq : QV C r) (v1 : Int32) (v2 : Int32) (v3 : Int32) (σ : Mem) (hf : fX2_addSurplus_e v1 v2 v3 σ = some r) : G C 6 0 0 0 [(0, .ref (adr C 0)), (1, .int v1), (2, .int v2), (3, .int v3)] [] σ := by
  unfold fX2_addSurplus_e at hf
  refine g_aload_n X dX2_addSurplus_0 0 rfl rfl ?_
  refine g_get (q := 0) (kf := 10) (v := .int (rI σ 0 10)) X obj_x rfl infX2_addSurplus_X2 (by decide) (by decide +kernel) rfl dX2_addSurplus_1 ?_
  refine g_iconst (v := (2 : Int32)) X dX2_addSurplus_4 (by decide) ?_
  refine g_icmp_ne (tgt := 24) X dX2_addSurplus_5 (by decide) hf (fun hf => ?_) (fun hf => ?_)
  · exact tX2_addSurplus_24 X hq v1 v2 v3 σ hf
  · refine g_aload_n X dX2_addSurplus_8 0 rfl rfl ?_
    refine g_get (q := 0) (kf := 11) (v := .int (rI σ 0 11)) X obj_x rfl infX2_addSurplus_X2 (by decide) (by decide +kernel) rfl dX2_addSurplus_9 ?_
    refine g_if_le (tgt := 24) X dX2_addSurplus_12 (by decide) hf (fun hf => ?_) (fun hf => ?_)
    · exact tX2_addSurplus_24 X hq v1 v2 v3 σ hf
    · refine g_iload_n X dX2_addSurplus_15 1 rfl rfl ?_
      refine g_aload_n X dX2_addSurplus_16 0 rfl rfl ?_
      refine g_get (q := 0) (kf := 11) (v := .int (rI σ 0 11)) X obj_x rfl infX2_addSurplus_X2 (by decide) (by decide +kernel) rfl dX2_addSurplus_17 ?_
      refine g_irem X dX2_addSurplus_20 hf (fun hf => ?_)
      refine g_goto (tgt := 25) X dX2_addSurplus_21 (by decide) ?_
      refine g_sub [0, 2, 3] (L' := [(0, .ref (adr C 0)), (2, .int v2), (3, .int v3)]) rfl ?_
      exact tX2_addSurplus_25 X hq v2 v3 (v1 - v1 / (rI σ 0 11) * (rI σ 0 11)) σ hf
def fX2_addSurplus (v1 : Int32) (v2 : Int32) (v3 : Int32) (σ : Mem) : Option (Int32 × Mem) := fX2_addSurplus_e v1 v2 v3 σ
theorem kX2_addSurplus (l : Launch) (v1 : Int32) (v2 : Int32) (v3 : Int32) (σ : Mem) : KV l yX2_addSurplus wsX2_addSurplus rmX2_addSurplus (fun ad => [.ref (ad 0), .int v1, .int v2, .int v3]) σ (fX2_addSurplus v1 v2 v3 σ) := fun r hr => kt_of (by decide +kernel) rfl (fun _ => Nat.le_of_ble_eq_true rfl) (fun C X hne hq => tX2_addSurplus_e X hq v1 v2 v3 σ hr)
/-! ### X2_fillSurpluses -/
abbrev rmX2_fillSurpluses : Room := { frames := 1, cells := 0, slots := 0, locals := 33 }
theorem infX2_fillSurpluses_X1 : ∀ w ∈ u_ws RX1 TX1 3, w ∈ wsX2_fillSurpluses := by decide +kernel
theorem infX2_fillSurpluses_X2 : ∀ w ∈ u_ws RX2 TX2 15, w ∈ wsX2_fillSurpluses := by decide +kernel
def fX2_fillSurpluses_52b (r52 : Int32 → Int32 → Mem → Option (Int32 × Mem)) (v1 : Int32) (v2 : Int32) (σ : Mem) : Option (Int32 × Mem) :=
  if (rI σ 4 2) ≤ v2 then (some ((0 : Int32), σ))
  else (grd (inb v2 5) (grd (inb v2 5) (bnd (fX2_addSurplus (rI σ 5 (ix v2)) (-(rI σ 6 (ix v2))) v1 σ) fun u1 σ2 =>
  r52 v1 (v2 + 1) σ2)))
def fX2_fillSurpluses_52 : Nat → Int32 → Int32 → Mem → Option (Int32 × Mem)
  | 0 => fun _ _ _ => none
  | n + 1 => fX2_fillSurpluses_52b (fX2_fillSurpluses_52 n)
set_option maxHeartbeats 4000000 in
set_option maxRecDepth 100000 in
theorem tX2_fillSurpluses_52b {C : Ctx} (X : CX C cX2_fillSurpluses 3 RX2 wsX2_fillSurpluses rmX2_fillSurpluses none) {r : Int32 × Mem} (hq : QV C r) (r52 : Int32 → Int32 → Mem → Option (Int32 × Mem)) (ih52 : ∀ (v1 : Int32) (v2 : Int32) (σ : Mem), r52 v1 v2 σ = some r → G C 3 0 0 52 [(0, .ref (adr C 0)), (1, .int v1), (2, .int v2)] [] σ) (v1 : Int32) (v2 : Int32) (σ : Mem) (hf : fX2_fillSurpluses_52b r52 v1 v2 σ = some r) : G C 3 0 0 52 [(0, .ref (adr C 0)), (1, .int v1), (2, .int v2)] [] σ := by
  unfold fX2_fillSurpluses_52b at hf
  refine g_iload_n X dX2_fillSurpluses_52 2 rfl rfl ?_
  refine g_aload_n X dX2_fillSurpluses_53 0 rfl rfl ?_
  refine g_get (q := 0) (kf := 1) (v := .ref (adr C 4)) X obj_x rfl infX2_fillSurpluses_X2 (by decide) (by decide +kernel) rfl dX2_fillSurpluses_54 ?_
  refine g_get (q := 4) (kf := 2) (v := .int (rI σ 4 2)) X (obj_s (k := 4) rfl) rfl infX2_fillSurpluses_X1 (by decide) (by decide +kernel) rfl dX2_fillSurpluses_57 ?_
  refine g_icmp_ge (tgt := 93) X dX2_fillSurpluses_60 (by decide) hf (fun hf => ?_) (fun hf => ?_)
  · exact r_vret X hq dX2_fillSurpluses_93 hf
  · refine g_aload_n X dX2_fillSurpluses_63 0 rfl rfl ?_
    refine g_aload_n X dX2_fillSurpluses_64 0 rfl rfl ?_
    refine g_get (q := 0) (kf := 1) (v := .ref (adr C 4)) X obj_x rfl infX2_fillSurpluses_X2 (by decide) (by decide +kernel) rfl dX2_fillSurpluses_65 ?_
    refine g_get (q := 4) (kf := 0) (v := .ref (adr C 5)) X (obj_s (k := 4) rfl) rfl infX2_fillSurpluses_X1 (by decide) (by decide +kernel) rfl dX2_fillSurpluses_68 ?_
    refine g_iload_n X dX2_fillSurpluses_71 2 rfl rfl ?_
    refine g_iald (q := 5) (n := 5) X rfl rfl dX2_fillSurpluses_72 hf (fun hf => ?_)
    refine g_aload_n X dX2_fillSurpluses_73 0 rfl rfl ?_
    refine g_get (q := 0) (kf := 1) (v := .ref (adr C 4)) X obj_x rfl infX2_fillSurpluses_X2 (by decide) (by decide +kernel) rfl dX2_fillSurpluses_74 ?_
    refine g_get (q := 4) (kf := 1) (v := .ref (adr C 6)) X (obj_s (k := 4) rfl) rfl infX2_fillSurpluses_X1 (by decide) (by decide +kernel) rfl dX2_fillSurpluses_77 ?_
    refine g_iload_n X dX2_fillSurpluses_80 2 rfl rfl ?_
    refine g_iald (q := 6) (n := 5) X rfl rfl dX2_fillSurpluses_81 hf (fun hf => ?_)
    refine g_ineg X dX2_fillSurpluses_82 ?_
    refine g_iload_n X dX2_fillSurpluses_83 1 rfl rfl ?_
    refine c_VV (q := 0) (vs := [.int (rI σ 5 (ix v2)), .int (-(rI σ 6 (ix v2))), .int v1]) (rest := []) X (kX2_addSurplus (cL C) (rI σ 5 (ix v2)) (-(rI σ 6 (ix v2))) v1 σ) (fun s a hts => cwV 3 hts gX2_fillSurpluses_X2_addSurplus rfl rfl rfl (by decide +kernel) ⟨Nat.le_of_ble_eq_true rfl, Nat.le_of_ble_eq_true rfl⟩) obj_x (rfl : vwCl[2]? = some (RX2, TX2, 15)) rfl rfl rfl rfl (Nat.le_of_ble_eq_true rfl) dX2_fillSurpluses_84 ⟨Nat.le_of_ble_eq_true rfl, Nat.le_of_ble_eq_true rfl⟩ hf (fun u1 σ2 hf => ?_)
    refine g_iinc (v := (v2 + 1)) (L' := [(2, .int (v2 + 1)), (0, .ref (adr C 0)), (1, .int v1)]) X dX2_fillSurpluses_87 2 rfl rfl (by decide) rfl ?_
    refine g_goto (tgt := 52) X dX2_fillSurpluses_90 (by decide) ?_
    refine g_sub [1, 2, 0] (L' := [(0, .ref (adr C 0)), (1, .int v1), (2, .int (v2 + 1))]) rfl ?_
    exact ih52 v1 (v2 + 1) σ2 hf
set_option maxHeartbeats 4000000 in
set_option maxRecDepth 100000 in
theorem tX2_fillSurpluses_52 {C : Ctx} (X : CX C cX2_fillSurpluses 3 RX2 wsX2_fillSurpluses rmX2_fillSurpluses none) {r : Int32 × Mem} (hq : QV C r) : ∀ (n : Nat) (v1 : Int32) (v2 : Int32) (σ : Mem) (hf : fX2_fillSurpluses_52 n v1 v2 σ = some r), G C 3 0 0 52 [(0, .ref (adr C 0)), (1, .int v1), (2, .int v2)] [] σ := by
  intro n
  induction n with
  | zero => intros; rename_i hf; exact absurd (show (none : Option (Int32 × Mem)) = some r from hf) (by simp)
  | succ n ih =>
    intro v1 v2 σ hf
    exact tX2_fillSurpluses_52b X hq (fX2_fillSurpluses_52 n) (fun v1 v2 σ hf => ih v1 v2 σ hf) v1 v2 σ hf
def fX2_fillSurpluses_10b (r10 : Int32 → Int32 → Mem → Option (Int32 × Mem)) (v1 : Int32) (v2 : Int32) (σ : Mem) : Option (Int32 × Mem) :=
  if (rI σ 1 2) ≤ v2 then (fX2_fillSurpluses_52 FU v1 (0 : Int32) σ)
  else (grd (inb v2 5) (grd (inb v2 5) (bnd (fX2_addSurplus (rI σ 2 (ix v2)) (rI σ 3 (ix v2)) v1 σ) fun u1 σ2 =>
  r10 v1 (v2 + 1) σ2)))
def fX2_fillSurpluses_10 : Nat → Int32 → Int32 → Mem → Option (Int32 × Mem)
  | 0 => fun _ _ _ => none
  | n + 1 => fX2_fillSurpluses_10b (fX2_fillSurpluses_10 n)
set_option maxHeartbeats 4000000 in
set_option maxRecDepth 100000 in
theorem tX2_fillSurpluses_10b {C : Ctx} (X : CX C cX2_fillSurpluses 3 RX2 wsX2_fillSurpluses rmX2_fillSurpluses none) {r : Int32 × Mem} (hq : QV C r) (r10 : Int32 → Int32 → Mem → Option (Int32 × Mem)) (ih10 : ∀ (v1 : Int32) (v2 : Int32) (σ : Mem), r10 v1 v2 σ = some r → G C 3 0 0 10 [(0, .ref (adr C 0)), (1, .int v1), (2, .int v2)] [] σ) (v1 : Int32) (v2 : Int32) (σ : Mem) (hf : fX2_fillSurpluses_10b r10 v1 v2 σ = some r) : G C 3 0 0 10 [(0, .ref (adr C 0)), (1, .int v1), (2, .int v2)] [] σ := by
  unfold fX2_fillSurpluses_10b at hf
  refine g_iload_n X dX2_fillSurpluses_10 2 rfl rfl ?_
  refine g_aload_n X dX2_fillSurpluses_11 0 rfl rfl ?_
  refine g_get (q := 0) (kf := 0) (v := .ref (adr C 1)) X obj_x rfl infX2_fillSurpluses_X2 (by decide) (by decide +kernel) rfl dX2_fillSurpluses_12 ?_
  refine g_get (q := 1) (kf := 2) (v := .int (rI σ 1 2)) X (obj_s (k := 1) rfl) rfl infX2_fillSurpluses_X1 (by decide) (by decide +kernel) rfl dX2_fillSurpluses_15 ?_
  refine g_icmp_ge (tgt := 50) X dX2_fillSurpluses_18 (by decide) hf (fun hf => ?_) (fun hf => ?_)
  · refine g_iconst (v := (0 : Int32)) X dX2_fillSurpluses_50 (by decide) ?_
    refine g_istore_n (L' := [(2, .int (0 : Int32)), (0, .ref (adr C 0)), (1, .int v1)]) X dX2_fillSurpluses_51 rfl (by decide) rfl ?_
    refine g_sub [1, 2, 0] (L' := [(0, .ref (adr C 0)), (1, .int v1), (2, .int (0 : Int32))]) rfl ?_
    exact tX2_fillSurpluses_52 X hq FU v1 (0 : Int32) σ hf
  · refine g_aload_n X dX2_fillSurpluses_21 0 rfl rfl ?_
    refine g_aload_n X dX2_fillSurpluses_22 0 rfl rfl ?_
    refine g_get (q := 0) (kf := 0) (v := .ref (adr C 1)) X obj_x rfl infX2_fillSurpluses_X2 (by decide) (by decide +kernel) rfl dX2_fillSurpluses_23 ?_
    refine g_get (q := 1) (kf := 0) (v := .ref (adr C 2)) X (obj_s (k := 1) rfl) rfl infX2_fillSurpluses_X1 (by decide) (by decide +kernel) rfl dX2_fillSurpluses_26 ?_
    refine g_iload_n X dX2_fillSurpluses_29 2 rfl rfl ?_
    refine g_iald (q := 2) (n := 5) X rfl rfl dX2_fillSurpluses_30 hf (fun hf => ?_)
    refine g_aload_n X dX2_fillSurpluses_31 0 rfl rfl ?_
    refine g_get (q := 0) (kf := 0) (v := .ref (adr C 1)) X obj_x rfl infX2_fillSurpluses_X2 (by decide) (by decide +kernel) rfl dX2_fillSurpluses_32 ?_
    refine g_get (q := 1) (kf := 1) (v := .ref (adr C 3)) X (obj_s (k := 1) rfl) rfl infX2_fillSurpluses_X1 (by decide) (by decide +kernel) rfl dX2_fillSurpluses_35 ?_
    refine g_iload_n X dX2_fillSurpluses_38 2 rfl rfl ?_
    refine g_iald (q := 3) (n := 5) X rfl rfl dX2_fillSurpluses_39 hf (fun hf => ?_)
    refine g_iload_n X dX2_fillSurpluses_40 1 rfl rfl ?_
    refine c_VV (q := 0) (vs := [.int (rI σ 2 (ix v2)), .int (rI σ 3 (ix v2)), .int v1]) (rest := []) X (kX2_addSurplus (cL C) (rI σ 2 (ix v2)) (rI σ 3 (ix v2)) v1 σ) (fun s a hts => cwV 3 hts gX2_fillSurpluses_X2_addSurplus rfl rfl rfl (by decide +kernel) ⟨Nat.le_of_ble_eq_true rfl, Nat.le_of_ble_eq_true rfl⟩) obj_x (rfl : vwCl[2]? = some (RX2, TX2, 15)) rfl rfl rfl rfl (Nat.le_of_ble_eq_true rfl) dX2_fillSurpluses_41 ⟨Nat.le_of_ble_eq_true rfl, Nat.le_of_ble_eq_true rfl⟩ hf (fun u1 σ2 hf => ?_)
    refine g_iinc (v := (v2 + 1)) (L' := [(2, .int (v2 + 1)), (0, .ref (adr C 0)), (1, .int v1)]) X dX2_fillSurpluses_44 2 rfl rfl (by decide) rfl ?_
    refine g_goto (tgt := 10) X dX2_fillSurpluses_47 (by decide) ?_
    refine g_sub [1, 2, 0] (L' := [(0, .ref (adr C 0)), (1, .int v1), (2, .int (v2 + 1))]) rfl ?_
    exact ih10 v1 (v2 + 1) σ2 hf
set_option maxHeartbeats 4000000 in
set_option maxRecDepth 100000 in
theorem tX2_fillSurpluses_10 {C : Ctx} (X : CX C cX2_fillSurpluses 3 RX2 wsX2_fillSurpluses rmX2_fillSurpluses none) {r : Int32 × Mem} (hq : QV C r) : ∀ (n : Nat) (v1 : Int32) (v2 : Int32) (σ : Mem) (hf : fX2_fillSurpluses_10 n v1 v2 σ = some r), G C 3 0 0 10 [(0, .ref (adr C 0)), (1, .int v1), (2, .int v2)] [] σ := by
  intro n
  induction n with
  | zero => intros; rename_i hf; exact absurd (show (none : Option (Int32 × Mem)) = some r from hf) (by simp)
  | succ n ih =>
    intro v1 v2 σ hf
    exact tX2_fillSurpluses_10b X hq (fX2_fillSurpluses_10 n) (fun v1 v2 σ hf => ih v1 v2 σ hf) v1 v2 σ hf
def fX2_fillSurpluses_e (v1 : Int32) (σ : Mem) : Option (Int32 × Mem) :=
  bnd (fJ7_fill_53178 10 (0 : Int32) σ) fun u1 σ2 =>
  fX2_fillSurpluses_10 FU v1 (0 : Int32) σ2
set_option maxHeartbeats 4000000 in
set_option maxRecDepth 100000 in
theorem tX2_fillSurpluses_e {C : Ctx} (X : CX C cX2_fillSurpluses 3 RX2 wsX2_fillSurpluses rmX2_fillSurpluses none) {r : Int32 × Mem} (hq : QV C r) (v1 : Int32) (σ : Mem) (hf : fX2_fillSurpluses_e v1 σ = some r) : G C 3 0 0 0 [(0, .ref (adr C 0)), (1, .int v1)] [] σ := by
  unfold fX2_fillSurpluses_e at hf
  refine g_aload_n X dX2_fillSurpluses_0 0 rfl rfl ?_
  refine g_get (q := 0) (kf := 5) (v := .ref (adr C 10)) X obj_x rfl infX2_fillSurpluses_X2 (by decide) (by decide +kernel) rfl dX2_fillSurpluses_1 ?_
  refine g_iconst (v := (0 : Int32)) X dX2_fillSurpluses_4 (by decide) ?_
  refine c_SV (vs := [.ref (adr C 10), .int (0 : Int32)]) (rest := []) X (kJ7_fill_53178 (cL C) 10 (0 : Int32) rfl σ) (fun s a hts => va_cwS 2 hts gX2_fillSurpluses_J7_fill_53178 rfl rfl rfl (by decide +kernel) ⟨Nat.le_of_ble_eq_true rfl, Nat.le_of_ble_eq_true rfl⟩) rfl rfl rfl (Nat.le_of_ble_eq_true rfl) dX2_fillSurpluses_5 ⟨Nat.le_of_ble_eq_true rfl, Nat.le_of_ble_eq_true rfl⟩ hf (fun u1 σ2 hf => ?_)
  refine g_iconst (v := (0 : Int32)) X dX2_fillSurpluses_8 (by decide) ?_
  refine g_istore_n (L' := [(2, .int (0 : Int32)), (0, .ref (adr C 0)), (1, .int v1)]) X dX2_fillSurpluses_9 rfl (by decide) rfl ?_
  refine g_sub [1, 2, 0] (L' := [(0, .ref (adr C 0)), (1, .int v1), (2, .int (0 : Int32))]) rfl ?_
  exact tX2_fillSurpluses_10 X hq FU v1 (0 : Int32) σ2 hf
def fX2_fillSurpluses (v1 : Int32) (σ : Mem) : Option (Int32 × Mem) := fX2_fillSurpluses_e v1 σ
theorem kX2_fillSurpluses (l : Launch) (v1 : Int32) (σ : Mem) : KV l yX2_fillSurpluses wsX2_fillSurpluses rmX2_fillSurpluses (fun ad => [.ref (ad 0), .int v1]) σ (fX2_fillSurpluses v1 σ) := fun r hr => kt_of (by decide +kernel) rfl (fun _ => Nat.le_of_ble_eq_true rfl) (fun C X hne hq => tX2_fillSurpluses_e X hq v1 σ hr)
/-! ### X2_sizesOff -/
abbrev rmX2_sizesOff : Room := { frames := 1, cells := 0, slots := 0, locals := 15 }
theorem infX2_sizesOff_X2 : ∀ w ∈ u_ws RX2 TX2 15, w ∈ wsX2_sizesOff := by decide +kernel
def fX2_sizesOff_40 (v3 : Int32) (σ : Mem) : Option (Int32 × Mem) :=
  some (v3, σ)
set_option maxHeartbeats 4000000 in
set_option maxRecDepth 100000 in
theorem tX2_sizesOff_40 {C : Ctx} (X : CX C cX2_sizesOff 5 RX2 wsX2_sizesOff rmX2_sizesOff (some .int)) {r : Int32 × Mem} (hq : QI C r) (v3 : Int32) (σ : Mem) (hf : fX2_sizesOff_40 v3 σ = some r) : G C 5 0 0 40 [(3, .int v3)] [] σ := by
  unfold fX2_sizesOff_40 at hf
  refine g_iload_n X dX2_sizesOff_40 0 rfl rfl ?_
  exact r_iret X hq dX2_sizesOff_41 hf
def fX2_sizesOff_5b (r5 : Int32 → Int32 → Int32 → Int32 → Mem → Option (Int32 × Mem)) (v1 : Int32) (v2 : Int32) (v3 : Int32) (v4 : Int32) (σ : Mem) : Option (Int32 × Mem) :=
  if v2 ≤ v4 then (fX2_sizesOff_40 v3 σ)
  else (if (200 : Int32) ≤ v4 then (fX2_sizesOff_40 v3 σ)
  else (grd (inb v4 200) (ltI (v3 + (abI ((rI σ 10 (ix v4)) - v1))) fun x1 =>
  r5 v1 v2 x1 (v4 + 1) σ)))
def fX2_sizesOff_5 : Nat → Int32 → Int32 → Int32 → Int32 → Mem → Option (Int32 × Mem)
  | 0 => fun _ _ _ _ _ => none
  | n + 1 => fX2_sizesOff_5b (fX2_sizesOff_5 n)
set_option maxHeartbeats 4000000 in
set_option maxRecDepth 100000 in
theorem tX2_sizesOff_5b {C : Ctx} (X : CX C cX2_sizesOff 5 RX2 wsX2_sizesOff rmX2_sizesOff (some .int)) {r : Int32 × Mem} (hq : QI C r) (r5 : Int32 → Int32 → Int32 → Int32 → Mem → Option (Int32 × Mem)) (ih5 : ∀ (v1 : Int32) (v2 : Int32) (v3 : Int32) (v4 : Int32) (σ : Mem), r5 v1 v2 v3 v4 σ = some r → G C 5 0 0 5 [(0, .ref (adr C 0)), (1, .int v1), (2, .int v2), (3, .int v3), (4, .int v4)] [] σ) (v1 : Int32) (v2 : Int32) (v3 : Int32) (v4 : Int32) (σ : Mem) (hf : fX2_sizesOff_5b r5 v1 v2 v3 v4 σ = some r) : G C 5 0 0 5 [(0, .ref (adr C 0)), (1, .int v1), (2, .int v2), (3, .int v3), (4, .int v4)] [] σ := by
  unfold fX2_sizesOff_5b at hf
  refine g_iload X dX2_sizesOff_5 4 rfl ?_
  refine g_iload_n X dX2_sizesOff_7 2 rfl rfl ?_
  refine g_icmp_ge (tgt := 40) X dX2_sizesOff_8 (by decide) hf (fun hf => ?_) (fun hf => ?_)
  · refine g_sub [3] (L' := [(3, .int v3)]) rfl ?_
    exact tX2_sizesOff_40 X hq v3 σ hf
  · refine g_iload X dX2_sizesOff_11 4 rfl ?_
    refine g_sipush (v := (200 : Int32)) X dX2_sizesOff_13 (by decide) ?_
    refine g_icmp_ge (tgt := 40) X dX2_sizesOff_16 (by decide) hf (fun hf => ?_) (fun hf => ?_)
    · refine g_sub [3] (L' := [(3, .int v3)]) rfl ?_
      exact tX2_sizesOff_40 X hq v3 σ hf
    · refine g_iload_n X dX2_sizesOff_19 3 rfl rfl ?_
      refine g_aload_n X dX2_sizesOff_20 0 rfl rfl ?_
      refine g_get (q := 0) (kf := 5) (v := .ref (adr C 10)) X obj_x rfl infX2_sizesOff_X2 (by decide) (by decide +kernel) rfl dX2_sizesOff_21 ?_
      refine g_iload X dX2_sizesOff_24 4 rfl ?_
      refine g_iald (q := 10) (n := 200) X rfl rfl dX2_sizesOff_26 hf (fun hf => ?_)
      refine g_iload_n X dX2_sizesOff_27 1 rfl rfl ?_
      refine g_isub X dX2_sizesOff_28 ?_
      refine g_absI X (by decide +kernel) (by decide +kernel) (by decide +kernel) (by decide +kernel) ⟨Nat.le_of_ble_eq_true rfl, Nat.le_of_ble_eq_true rfl, Nat.le_of_ble_eq_true rfl, Nat.le_of_ble_eq_true rfl⟩ dX2_sizesOff_29 ?_
      refine g_iadd X dX2_sizesOff_32 ?_
      refine s_istore_n (M := fun x1 => [(3, .int x1), (0, .ref (adr C 0)), (1, .int v1), (2, .int v2), (4, .int v4)]) X dX2_sizesOff_33 rfl (by decide) (fun _ => rfl) hf (fun x1 hf => ?_)
      refine g_iinc (v := (v4 + 1)) (L' := [(4, .int (v4 + 1)), (3, .int x1), (0, .ref (adr C 0)), (1, .int v1), (2, .int v2)]) X dX2_sizesOff_34 4 rfl rfl (by decide) rfl ?_
      refine g_goto (tgt := 5) X dX2_sizesOff_37 (by decide) ?_
      refine g_sub [2, 3, 4, 1, 0] (L' := [(0, .ref (adr C 0)), (1, .int v1), (2, .int v2), (3, .int x1), (4, .int (v4 + 1))]) rfl ?_
      exact ih5 v1 v2 x1 (v4 + 1) σ hf
set_option maxHeartbeats 4000000 in
set_option maxRecDepth 100000 in
theorem tX2_sizesOff_5 {C : Ctx} (X : CX C cX2_sizesOff 5 RX2 wsX2_sizesOff rmX2_sizesOff (some .int)) {r : Int32 × Mem} (hq : QI C r) : ∀ (n : Nat) (v1 : Int32) (v2 : Int32) (v3 : Int32) (v4 : Int32) (σ : Mem) (hf : fX2_sizesOff_5 n v1 v2 v3 v4 σ = some r), G C 5 0 0 5 [(0, .ref (adr C 0)), (1, .int v1), (2, .int v2), (3, .int v3), (4, .int v4)] [] σ := by
  intro n
  induction n with
  | zero => intros; rename_i hf; exact absurd (show (none : Option (Int32 × Mem)) = some r from hf) (by simp)
  | succ n ih =>
    intro v1 v2 v3 v4 σ hf
    exact tX2_sizesOff_5b X hq (fX2_sizesOff_5 n) (fun v1 v2 v3 v4 σ hf => ih v1 v2 v3 v4 σ hf) v1 v2 v3 v4 σ hf
def fX2_sizesOff_e (v1 : Int32) (v2 : Int32) (σ : Mem) : Option (Int32 × Mem) :=
  fX2_sizesOff_5 FU v1 v2 (0 : Int32) (0 : Int32) σ
set_option maxHeartbeats 4000000 in
set_option maxRecDepth 100000 in
theorem tX2_sizesOff_e {C : Ctx} (X : CX C cX2_sizesOff 5 RX2 wsX2_sizesOff rmX2_sizesOff (some .int)) {r : Int32 × Mem} (hq : QI C r) (v1 : Int32) (v2 : Int32) (σ : Mem) (hf : fX2_sizesOff_e v1 v2 σ = some r) : G C 5 0 0 0 [(0, .ref (adr C 0)), (1, .int v1), (2, .int v2)] [] σ := by
  unfold fX2_sizesOff_e at hf
  refine g_iconst (v := (0 : Int32)) X dX2_sizesOff_0 (by decide) ?_
  refine g_istore_n (L' := [(3, .int (0 : Int32)), (0, .ref (adr C 0)), (1, .int v1), (2, .int v2)]) X dX2_sizesOff_1 rfl (by decide) rfl ?_
  refine g_iconst (v := (0 : Int32)) X dX2_sizesOff_2 (by decide) ?_
  refine g_istore (L' := [(4, .int (0 : Int32)), (3, .int (0 : Int32)), (0, .ref (adr C 0)), (1, .int v1), (2, .int v2)]) X dX2_sizesOff_3 (by decide) rfl ?_
  refine g_sub [2, 3, 4, 1, 0] (L' := [(0, .ref (adr C 0)), (1, .int v1), (2, .int v2), (3, .int (0 : Int32)), (4, .int (0 : Int32))]) rfl ?_
  exact tX2_sizesOff_5 X hq FU v1 v2 (0 : Int32) (0 : Int32) σ hf
def fX2_sizesOff (v1 : Int32) (v2 : Int32) (σ : Mem) : Option (Int32 × Mem) := fX2_sizesOff_e v1 v2 σ
theorem kX2_sizesOff (l : Launch) (v1 : Int32) (v2 : Int32) (σ : Mem) : KI l yX2_sizesOff wsX2_sizesOff rmX2_sizesOff (fun ad => [.ref (ad 0), .int v1, .int v2]) σ (fX2_sizesOff v1 v2 σ) := fun r hr => kt_of (by decide +kernel) rfl (fun _ => Nat.le_of_ble_eq_true rfl) (fun C X hne hq => tX2_sizesOff_e X hq v1 v2 σ hr)
/-! ### X2_order -/
abbrev rmX2_order : Room := { frames := 6, cells := 1, slots := 6, locals := 82 }
theorem infX2_order_X2 : ∀ w ∈ u_ws RX2 TX2 15, w ∈ wsX2_order := by decide +kernel
def fX2_order_59b (r59 : Int32 → Int32 → Mem → Option (Sum Int32 Nat × Mem)) (v1 : Int32) (v2 : Int32) (σ : Mem) : Option (Sum Int32 Nat × Mem) :=
  if (100 : Int32) < v2 then (some (Sum.inl v1, σ))
  else (bnd (fX2_sizesOff v2 (rI σ 0 11) σ) fun u1 σ2 =>
  ltI (mnI v1 u1) fun x3 =>
  r59 x3 (v2 + 1) σ2)
def fX2_order_59 : Nat → Int32 → Int32 → Mem → Option (Sum Int32 Nat × Mem)
  | 0 => fun _ _ _ => none
  | n + 1 => fX2_order_59b (fX2_order_59 n)
set_option maxHeartbeats 4000000 in
set_option maxRecDepth 100000 in
theorem tX2_order_59b {C : Ctx} (X : CX C cX2_order 3 RX2 wsX2_order rmX2_order (some .int)) (hne : NH C) {r : Sum Int32 Nat × Mem} (hq : QXI C r) (r59 : Int32 → Int32 → Mem → Option (Sum Int32 Nat × Mem)) (ih59 : ∀ (v1 : Int32) (v2 : Int32) (σ : Mem), r59 v1 v2 σ = some r → G C 3 0 0 59 [(0, .ref (adr C 0)), (1, .int v1), (2, .int v2)] [] σ) (v1 : Int32) (v2 : Int32) (σ : Mem) (hf : fX2_order_59b r59 v1 v2 σ = some r) : G C 3 0 0 59 [(0, .ref (adr C 0)), (1, .int v1), (2, .int v2)] [] σ := by
  unfold fX2_order_59b at hf
  refine g_iload_n X dX2_order_59 2 rfl rfl ?_
  refine g_bipush (v := (100 : Int32)) X dX2_order_60 (by decide) ?_
  refine g_icmp_gt (tgt := 85) X dX2_order_62 (by decide) hf (fun hf => ?_) (fun hf => ?_)
  · refine g_iload_n X dX2_order_85 1 rfl rfl ?_
    exact r_iretX X hq dX2_order_86 hf
  · refine g_iload_n X dX2_order_65 1 rfl rfl ?_
    refine g_aload_n X dX2_order_66 0 rfl rfl ?_
    refine g_iload_n X dX2_order_67 2 rfl rfl ?_
    refine g_aload_n X dX2_order_68 0 rfl rfl ?_
    refine g_get (q := 0) (kf := 11) (v := .int (rI σ 0 11)) X obj_x rfl infX2_order_X2 (by decide) (by decide +kernel) rfl dX2_order_69 ?_
    refine c_VI (q := 0) (vs := [.int v2, .int (rI σ 0 11)]) (rest := [.int v1]) X (kX2_sizesOff (cL C) v2 (rI σ 0 11) σ) (fun s a hts => cwV 2 hts gX2_order_X2_sizesOff rfl rfl rfl (by decide +kernel) ⟨Nat.le_of_ble_eq_true rfl, Nat.le_of_ble_eq_true rfl⟩) obj_x (rfl : vwCl[2]? = some (RX2, TX2, 15)) rfl rfl rfl rfl (Nat.le_of_ble_eq_true rfl) dX2_order_72 ⟨Nat.le_of_ble_eq_true rfl, Nat.le_of_ble_eq_true rfl⟩ hf (fun u1 σ2 hf => ?_)
    refine g_minI X (by decide +kernel) (by decide +kernel) (by decide +kernel) (by decide +kernel) ⟨Nat.le_of_ble_eq_true rfl, Nat.le_of_ble_eq_true rfl, Nat.le_of_ble_eq_true rfl, Nat.le_of_ble_eq_true rfl⟩ dX2_order_75 ?_
    refine s_istore_n (M := fun x3 => [(1, .int x3), (0, .ref (adr C 0)), (2, .int v2)]) X dX2_order_78 rfl (by decide) (fun _ => rfl) hf (fun x3 hf => ?_)
    refine g_iinc (v := (v2 + 1)) (L' := [(2, .int (v2 + 1)), (1, .int x3), (0, .ref (adr C 0))]) X dX2_order_79 2 rfl rfl (by decide) rfl ?_
    refine g_goto (tgt := 59) X dX2_order_82 (by decide) ?_
    refine g_sub [2, 1, 0] (L' := [(0, .ref (adr C 0)), (1, .int x3), (2, .int (v2 + 1))]) rfl ?_
    exact ih59 x3 (v2 + 1) σ2 hf
set_option maxHeartbeats 4000000 in
set_option maxRecDepth 100000 in
theorem tX2_order_59 {C : Ctx} (X : CX C cX2_order 3 RX2 wsX2_order rmX2_order (some .int)) (hne : NH C) {r : Sum Int32 Nat × Mem} (hq : QXI C r) : ∀ (n : Nat) (v1 : Int32) (v2 : Int32) (σ : Mem) (hf : fX2_order_59 n v1 v2 σ = some r), G C 3 0 0 59 [(0, .ref (adr C 0)), (1, .int v1), (2, .int v2)] [] σ := by
  intro n
  induction n with
  | zero => intros; rename_i hf; exact absurd (show (none : Option (Sum Int32 Nat × Mem)) = some r from hf) (by simp)
  | succ n ih =>
    intro v1 v2 σ hf
    exact tX2_order_59b X hne hq (fX2_order_59 n) (fun v1 v2 σ hf => ih v1 v2 σ hf) v1 v2 σ hf
def fX2_order_e (σ : Mem) : Option (Sum Int32 Nat × Mem) :=
  bnd (fX2_canGoByOrder σ) fun u1 σ2 =>
  if u1 = 0 then (some (Sum.inr 2, σ2))
  else (if (rI σ2 0 10) = 0 then (bnd (fX2_fillSurpluses (100 : Int32) σ2) fun u7 σ8 =>
  bnd (fX2_sizesOff (0 : Int32) (100 : Int32) σ8) fun u9 σ10 =>
  some (Sum.inl u9, σ10))
  else (bnd (fX2_fillSurpluses (rI σ2 0 11) σ2) fun u3 σ4 =>
  bnd (fX2_sizesOff (0 : Int32) (rI σ4 0 11) σ4) fun u5 σ6 =>
  fX2_order_59 FU u5 (-100 : Int32) σ6))
set_option maxHeartbeats 4000000 in
set_option maxRecDepth 100000 in
theorem tX2_order_e {C : Ctx} (X : CX C cX2_order 3 RX2 wsX2_order rmX2_order (some .int)) (hne : NH C) {r : Sum Int32 Nat × Mem} (hq : QXI C r) (σ : Mem) (hf : fX2_order_e σ = some r) : G C 3 0 0 0 [(0, .ref (adr C 0))] [] σ := by
  unfold fX2_order_e at hf
  refine g_aload_n X dX2_order_0 0 rfl rfl ?_
  refine c_VI (q := 0) (vs := []) (rest := []) X (kX2_canGoByOrder (cL C) σ) (fun s a hts => cwV 0 hts gX2_order_X2_canGoByOrder rfl rfl rfl (by decide +kernel) ⟨Nat.le_of_ble_eq_true rfl, Nat.le_of_ble_eq_true rfl⟩) obj_x (rfl : vwCl[2]? = some (RX2, TX2, 15)) rfl rfl rfl rfl (Nat.le_of_ble_eq_true rfl) dX2_order_1 ⟨Nat.le_of_ble_eq_true rfl, Nat.le_of_ble_eq_true rfl⟩ hf (fun u1 σ2 hf => ?_)
  refine g_if_ne (tgt := 17) X dX2_order_4 (by decide) hf (fun hf => ?_) (fun hf => ?_)
  · refine g_aload_n X dX2_order_17 0 rfl rfl ?_
    refine g_get (q := 0) (kf := 10) (v := .int (rI σ2 0 10)) X obj_x rfl infX2_order_X2 (by decide) (by decide +kernel) rfl dX2_order_18 ?_
    refine g_if_ne (tgt := 38) X dX2_order_21 (by decide) hf (fun hf => ?_) (fun hf => ?_)
    · refine g_aload_n X dX2_order_38 0 rfl rfl ?_
      refine g_aload_n X dX2_order_39 0 rfl rfl ?_
      refine g_get (q := 0) (kf := 11) (v := .int (rI σ2 0 11)) X obj_x rfl infX2_order_X2 (by decide) (by decide +kernel) rfl dX2_order_40 ?_
      refine c_VV (q := 0) (vs := [.int (rI σ2 0 11)]) (rest := []) X (kX2_fillSurpluses (cL C) (rI σ2 0 11) σ2) (fun s a hts => cwV 1 hts gX2_order_X2_fillSurpluses rfl rfl rfl (by decide +kernel) ⟨Nat.le_of_ble_eq_true rfl, Nat.le_of_ble_eq_true rfl⟩) obj_x (rfl : vwCl[2]? = some (RX2, TX2, 15)) rfl rfl rfl rfl (Nat.le_of_ble_eq_true rfl) dX2_order_43 ⟨Nat.le_of_ble_eq_true rfl, Nat.le_of_ble_eq_true rfl⟩ hf (fun u3 σ4 hf => ?_)
      refine g_aload_n X dX2_order_46 0 rfl rfl ?_
      refine g_iconst (v := (0 : Int32)) X dX2_order_47 (by decide) ?_
      refine g_aload_n X dX2_order_48 0 rfl rfl ?_
      refine g_get (q := 0) (kf := 11) (v := .int (rI σ4 0 11)) X obj_x rfl infX2_order_X2 (by decide) (by decide +kernel) rfl dX2_order_49 ?_
      refine c_VI (q := 0) (vs := [.int (0 : Int32), .int (rI σ4 0 11)]) (rest := []) X (kX2_sizesOff (cL C) (0 : Int32) (rI σ4 0 11) σ4) (fun s a hts => cwV 2 hts gX2_order_X2_sizesOff rfl rfl rfl (by decide +kernel) ⟨Nat.le_of_ble_eq_true rfl, Nat.le_of_ble_eq_true rfl⟩) obj_x (rfl : vwCl[2]? = some (RX2, TX2, 15)) rfl rfl rfl rfl (Nat.le_of_ble_eq_true rfl) dX2_order_52 ⟨Nat.le_of_ble_eq_true rfl, Nat.le_of_ble_eq_true rfl⟩ hf (fun u5 σ6 hf => ?_)
      refine g_istore_n (L' := [(1, .int u5), (0, .ref (adr C 0))]) X dX2_order_55 rfl (by decide) rfl ?_
      refine g_bipush (v := (-100 : Int32)) X dX2_order_56 (by decide) ?_
      refine g_istore_n (L' := [(2, .int (-100 : Int32)), (1, .int u5), (0, .ref (adr C 0))]) X dX2_order_58 rfl (by decide) rfl ?_
      refine g_sub [2, 1, 0] (L' := [(0, .ref (adr C 0)), (1, .int u5), (2, .int (-100 : Int32))]) rfl ?_
      exact tX2_order_59 X hne hq FU u5 (-100 : Int32) σ6 hf
    · refine g_aload_n X dX2_order_24 0 rfl rfl ?_
      refine g_bipush (v := (100 : Int32)) X dX2_order_25 (by decide) ?_
      refine c_VV (q := 0) (vs := [.int (100 : Int32)]) (rest := []) X (kX2_fillSurpluses (cL C) (100 : Int32) σ2) (fun s a hts => cwV 1 hts gX2_order_X2_fillSurpluses rfl rfl rfl (by decide +kernel) ⟨Nat.le_of_ble_eq_true rfl, Nat.le_of_ble_eq_true rfl⟩) obj_x (rfl : vwCl[2]? = some (RX2, TX2, 15)) rfl rfl rfl rfl (Nat.le_of_ble_eq_true rfl) dX2_order_27 ⟨Nat.le_of_ble_eq_true rfl, Nat.le_of_ble_eq_true rfl⟩ hf (fun u7 σ8 hf => ?_)
      refine g_aload_n X dX2_order_30 0 rfl rfl ?_
      refine g_iconst (v := (0 : Int32)) X dX2_order_31 (by decide) ?_
      refine g_bipush (v := (100 : Int32)) X dX2_order_32 (by decide) ?_
      refine c_VI (q := 0) (vs := [.int (0 : Int32), .int (100 : Int32)]) (rest := []) X (kX2_sizesOff (cL C) (0 : Int32) (100 : Int32) σ8) (fun s a hts => cwV 2 hts gX2_order_X2_sizesOff rfl rfl rfl (by decide +kernel) ⟨Nat.le_of_ble_eq_true rfl, Nat.le_of_ble_eq_true rfl⟩) obj_x (rfl : vwCl[2]? = some (RX2, TX2, 15)) rfl rfl rfl rfl (Nat.le_of_ble_eq_true rfl) dX2_order_34 ⟨Nat.le_of_ble_eq_true rfl, Nat.le_of_ble_eq_true rfl⟩ hf (fun u9 σ10 hf => ?_)
      exact r_iretX X hq dX2_order_37 hf
  · exact e_throw (E := iIS) (text := "not to be carried by order") (ik := 122) (is := 176) (ic := 126) X hne hq (by decide +kernel) (by decide +kernel) (by decide +kernel) (by decide +kernel) (by decide +kernel) (by decide +kernel) (Or.inr (Or.inr rfl)) (by decide +kernel) dX2_order_7 dX2_order_10 dX2_order_11 dX2_order_13 dX2_order_16 (by decide) (Nat.le_of_ble_eq_true rfl) (by decide) (by decide) ⟨2, (Option.some.inj hf).symm, rfl⟩
def fX2_order (σ : Mem) : Option (Sum Int32 Nat × Mem) := fX2_order_e σ
theorem kX2_order (l : Launch) (σ : Mem) : KXI l yX2_order wsX2_order rmX2_order (fun ad => [.ref (ad 0)]) σ (fX2_order σ) := fun r hr => kt_of (by decide +kernel) rfl (fun _ => Nat.le_of_ble_eq_true rfl) (fun C X hne hq => tX2_order_e X hne hq σ hr)
/-! ### X2_carry -/
abbrev rmX2_carry : Room := { frames := 8, cells := 1, slots := 6, locals := 126 }
theorem infX2_carry_X2 : ∀ w ∈ u_ws RX2 TX2 15, w ∈ wsX2_carry := by decide +kernel
def fX2_carry_e (v1 : Int32) (v2 : Int32) (v3 : Int32) (σ : Mem) : Option (Sum Int32 Nat × Mem) :=
  bndX (fX2_checkWay v1 v2 σ) fun u1 σ2 =>
  bndX (fX2_checkRange v3 (0 : Int32) (20 : Int32) σ2) fun u3 σ4 =>
  bnd (fX2_wayOf v1 v2 σ4) fun u5 σ6 =>
  bnd (fX2_tell 9 u5 v3 σ6) fun u7 σ8 =>
  some (Sum.inl u7, σ8)
set_option maxHeartbeats 4000000 in
set_option maxRecDepth 100000 in
theorem tX2_carry_e {C : Ctx} (X : CX C cX2_carry 4 RX2 wsX2_carry rmX2_carry (some .int)) (hne : NH C) {r : Sum Int32 Nat × Mem} (hq : QXI C r) (v1 : Int32) (v2 : Int32) (v3 : Int32) (σ : Mem) (hf : fX2_carry_e v1 v2 v3 σ = some r) : G C 4 0 0 0 [(0, .ref (adr C 0)), (1, .int v1), (2, .int v2), (3, .int v3)] [] σ := by
  unfold fX2_carry_e at hf
  refine g_aload_n X dX2_carry_0 0 rfl rfl ?_
  refine g_iload_n X dX2_carry_1 1 rfl rfl ?_
  refine g_iload_n X dX2_carry_2 2 rfl rfl ?_
  refine c_VXV (q := 0) (vs := [.int v1, .int v2]) (rest := []) X hne (kX2_checkWay (cL C) v1 v2 σ) (fun s a hts => cwV 2 hts gX2_carry_X2_checkWay rfl rfl rfl (by decide +kernel) ⟨Nat.le_of_ble_eq_true rfl, Nat.le_of_ble_eq_true rfl⟩) obj_x (rfl : vwCl[2]? = some (RX2, TX2, 15)) rfl rfl rfl rfl (Nat.le_of_ble_eq_true rfl) dX2_carry_3 ⟨Nat.le_of_ble_eq_true rfl, Nat.le_of_ble_eq_true rfl⟩ ⟨rfl, rfl⟩ hq hf (fun u1 σ2 hf => ?_)
  refine g_iload_n X dX2_carry_6 3 rfl rfl ?_
  refine g_iconst (v := (0 : Int32)) X dX2_carry_7 (by decide) ?_
  refine g_bipush (v := (20 : Int32)) X dX2_carry_8 (by decide) ?_
  refine c_SXV (vs := [.int v3, .int (0 : Int32), .int (20 : Int32)]) (rest := []) X hne (kX2_checkRange (cL C) v3 (0 : Int32) (20 : Int32) σ2) (fun s a hts => va_cwS 3 hts gX2_carry_X2_checkRange rfl rfl rfl (by decide +kernel) ⟨Nat.le_of_ble_eq_true rfl, Nat.le_of_ble_eq_true rfl⟩) rfl rfl rfl (Nat.le_of_ble_eq_true rfl) dX2_carry_10 ⟨Nat.le_of_ble_eq_true rfl, Nat.le_of_ble_eq_true rfl⟩ ⟨rfl, rfl⟩ hq hf (fun u3 σ4 hf => ?_)
  refine g_aload_n X dX2_carry_13 0 rfl rfl ?_
  refine g_get (q := 0) (kf := 4) (v := .ref (adr C 9)) X obj_x rfl infX2_carry_X2 (by decide) (by decide +kernel) rfl dX2_carry_14 ?_
  refine g_iload_n X dX2_carry_17 1 rfl rfl ?_
  refine g_iload_n X dX2_carry_18 2 rfl rfl ?_
  refine c_SI (vs := [.int v1, .int v2]) (rest := [.ref (adr C 9)]) X (kX2_wayOf (cL C) v1 v2 σ4) (fun s a hts => va_cwS 2 hts gX2_carry_X2_wayOf rfl rfl rfl (by decide +kernel) ⟨Nat.le_of_ble_eq_true rfl, Nat.le_of_ble_eq_true rfl⟩) rfl rfl rfl (Nat.le_of_ble_eq_true rfl) dX2_carry_19 ⟨Nat.le_of_ble_eq_true rfl, Nat.le_of_ble_eq_true rfl⟩ hf (fun u5 σ6 hf => ?_)
  refine g_iload_n X dX2_carry_22 3 rfl rfl ?_
  refine c_SI (vs := [.ref (adr C 9), .int u5, .int v3]) (rest := []) X (kX2_tell (cL C) 9 u5 v3 rfl σ6) (fun s a hts => va_cwS 3 hts gX2_carry_X2_tell rfl rfl rfl (by decide +kernel) ⟨Nat.le_of_ble_eq_true rfl, Nat.le_of_ble_eq_true rfl⟩) rfl rfl rfl (Nat.le_of_ble_eq_true rfl) dX2_carry_23 ⟨Nat.le_of_ble_eq_true rfl, Nat.le_of_ble_eq_true rfl⟩ hf (fun u7 σ8 hf => ?_)
  exact r_iretX X hq dX2_carry_26 hf
def fX2_carry (v1 : Int32) (v2 : Int32) (v3 : Int32) (σ : Mem) : Option (Sum Int32 Nat × Mem) := fX2_carry_e v1 v2 v3 σ
theorem kX2_carry (l : Launch) (v1 : Int32) (v2 : Int32) (v3 : Int32) (σ : Mem) : KXI l yX2_carry wsX2_carry rmX2_carry (fun ad => [.ref (ad 0), .int v1, .int v2, .int v3]) σ (fX2_carry v1 v2 v3 σ) := fun r hr => kt_of (by decide +kernel) rfl (fun _ => Nat.le_of_ble_eq_true rfl) (fun C X hne hq => tX2_carry_e X hne hq v1 v2 v3 σ hr)
/-! ### X2_take -/
abbrev rmX2_take : Room := { frames := 5, cells := 0, slots := 0, locals := 121 }
theorem infX2_take_X0 : ∀ w ∈ u_ws RX0 TX0 15, w ∈ wsX2_take := by decide +kernel
theorem infX2_take_X2 : ∀ w ∈ u_ws RX2 TX2 15, w ∈ wsX2_take := by decide +kernel
def fX2_take_45 (r9 : Int32 → Int32 → Mem → Option (Int32 × Mem)) (v2 : Int32) (v3 : Int32) (σ : Mem) : Option (Int32 × Mem) :=
  r9 v2 (v3 + 1) σ
set_option maxHeartbeats 4000000 in
set_option maxRecDepth 100000 in
theorem tX2_take_45 {C : Ctx} (X : CX C cX2_take 4 RX2 wsX2_take rmX2_take (some .int)) {r : Int32 × Mem} (hq : QI C r) (r9 : Int32 → Int32 → Mem → Option (Int32 × Mem)) (ih9 : ∀ (v2 : Int32) (v3 : Int32) (σ : Mem), r9 v2 v3 σ = some r → G C 4 0 0 9 [(0, .ref (adr C 0)), (1, .ref (adr C 13)), (2, .int v2), (3, .int v3)] [] σ) (v2 : Int32) (v3 : Int32) (σ : Mem) (hf : fX2_take_45 r9 v2 v3 σ = some r) : G C 4 0 0 45 [(0, .ref (adr C 0)), (1, .ref (adr C 13)), (2, .int v2), (3, .int v3)] [] σ := by
  unfold fX2_take_45 at hf
  refine g_iinc (v := (v3 + 1)) (L' := [(3, .int (v3 + 1)), (0, .ref (adr C 0)), (1, .ref (adr C 13)), (2, .int v2)]) X dX2_take_45 3 rfl rfl (by decide) rfl ?_
  refine g_goto (tgt := 9) X dX2_take_48 (by decide) ?_
  refine g_sub [1, 2, 3, 0] (L' := [(0, .ref (adr C 0)), (1, .ref (adr C 13)), (2, .int v2), (3, .int (v3 + 1))]) rfl ?_
  exact ih9 v2 (v3 + 1) σ hf
def fX2_take_9b (r9 : Int32 → Int32 → Mem → Option (Int32 × Mem)) (v2 : Int32) (v3 : Int32) (σ : Mem) : Option (Int32 × Mem) :=
  if (25 : Int32) ≤ v3 then (some (v2, σ))
  else (grd (inb v3 25) (grd (inb v3 25) (if (rI σ 9 (ix v3)) = (rI σ 16 (ix v3)) then (fX2_take_45 r9 v2 v3 σ)
  else (grd (inb v3 25) (grd (inb v3 25) (ltM (wI σ 9 (ix v3) (rI σ 16 (ix v3))) fun σ1 =>
  fX2_take_45 r9 (v2 + 1) v3 σ1))))))
def fX2_take_9 : Nat → Int32 → Int32 → Mem → Option (Int32 × Mem)
  | 0 => fun _ _ _ => none
  | n + 1 => fX2_take_9b (fX2_take_9 n)
set_option maxHeartbeats 4000000 in
set_option maxRecDepth 100000 in
theorem tX2_take_9b {C : Ctx} (X : CX C cX2_take 4 RX2 wsX2_take rmX2_take (some .int)) {r : Int32 × Mem} (hq : QI C r) (r9 : Int32 → Int32 → Mem → Option (Int32 × Mem)) (ih9 : ∀ (v2 : Int32) (v3 : Int32) (σ : Mem), r9 v2 v3 σ = some r → G C 4 0 0 9 [(0, .ref (adr C 0)), (1, .ref (adr C 13)), (2, .int v2), (3, .int v3)] [] σ) (v2 : Int32) (v3 : Int32) (σ : Mem) (hf : fX2_take_9b r9 v2 v3 σ = some r) : G C 4 0 0 9 [(0, .ref (adr C 0)), (1, .ref (adr C 13)), (2, .int v2), (3, .int v3)] [] σ := by
  unfold fX2_take_9b at hf
  refine g_iload_n X dX2_take_9 3 rfl rfl ?_
  refine g_bipush (v := (25 : Int32)) X dX2_take_10 (by decide) ?_
  refine g_icmp_ge (tgt := 51) X dX2_take_12 (by decide) hf (fun hf => ?_) (fun hf => ?_)
  · refine g_iload_n X dX2_take_51 2 rfl rfl ?_
    exact r_iret X hq dX2_take_52 hf
  · refine g_aload_n X dX2_take_15 0 rfl rfl ?_
    refine g_get (q := 0) (kf := 4) (v := .ref (adr C 9)) X obj_x rfl infX2_take_X2 (by decide) (by decide +kernel) rfl dX2_take_16 ?_
    refine g_iload_n X dX2_take_19 3 rfl rfl ?_
    refine g_iald (q := 9) (n := 25) X rfl rfl dX2_take_20 hf (fun hf => ?_)
    refine g_aload_n X dX2_take_21 1 rfl rfl ?_
    refine g_get (q := 13) (kf := 2) (v := .ref (adr C 16)) X (obj_p (k := 13) rfl) rfl infX2_take_X0 (by decide) (by decide +kernel) rfl dX2_take_22 ?_
    refine g_iload_n X dX2_take_25 3 rfl rfl ?_
    refine g_iald (q := 16) (n := 25) X rfl rfl dX2_take_26 hf (fun hf => ?_)
    refine g_icmp_eq (tgt := 45) X dX2_take_27 (by decide) hf (fun hf => ?_) (fun hf => ?_)
    · exact tX2_take_45 X hq r9 ih9 v2 v3 σ hf
    · refine g_iinc (v := (v2 + 1)) (L' := [(2, .int (v2 + 1)), (0, .ref (adr C 0)), (1, .ref (adr C 13)), (3, .int v3)]) X dX2_take_30 2 rfl rfl (by decide) rfl ?_
      refine g_aload_n X dX2_take_33 1 rfl rfl ?_
      refine g_get (q := 0) (kf := 4) (v := .ref (adr C 9)) X obj_x rfl infX2_take_X2 (by decide) (by decide +kernel) rfl dX2_take_34 ?_
      refine g_iload_n X dX2_take_37 3 rfl rfl ?_
      refine g_aload_n X dX2_take_38 2 rfl rfl ?_
      refine g_get (q := 13) (kf := 2) (v := .ref (adr C 16)) X (obj_p (k := 13) rfl) rfl infX2_take_X0 (by decide) (by decide +kernel) rfl dX2_take_39 ?_
      refine g_iload_n X dX2_take_42 3 rfl rfl ?_
      refine g_iald (q := 16) (n := 25) X rfl rfl dX2_take_43 hf (fun hf => ?_)
      refine s_iast (q := 9) (n := 25) X rfl rfl dX2_take_44 hf (fun σ1 hf => ?_)
      refine g_sub [1, 2, 0, 3] (L' := [(0, .ref (adr C 0)), (1, .ref (adr C 13)), (2, .int (v2 + 1)), (3, .int v3)]) rfl ?_
      exact tX2_take_45 X hq r9 ih9 (v2 + 1) v3 σ1 hf
set_option maxHeartbeats 4000000 in
set_option maxRecDepth 100000 in
theorem tX2_take_9 {C : Ctx} (X : CX C cX2_take 4 RX2 wsX2_take rmX2_take (some .int)) {r : Int32 × Mem} (hq : QI C r) : ∀ (n : Nat) (v2 : Int32) (v3 : Int32) (σ : Mem) (hf : fX2_take_9 n v2 v3 σ = some r), G C 4 0 0 9 [(0, .ref (adr C 0)), (1, .ref (adr C 13)), (2, .int v2), (3, .int v3)] [] σ := by
  intro n
  induction n with
  | zero => intros; rename_i hf; exact absurd (show (none : Option (Int32 × Mem)) = some r from hf) (by simp)
  | succ n ih =>
    intro v2 v3 σ hf
    exact tX2_take_9b X hq (fX2_take_9 n) (fun v2 v3 σ hf => ih v2 v3 σ hf) v2 v3 σ hf
def fX2_take_e (σ : Mem) : Option (Int32 × Mem) :=
  bnd (fX2_planned σ) fun u1 σ2 =>
  grd (decide (u1 = 13)) (fX2_take_9 FU (0 : Int32) (0 : Int32) σ2)
set_option maxHeartbeats 4000000 in
set_option maxRecDepth 100000 in
theorem tX2_take_e {C : Ctx} (X : CX C cX2_take 4 RX2 wsX2_take rmX2_take (some .int)) {r : Int32 × Mem} (hq : QI C r) (σ : Mem) (hf : fX2_take_e σ = some r) : G C 4 0 0 0 [(0, .ref (adr C 0))] [] σ := by
  unfold fX2_take_e at hf
  refine g_aload_n X dX2_take_0 0 rfl rfl ?_
  refine c_VR (q := 0) (vs := []) (rest := []) X (kX2_planned (cL C) σ) (fun s a hts => cwV 0 hts gX2_take_X2_planned rfl rfl rfl (by decide +kernel) ⟨Nat.le_of_ble_eq_true rfl, Nat.le_of_ble_eq_true rfl⟩) obj_x (rfl : vwCl[2]? = some (RX2, TX2, 15)) rfl rfl rfl rfl (Nat.le_of_ble_eq_true rfl) dX2_take_1 ⟨Nat.le_of_ble_eq_true rfl, Nat.le_of_ble_eq_true rfl⟩ hf (fun u1 σ2 hf => ?_)
  replace hf := grd_some hf
  obtain ⟨hg, hf⟩ := hf
  replace hg := of_decide_eq_true hg
  subst hg
  refine g_astore_n (L' := [(1, .ref (adr C 13)), (0, .ref (adr C 0))]) X dX2_take_4 rfl (by decide) rfl ?_
  refine g_iconst (v := (0 : Int32)) X dX2_take_5 (by decide) ?_
  refine g_istore_n (L' := [(2, .int (0 : Int32)), (1, .ref (adr C 13)), (0, .ref (adr C 0))]) X dX2_take_6 rfl (by decide) rfl ?_
  refine g_iconst (v := (0 : Int32)) X dX2_take_7 (by decide) ?_
  refine g_istore_n (L' := [(3, .int (0 : Int32)), (2, .int (0 : Int32)), (1, .ref (adr C 13)), (0, .ref (adr C 0))]) X dX2_take_8 rfl (by decide) rfl ?_
  refine g_sub [3, 2, 1, 0] (L' := [(0, .ref (adr C 0)), (1, .ref (adr C 13)), (2, .int (0 : Int32)), (3, .int (0 : Int32))]) rfl ?_
  exact tX2_take_9 X hq FU (0 : Int32) (0 : Int32) σ2 hf
def fX2_take (σ : Mem) : Option (Int32 × Mem) := fX2_take_e σ
theorem kX2_take (l : Launch) (σ : Mem) : KI l yX2_take wsX2_take rmX2_take (fun ad => [.ref (ad 0)]) σ (fX2_take σ) := fun r hr => kt_of (by decide +kernel) rfl (fun _ => Nat.le_of_ble_eq_true rfl) (fun C X hne hq => tX2_take_e X hq σ hr)
/-! ### X2_handFrom -/
abbrev rmX2_handFrom : Room := { frames := 1, cells := 0, slots := 0, locals := 29 }
theorem infX2_handFrom_X1 : ∀ w ∈ u_ws RX1 TX1 3, w ∈ wsX2_handFrom := by decide +kernel
theorem infX2_handFrom_X2 : ∀ w ∈ u_ws RX2 TX2 15, w ∈ wsX2_handFrom := by decide +kernel
def fX2_handFrom_4b (r4 : Int32 → Int32 → Int32 → Mem → Option (Int32 × Mem)) (v1 : Int32) (v2 : Int32) (v3 : Int32) (σ : Mem) : Option (Int32 × Mem) :=
  if (rI σ 4 2) ≤ v3 then (some (v2, σ))
  else (bnd (fX2_wayOf v1 v3 σ) fun u1 σ2 =>
  grd (inb u1 25) (ltI (v2 + (rI σ2 9 (ix u1))) fun x3 =>
  r4 v1 x3 (v3 + 1) σ2))
def fX2_handFrom_4 : Nat → Int32 → Int32 → Int32 → Mem → Option (Int32 × Mem)
  | 0 => fun _ _ _ _ => none
  | n + 1 => fX2_handFrom_4b (fX2_handFrom_4 n)
set_option maxHeartbeats 4000000 in
set_option maxRecDepth 100000 in
theorem tX2_handFrom_4b {C : Ctx} (X : CX C cX2_handFrom 4 RX2 wsX2_handFrom rmX2_handFrom (some .int)) {r : Int32 × Mem} (hq : QI C r) (r4 : Int32 → Int32 → Int32 → Mem → Option (Int32 × Mem)) (ih4 : ∀ (v1 : Int32) (v2 : Int32) (v3 : Int32) (σ : Mem), r4 v1 v2 v3 σ = some r → G C 4 0 0 4 [(0, .ref (adr C 0)), (1, .int v1), (2, .int v2), (3, .int v3)] [] σ) (v1 : Int32) (v2 : Int32) (v3 : Int32) (σ : Mem) (hf : fX2_handFrom_4b r4 v1 v2 v3 σ = some r) : G C 4 0 0 4 [(0, .ref (adr C 0)), (1, .int v1), (2, .int v2), (3, .int v3)] [] σ := by
  unfold fX2_handFrom_4b at hf
  refine g_iload_n X dX2_handFrom_4 3 rfl rfl ?_
  refine g_aload_n X dX2_handFrom_5 0 rfl rfl ?_
  refine g_get (q := 0) (kf := 1) (v := .ref (adr C 4)) X obj_x rfl infX2_handFrom_X2 (by decide) (by decide +kernel) rfl dX2_handFrom_6 ?_
  refine g_get (q := 4) (kf := 2) (v := .int (rI σ 4 2)) X (obj_s (k := 4) rfl) rfl infX2_handFrom_X1 (by decide) (by decide +kernel) rfl dX2_handFrom_9 ?_
  refine g_icmp_ge (tgt := 34) X dX2_handFrom_12 (by decide) hf (fun hf => ?_) (fun hf => ?_)
  · refine g_iload_n X dX2_handFrom_34 2 rfl rfl ?_
    exact r_iret X hq dX2_handFrom_35 hf
  · refine g_iload_n X dX2_handFrom_15 2 rfl rfl ?_
    refine g_aload_n X dX2_handFrom_16 0 rfl rfl ?_
    refine g_get (q := 0) (kf := 4) (v := .ref (adr C 9)) X obj_x rfl infX2_handFrom_X2 (by decide) (by decide +kernel) rfl dX2_handFrom_17 ?_
    refine g_iload_n X dX2_handFrom_20 1 rfl rfl ?_
    refine g_iload_n X dX2_handFrom_21 3 rfl rfl ?_
    refine c_SI (vs := [.int v1, .int v3]) (rest := [.ref (adr C 9), .int v2]) X (kX2_wayOf (cL C) v1 v3 σ) (fun s a hts => va_cwS 2 hts gX2_handFrom_X2_wayOf rfl rfl rfl (by decide +kernel) ⟨Nat.le_of_ble_eq_true rfl, Nat.le_of_ble_eq_true rfl⟩) rfl rfl rfl (Nat.le_of_ble_eq_true rfl) dX2_handFrom_22 ⟨Nat.le_of_ble_eq_true rfl, Nat.le_of_ble_eq_true rfl⟩ hf (fun u1 σ2 hf => ?_)
    refine g_iald (q := 9) (n := 25) X rfl rfl dX2_handFrom_25 hf (fun hf => ?_)
    refine g_iadd X dX2_handFrom_26 ?_
    refine s_istore_n (M := fun x3 => [(2, .int x3), (0, .ref (adr C 0)), (1, .int v1), (3, .int v3)]) X dX2_handFrom_27 rfl (by decide) (fun _ => rfl) hf (fun x3 hf => ?_)
    refine g_iinc (v := (v3 + 1)) (L' := [(3, .int (v3 + 1)), (2, .int x3), (0, .ref (adr C 0)), (1, .int v1)]) X dX2_handFrom_28 3 rfl rfl (by decide) rfl ?_
    refine g_goto (tgt := 4) X dX2_handFrom_31 (by decide) ?_
    refine g_sub [2, 3, 1, 0] (L' := [(0, .ref (adr C 0)), (1, .int v1), (2, .int x3), (3, .int (v3 + 1))]) rfl ?_
    exact ih4 v1 x3 (v3 + 1) σ2 hf
set_option maxHeartbeats 4000000 in
set_option maxRecDepth 100000 in
theorem tX2_handFrom_4 {C : Ctx} (X : CX C cX2_handFrom 4 RX2 wsX2_handFrom rmX2_handFrom (some .int)) {r : Int32 × Mem} (hq : QI C r) : ∀ (n : Nat) (v1 : Int32) (v2 : Int32) (v3 : Int32) (σ : Mem) (hf : fX2_handFrom_4 n v1 v2 v3 σ = some r), G C 4 0 0 4 [(0, .ref (adr C 0)), (1, .int v1), (2, .int v2), (3, .int v3)] [] σ := by
  intro n
  induction n with
  | zero => intros; rename_i hf; exact absurd (show (none : Option (Int32 × Mem)) = some r from hf) (by simp)
  | succ n ih =>
    intro v1 v2 v3 σ hf
    exact tX2_handFrom_4b X hq (fX2_handFrom_4 n) (fun v1 v2 v3 σ hf => ih v1 v2 v3 σ hf) v1 v2 v3 σ hf
def fX2_handFrom_e (v1 : Int32) (σ : Mem) : Option (Int32 × Mem) :=
  fX2_handFrom_4 FU v1 (0 : Int32) (0 : Int32) σ
set_option maxHeartbeats 4000000 in
set_option maxRecDepth 100000 in
theorem tX2_handFrom_e {C : Ctx} (X : CX C cX2_handFrom 4 RX2 wsX2_handFrom rmX2_handFrom (some .int)) {r : Int32 × Mem} (hq : QI C r) (v1 : Int32) (σ : Mem) (hf : fX2_handFrom_e v1 σ = some r) : G C 4 0 0 0 [(0, .ref (adr C 0)), (1, .int v1)] [] σ := by
  unfold fX2_handFrom_e at hf
  refine g_iconst (v := (0 : Int32)) X dX2_handFrom_0 (by decide) ?_
  refine g_istore_n (L' := [(2, .int (0 : Int32)), (0, .ref (adr C 0)), (1, .int v1)]) X dX2_handFrom_1 rfl (by decide) rfl ?_
  refine g_iconst (v := (0 : Int32)) X dX2_handFrom_2 (by decide) ?_
  refine g_istore_n (L' := [(3, .int (0 : Int32)), (2, .int (0 : Int32)), (0, .ref (adr C 0)), (1, .int v1)]) X dX2_handFrom_3 rfl (by decide) rfl ?_
  refine g_sub [2, 3, 1, 0] (L' := [(0, .ref (adr C 0)), (1, .int v1), (2, .int (0 : Int32)), (3, .int (0 : Int32))]) rfl ?_
  exact tX2_handFrom_4 X hq FU v1 (0 : Int32) (0 : Int32) σ hf
def fX2_handFrom (v1 : Int32) (σ : Mem) : Option (Int32 × Mem) := fX2_handFrom_e v1 σ
theorem kX2_handFrom (l : Launch) (v1 : Int32) (σ : Mem) : KI l yX2_handFrom wsX2_handFrom rmX2_handFrom (fun ad => [.ref (ad 0), .int v1]) σ (fX2_handFrom v1 σ) := fun r hr => kt_of (by decide +kernel) rfl (fun _ => Nat.le_of_ble_eq_true rfl) (fun C X hne hq => tX2_handFrom_e X hq v1 σ hr)
/-! ### X2_handTo -/
abbrev rmX2_handTo : Room := { frames := 1, cells := 0, slots := 0, locals := 29 }
theorem infX2_handTo_X1 : ∀ w ∈ u_ws RX1 TX1 3, w ∈ wsX2_handTo := by decide +kernel
theorem infX2_handTo_X2 : ∀ w ∈ u_ws RX2 TX2 15, w ∈ wsX2_handTo := by decide +kernel
def fX2_handTo_4b (r4 : Int32 → Int32 → Int32 → Mem → Option (Int32 × Mem)) (v1 : Int32) (v2 : Int32) (v3 : Int32) (σ : Mem) : Option (Int32 × Mem) :=
  if (rI σ 1 2) ≤ v3 then (some (v2, σ))
  else (bnd (fX2_wayOf v3 v1 σ) fun u1 σ2 =>
  grd (inb u1 25) (ltI (v2 + (rI σ2 9 (ix u1))) fun x3 =>
  r4 v1 x3 (v3 + 1) σ2))
def fX2_handTo_4 : Nat → Int32 → Int32 → Int32 → Mem → Option (Int32 × Mem)
  | 0 => fun _ _ _ _ => none
  | n + 1 => fX2_handTo_4b (fX2_handTo_4 n)
set_option maxHeartbeats 4000000 in
set_option maxRecDepth 100000 in
theorem tX2_handTo_4b {C : Ctx} (X : CX C cX2_handTo 4 RX2 wsX2_handTo rmX2_handTo (some .int)) {r : Int32 × Mem} (hq : QI C r) (r4 : Int32 → Int32 → Int32 → Mem → Option (Int32 × Mem)) (ih4 : ∀ (v1 : Int32) (v2 : Int32) (v3 : Int32) (σ : Mem), r4 v1 v2 v3 σ = some r → G C 4 0 0 4 [(0, .ref (adr C 0)), (1, .int v1), (2, .int v2), (3, .int v3)] [] σ) (v1 : Int32) (v2 : Int32) (v3 : Int32) (σ : Mem) (hf : fX2_handTo_4b r4 v1 v2 v3 σ = some r) : G C 4 0 0 4 [(0, .ref (adr C 0)), (1, .int v1), (2, .int v2), (3, .int v3)] [] σ := by
  unfold fX2_handTo_4b at hf
  refine g_iload_n X dX2_handTo_4 3 rfl rfl ?_
  refine g_aload_n X dX2_handTo_5 0 rfl rfl ?_
  refine g_get (q := 0) (kf := 0) (v := .ref (adr C 1)) X obj_x rfl infX2_handTo_X2 (by decide) (by decide +kernel) rfl dX2_handTo_6 ?_
  refine g_get (q := 1) (kf := 2) (v := .int (rI σ 1 2)) X (obj_s (k := 1) rfl) rfl infX2_handTo_X1 (by decide) (by decide +kernel) rfl dX2_handTo_9 ?_
  refine g_icmp_ge (tgt := 34) X dX2_handTo_12 (by decide) hf (fun hf => ?_) (fun hf => ?_)
  · refine g_iload_n X dX2_handTo_34 2 rfl rfl ?_
    exact r_iret X hq dX2_handTo_35 hf
  · refine g_iload_n X dX2_handTo_15 2 rfl rfl ?_
    refine g_aload_n X dX2_handTo_16 0 rfl rfl ?_
    refine g_get (q := 0) (kf := 4) (v := .ref (adr C 9)) X obj_x rfl infX2_handTo_X2 (by decide) (by decide +kernel) rfl dX2_handTo_17 ?_
    refine g_iload_n X dX2_handTo_20 3 rfl rfl ?_
    refine g_iload_n X dX2_handTo_21 1 rfl rfl ?_
    refine c_SI (vs := [.int v3, .int v1]) (rest := [.ref (adr C 9), .int v2]) X (kX2_wayOf (cL C) v3 v1 σ) (fun s a hts => va_cwS 2 hts gX2_handTo_X2_wayOf rfl rfl rfl (by decide +kernel) ⟨Nat.le_of_ble_eq_true rfl, Nat.le_of_ble_eq_true rfl⟩) rfl rfl rfl (Nat.le_of_ble_eq_true rfl) dX2_handTo_22 ⟨Nat.le_of_ble_eq_true rfl, Nat.le_of_ble_eq_true rfl⟩ hf (fun u1 σ2 hf => ?_)
    refine g_iald (q := 9) (n := 25) X rfl rfl dX2_handTo_25 hf (fun hf => ?_)
    refine g_iadd X dX2_handTo_26 ?_
    refine s_istore_n (M := fun x3 => [(2, .int x3), (0, .ref (adr C 0)), (1, .int v1), (3, .int v3)]) X dX2_handTo_27 rfl (by decide) (fun _ => rfl) hf (fun x3 hf => ?_)
    refine g_iinc (v := (v3 + 1)) (L' := [(3, .int (v3 + 1)), (2, .int x3), (0, .ref (adr C 0)), (1, .int v1)]) X dX2_handTo_28 3 rfl rfl (by decide) rfl ?_
    refine g_goto (tgt := 4) X dX2_handTo_31 (by decide) ?_
    refine g_sub [2, 3, 1, 0] (L' := [(0, .ref (adr C 0)), (1, .int v1), (2, .int x3), (3, .int (v3 + 1))]) rfl ?_
    exact ih4 v1 x3 (v3 + 1) σ2 hf
set_option maxHeartbeats 4000000 in
set_option maxRecDepth 100000 in
theorem tX2_handTo_4 {C : Ctx} (X : CX C cX2_handTo 4 RX2 wsX2_handTo rmX2_handTo (some .int)) {r : Int32 × Mem} (hq : QI C r) : ∀ (n : Nat) (v1 : Int32) (v2 : Int32) (v3 : Int32) (σ : Mem) (hf : fX2_handTo_4 n v1 v2 v3 σ = some r), G C 4 0 0 4 [(0, .ref (adr C 0)), (1, .int v1), (2, .int v2), (3, .int v3)] [] σ := by
  intro n
  induction n with
  | zero => intros; rename_i hf; exact absurd (show (none : Option (Int32 × Mem)) = some r from hf) (by simp)
  | succ n ih =>
    intro v1 v2 v3 σ hf
    exact tX2_handTo_4b X hq (fX2_handTo_4 n) (fun v1 v2 v3 σ hf => ih v1 v2 v3 σ hf) v1 v2 v3 σ hf
def fX2_handTo_e (v1 : Int32) (σ : Mem) : Option (Int32 × Mem) :=
  fX2_handTo_4 FU v1 (0 : Int32) (0 : Int32) σ
set_option maxHeartbeats 4000000 in
set_option maxRecDepth 100000 in
theorem tX2_handTo_e {C : Ctx} (X : CX C cX2_handTo 4 RX2 wsX2_handTo rmX2_handTo (some .int)) {r : Int32 × Mem} (hq : QI C r) (v1 : Int32) (σ : Mem) (hf : fX2_handTo_e v1 σ = some r) : G C 4 0 0 0 [(0, .ref (adr C 0)), (1, .int v1)] [] σ := by
  unfold fX2_handTo_e at hf
  refine g_iconst (v := (0 : Int32)) X dX2_handTo_0 (by decide) ?_
  refine g_istore_n (L' := [(2, .int (0 : Int32)), (0, .ref (adr C 0)), (1, .int v1)]) X dX2_handTo_1 rfl (by decide) rfl ?_
  refine g_iconst (v := (0 : Int32)) X dX2_handTo_2 (by decide) ?_
  refine g_istore_n (L' := [(3, .int (0 : Int32)), (2, .int (0 : Int32)), (0, .ref (adr C 0)), (1, .int v1)]) X dX2_handTo_3 rfl (by decide) rfl ?_
  refine g_sub [2, 3, 1, 0] (L' := [(0, .ref (adr C 0)), (1, .int v1), (2, .int (0 : Int32)), (3, .int (0 : Int32))]) rfl ?_
  exact tX2_handTo_4 X hq FU v1 (0 : Int32) (0 : Int32) σ hf
def fX2_handTo (v1 : Int32) (σ : Mem) : Option (Int32 × Mem) := fX2_handTo_e v1 σ
theorem kX2_handTo (l : Launch) (v1 : Int32) (σ : Mem) : KI l yX2_handTo wsX2_handTo rmX2_handTo (fun ad => [.ref (ad 0), .int v1]) σ (fX2_handTo v1 σ) := fun r hr => kt_of (by decide +kernel) rfl (fun _ => Nat.le_of_ble_eq_true rfl) (fun C X hne hq => tX2_handTo_e X hq v1 σ hr)
/-! ### X2_faultByHand -/
abbrev rmX2_faultByHand : Room := { frames := 2, cells := 0, slots := 0, locals := 52 }
theorem infX2_faultByHand_X1 : ∀ w ∈ u_ws RX1 TX1 3, w ∈ wsX2_faultByHand := by decide +kernel
theorem infX2_faultByHand_X2 : ∀ w ∈ u_ws RX2 TX2 15, w ∈ wsX2_faultByHand := by decide +kernel
def fX2_faultByHand_111 (r78 : Int32 → Mem → Option (Int32 × Mem)) (v1 : Int32) (σ : Mem) : Option (Int32 × Mem) :=
  r78 (v1 + 1) σ
set_option maxHeartbeats 4000000 in
set_option maxRecDepth 100000 in
theorem tX2_faultByHand_111 {C : Ctx} (X : CX C cX2_faultByHand 2 RX2 wsX2_faultByHand rmX2_faultByHand (some .int)) {r : Int32 × Mem} (hq : QI C r) (r78 : Int32 → Mem → Option (Int32 × Mem)) (ih78 : ∀ (v1 : Int32) (σ : Mem), r78 v1 σ = some r → G C 2 0 0 78 [(0, .ref (adr C 0)), (1, .int v1)] [] σ) (v1 : Int32) (σ : Mem) (hf : fX2_faultByHand_111 r78 v1 σ = some r) : G C 2 0 0 111 [(0, .ref (adr C 0)), (1, .int v1)] [] σ := by
  unfold fX2_faultByHand_111 at hf
  refine g_iinc (v := (v1 + 1)) (L' := [(1, .int (v1 + 1)), (0, .ref (adr C 0))]) X dX2_faultByHand_111 1 rfl rfl (by decide) rfl ?_
  refine g_goto (tgt := 78) X dX2_faultByHand_114 (by decide) ?_
  refine g_sub [1, 0] (L' := [(0, .ref (adr C 0)), (1, .int (v1 + 1))]) rfl ?_
  exact ih78 (v1 + 1) σ hf
def fX2_faultByHand_78b (r78 : Int32 → Mem → Option (Int32 × Mem)) (v1 : Int32) (σ : Mem) : Option (Int32 × Mem) :=
  if (25 : Int32) ≤ v1 then (some ((0 : Int32), σ))
  else (grd (inb v1 25) (if (rI σ 8 (ix v1)) = (-1 : Int32) then (fX2_faultByHand_111 r78 v1 σ)
  else (grd (inb v1 25) (grd (inb v1 25) (if (rI σ 9 (ix v1)) ≤ (rI σ 8 (ix v1)) then (fX2_faultByHand_111 r78 v1 σ)
  else (some ((3 : Int32), σ)))))))
def fX2_faultByHand_78 : Nat → Int32 → Mem → Option (Int32 × Mem)
  | 0 => fun _ _ => none
  | n + 1 => fX2_faultByHand_78b (fX2_faultByHand_78 n)
set_option maxHeartbeats 4000000 in
set_option maxRecDepth 100000 in
theorem tX2_faultByHand_78b {C : Ctx} (X : CX C cX2_faultByHand 2 RX2 wsX2_faultByHand rmX2_faultByHand (some .int)) {r : Int32 × Mem} (hq : QI C r) (r78 : Int32 → Mem → Option (Int32 × Mem)) (ih78 : ∀ (v1 : Int32) (σ : Mem), r78 v1 σ = some r → G C 2 0 0 78 [(0, .ref (adr C 0)), (1, .int v1)] [] σ) (v1 : Int32) (σ : Mem) (hf : fX2_faultByHand_78b r78 v1 σ = some r) : G C 2 0 0 78 [(0, .ref (adr C 0)), (1, .int v1)] [] σ := by
  unfold fX2_faultByHand_78b at hf
  refine g_iload_n X dX2_faultByHand_78 1 rfl rfl ?_
  refine g_bipush (v := (25 : Int32)) X dX2_faultByHand_79 (by decide) ?_
  refine g_icmp_ge (tgt := 117) X dX2_faultByHand_81 (by decide) hf (fun hf => ?_) (fun hf => ?_)
  · refine g_iconst (v := (0 : Int32)) X dX2_faultByHand_117 (by decide) ?_
    exact r_iret X hq dX2_faultByHand_118 hf
  · refine g_aload_n X dX2_faultByHand_84 0 rfl rfl ?_
    refine g_get (q := 0) (kf := 3) (v := .ref (adr C 8)) X obj_x rfl infX2_faultByHand_X2 (by decide) (by decide +kernel) rfl dX2_faultByHand_85 ?_
    refine g_iload_n X dX2_faultByHand_88 1 rfl rfl ?_
    refine g_iald (q := 8) (n := 25) X rfl rfl dX2_faultByHand_89 hf (fun hf => ?_)
    refine g_iconst (v := (-1 : Int32)) X dX2_faultByHand_90 (by decide) ?_
    refine g_icmp_eq (tgt := 111) X dX2_faultByHand_91 (by decide) hf (fun hf => ?_) (fun hf => ?_)
    · exact tX2_faultByHand_111 X hq r78 ih78 v1 σ hf
    · refine g_aload_n X dX2_faultByHand_94 0 rfl rfl ?_
      refine g_get (q := 0) (kf := 4) (v := .ref (adr C 9)) X obj_x rfl infX2_faultByHand_X2 (by decide) (by decide +kernel) rfl dX2_faultByHand_95 ?_
      refine g_iload_n X dX2_faultByHand_98 1 rfl rfl ?_
      refine g_iald (q := 9) (n := 25) X rfl rfl dX2_faultByHand_99 hf (fun hf => ?_)
      refine g_aload_n X dX2_faultByHand_100 0 rfl rfl ?_
      refine g_get (q := 0) (kf := 3) (v := .ref (adr C 8)) X obj_x rfl infX2_faultByHand_X2 (by decide) (by decide +kernel) rfl dX2_faultByHand_101 ?_
      refine g_iload_n X dX2_faultByHand_104 1 rfl rfl ?_
      refine g_iald (q := 8) (n := 25) X rfl rfl dX2_faultByHand_105 hf (fun hf => ?_)
      refine g_icmp_le (tgt := 111) X dX2_faultByHand_106 (by decide) hf (fun hf => ?_) (fun hf => ?_)
      · exact tX2_faultByHand_111 X hq r78 ih78 v1 σ hf
      · refine g_iconst (v := (3 : Int32)) X dX2_faultByHand_109 (by decide) ?_
        exact r_iret X hq dX2_faultByHand_110 hf
set_option maxHeartbeats 4000000 in
set_option maxRecDepth 100000 in
theorem tX2_faultByHand_78 {C : Ctx} (X : CX C cX2_faultByHand 2 RX2 wsX2_faultByHand rmX2_faultByHand (some .int)) {r : Int32 × Mem} (hq : QI C r) : ∀ (n : Nat) (v1 : Int32) (σ : Mem) (hf : fX2_faultByHand_78 n v1 σ = some r), G C 2 0 0 78 [(0, .ref (adr C 0)), (1, .int v1)] [] σ := by
  intro n
  induction n with
  | zero => intros; rename_i hf; exact absurd (show (none : Option (Int32 × Mem)) = some r from hf) (by simp)
  | succ n ih =>
    intro v1 σ hf
    exact tX2_faultByHand_78b X hq (fX2_faultByHand_78 n) (fun v1 σ hf => ih v1 σ hf) v1 σ hf
def fX2_faultByHand_40b (r40 : Int32 → Mem → Option (Int32 × Mem)) (v1 : Int32) (σ : Mem) : Option (Int32 × Mem) :=
  if (rI σ 4 2) ≤ v1 then (fX2_faultByHand_78 FU (0 : Int32) σ)
  else (bnd (fX2_handTo v1 σ) fun u1 σ2 =>
  grd (inb v1 5) (if u1 ≤ (rI σ2 6 (ix v1)) then (r40 (v1 + 1) σ2)
  else (some ((2 : Int32), σ2))))
def fX2_faultByHand_40 : Nat → Int32 → Mem → Option (Int32 × Mem)
  | 0 => fun _ _ => none
  | n + 1 => fX2_faultByHand_40b (fX2_faultByHand_40 n)
set_option maxHeartbeats 4000000 in
set_option maxRecDepth 100000 in
theorem tX2_faultByHand_40b {C : Ctx} (X : CX C cX2_faultByHand 2 RX2 wsX2_faultByHand rmX2_faultByHand (some .int)) {r : Int32 × Mem} (hq : QI C r) (r40 : Int32 → Mem → Option (Int32 × Mem)) (ih40 : ∀ (v1 : Int32) (σ : Mem), r40 v1 σ = some r → G C 2 0 0 40 [(0, .ref (adr C 0)), (1, .int v1)] [] σ) (v1 : Int32) (σ : Mem) (hf : fX2_faultByHand_40b r40 v1 σ = some r) : G C 2 0 0 40 [(0, .ref (adr C 0)), (1, .int v1)] [] σ := by
  unfold fX2_faultByHand_40b at hf
  refine g_iload_n X dX2_faultByHand_40 1 rfl rfl ?_
  refine g_aload_n X dX2_faultByHand_41 0 rfl rfl ?_
  refine g_get (q := 0) (kf := 1) (v := .ref (adr C 4)) X obj_x rfl infX2_faultByHand_X2 (by decide) (by decide +kernel) rfl dX2_faultByHand_42 ?_
  refine g_get (q := 4) (kf := 2) (v := .int (rI σ 4 2)) X (obj_s (k := 4) rfl) rfl infX2_faultByHand_X1 (by decide) (by decide +kernel) rfl dX2_faultByHand_45 ?_
  refine g_icmp_ge (tgt := 76) X dX2_faultByHand_48 (by decide) hf (fun hf => ?_) (fun hf => ?_)
  · refine g_iconst (v := (0 : Int32)) X dX2_faultByHand_76 (by decide) ?_
    refine g_istore_n (L' := [(1, .int (0 : Int32)), (0, .ref (adr C 0))]) X dX2_faultByHand_77 rfl (by decide) rfl ?_
    refine g_sub [1, 0] (L' := [(0, .ref (adr C 0)), (1, .int (0 : Int32))]) rfl ?_
    exact tX2_faultByHand_78 X hq FU (0 : Int32) σ hf
  · refine g_aload_n X dX2_faultByHand_51 0 rfl rfl ?_
    refine g_iload_n X dX2_faultByHand_52 1 rfl rfl ?_
    refine c_VI (q := 0) (vs := [.int v1]) (rest := []) X (kX2_handTo (cL C) v1 σ) (fun s a hts => cwV 1 hts gX2_faultByHand_X2_handTo rfl rfl rfl (by decide +kernel) ⟨Nat.le_of_ble_eq_true rfl, Nat.le_of_ble_eq_true rfl⟩) obj_x (rfl : vwCl[2]? = some (RX2, TX2, 15)) rfl rfl rfl rfl (Nat.le_of_ble_eq_true rfl) dX2_faultByHand_53 ⟨Nat.le_of_ble_eq_true rfl, Nat.le_of_ble_eq_true rfl⟩ hf (fun u1 σ2 hf => ?_)
    refine g_aload_n X dX2_faultByHand_56 0 rfl rfl ?_
    refine g_get (q := 0) (kf := 1) (v := .ref (adr C 4)) X obj_x rfl infX2_faultByHand_X2 (by decide) (by decide +kernel) rfl dX2_faultByHand_57 ?_
    refine g_get (q := 4) (kf := 1) (v := .ref (adr C 6)) X (obj_s (k := 4) rfl) rfl infX2_faultByHand_X1 (by decide) (by decide +kernel) rfl dX2_faultByHand_60 ?_
    refine g_iload_n X dX2_faultByHand_63 1 rfl rfl ?_
    refine g_iald (q := 6) (n := 5) X rfl rfl dX2_faultByHand_64 hf (fun hf => ?_)
    refine g_icmp_le (tgt := 70) X dX2_faultByHand_65 (by decide) hf (fun hf => ?_) (fun hf => ?_)
    · refine g_iinc (v := (v1 + 1)) (L' := [(1, .int (v1 + 1)), (0, .ref (adr C 0))]) X dX2_faultByHand_70 1 rfl rfl (by decide) rfl ?_
      refine g_goto (tgt := 40) X dX2_faultByHand_73 (by decide) ?_
      refine g_sub [1, 0] (L' := [(0, .ref (adr C 0)), (1, .int (v1 + 1))]) rfl ?_
      exact ih40 (v1 + 1) σ2 hf
    · refine g_iconst (v := (2 : Int32)) X dX2_faultByHand_68 (by decide) ?_
      exact r_iret X hq dX2_faultByHand_69 hf
set_option maxHeartbeats 4000000 in
set_option maxRecDepth 100000 in
theorem tX2_faultByHand_40 {C : Ctx} (X : CX C cX2_faultByHand 2 RX2 wsX2_faultByHand rmX2_faultByHand (some .int)) {r : Int32 × Mem} (hq : QI C r) : ∀ (n : Nat) (v1 : Int32) (σ : Mem) (hf : fX2_faultByHand_40 n v1 σ = some r), G C 2 0 0 40 [(0, .ref (adr C 0)), (1, .int v1)] [] σ := by
  intro n
  induction n with
  | zero => intros; rename_i hf; exact absurd (show (none : Option (Int32 × Mem)) = some r from hf) (by simp)
  | succ n ih =>
    intro v1 σ hf
    exact tX2_faultByHand_40b X hq (fX2_faultByHand_40 n) (fun v1 σ hf => ih v1 σ hf) v1 σ hf
def fX2_faultByHand_2b (r2 : Int32 → Mem → Option (Int32 × Mem)) (v1 : Int32) (σ : Mem) : Option (Int32 × Mem) :=
  if (rI σ 1 2) ≤ v1 then (fX2_faultByHand_40 FU (0 : Int32) σ)
  else (bnd (fX2_handFrom v1 σ) fun u1 σ2 =>
  grd (inb v1 5) (if u1 ≤ (rI σ2 3 (ix v1)) then (r2 (v1 + 1) σ2)
  else (some ((1 : Int32), σ2))))
def fX2_faultByHand_2 : Nat → Int32 → Mem → Option (Int32 × Mem)
  | 0 => fun _ _ => none
  | n + 1 => fX2_faultByHand_2b (fX2_faultByHand_2 n)
set_option maxHeartbeats 4000000 in
set_option maxRecDepth 100000 in
theorem tX2_faultByHand_2b {C : Ctx} (X : CX C cX2_faultByHand 2 RX2 wsX2_faultByHand rmX2_faultByHand (some .int)) {r : Int32 × Mem} (hq : QI C r) (r2 : Int32 → Mem → Option (Int32 × Mem)) (ih2 : ∀ (v1 : Int32) (σ : Mem), r2 v1 σ = some r → G C 2 0 0 2 [(0, .ref (adr C 0)), (1, .int v1)] [] σ) (v1 : Int32) (σ : Mem) (hf : fX2_faultByHand_2b r2 v1 σ = some r) : G C 2 0 0 2 [(0, .ref (adr C 0)), (1, .int v1)] [] σ := by
  unfold fX2_faultByHand_2b at hf
  refine g_iload_n X dX2_faultByHand_2 1 rfl rfl ?_
  refine g_aload_n X dX2_faultByHand_3 0 rfl rfl ?_
  refine g_get (q := 0) (kf := 0) (v := .ref (adr C 1)) X obj_x rfl infX2_faultByHand_X2 (by decide) (by decide +kernel) rfl dX2_faultByHand_4 ?_
  refine g_get (q := 1) (kf := 2) (v := .int (rI σ 1 2)) X (obj_s (k := 1) rfl) rfl infX2_faultByHand_X1 (by decide) (by decide +kernel) rfl dX2_faultByHand_7 ?_
  refine g_icmp_ge (tgt := 38) X dX2_faultByHand_10 (by decide) hf (fun hf => ?_) (fun hf => ?_)
  · refine g_iconst (v := (0 : Int32)) X dX2_faultByHand_38 (by decide) ?_
    refine g_istore_n (L' := [(1, .int (0 : Int32)), (0, .ref (adr C 0))]) X dX2_faultByHand_39 rfl (by decide) rfl ?_
    refine g_sub [1, 0] (L' := [(0, .ref (adr C 0)), (1, .int (0 : Int32))]) rfl ?_
    exact tX2_faultByHand_40 X hq FU (0 : Int32) σ hf
  · refine g_aload_n X dX2_faultByHand_13 0 rfl rfl ?_
    refine g_iload_n X dX2_faultByHand_14 1 rfl rfl ?_
    refine c_VI (q := 0) (vs := [.int v1]) (rest := []) X (kX2_handFrom (cL C) v1 σ) (fun s a hts => cwV 1 hts gX2_faultByHand_X2_handFrom rfl rfl rfl (by decide +kernel) ⟨Nat.le_of_ble_eq_true rfl, Nat.le_of_ble_eq_true rfl⟩) obj_x (rfl : vwCl[2]? = some (RX2, TX2, 15)) rfl rfl rfl rfl (Nat.le_of_ble_eq_true rfl) dX2_faultByHand_15 ⟨Nat.le_of_ble_eq_true rfl, Nat.le_of_ble_eq_true rfl⟩ hf (fun u1 σ2 hf => ?_)
    refine g_aload_n X dX2_faultByHand_18 0 rfl rfl ?_
    refine g_get (q := 0) (kf := 0) (v := .ref (adr C 1)) X obj_x rfl infX2_faultByHand_X2 (by decide) (by decide +kernel) rfl dX2_faultByHand_19 ?_
    refine g_get (q := 1) (kf := 1) (v := .ref (adr C 3)) X (obj_s (k := 1) rfl) rfl infX2_faultByHand_X1 (by decide) (by decide +kernel) rfl dX2_faultByHand_22 ?_
    refine g_iload_n X dX2_faultByHand_25 1 rfl rfl ?_
    refine g_iald (q := 3) (n := 5) X rfl rfl dX2_faultByHand_26 hf (fun hf => ?_)
    refine g_icmp_le (tgt := 32) X dX2_faultByHand_27 (by decide) hf (fun hf => ?_) (fun hf => ?_)
    · refine g_iinc (v := (v1 + 1)) (L' := [(1, .int (v1 + 1)), (0, .ref (adr C 0))]) X dX2_faultByHand_32 1 rfl rfl (by decide) rfl ?_
      refine g_goto (tgt := 2) X dX2_faultByHand_35 (by decide) ?_
      refine g_sub [1, 0] (L' := [(0, .ref (adr C 0)), (1, .int (v1 + 1))]) rfl ?_
      exact ih2 (v1 + 1) σ2 hf
    · refine g_iconst (v := (1 : Int32)) X dX2_faultByHand_30 (by decide) ?_
      exact r_iret X hq dX2_faultByHand_31 hf
set_option maxHeartbeats 4000000 in
set_option maxRecDepth 100000 in
theorem tX2_faultByHand_2 {C : Ctx} (X : CX C cX2_faultByHand 2 RX2 wsX2_faultByHand rmX2_faultByHand (some .int)) {r : Int32 × Mem} (hq : QI C r) : ∀ (n : Nat) (v1 : Int32) (σ : Mem) (hf : fX2_faultByHand_2 n v1 σ = some r), G C 2 0 0 2 [(0, .ref (adr C 0)), (1, .int v1)] [] σ := by
  intro n
  induction n with
  | zero => intros; rename_i hf; exact absurd (show (none : Option (Int32 × Mem)) = some r from hf) (by simp)
  | succ n ih =>
    intro v1 σ hf
    exact tX2_faultByHand_2b X hq (fX2_faultByHand_2 n) (fun v1 σ hf => ih v1 σ hf) v1 σ hf
def fX2_faultByHand_e (σ : Mem) : Option (Int32 × Mem) :=
  fX2_faultByHand_2 FU (0 : Int32) σ
set_option maxHeartbeats 4000000 in
set_option maxRecDepth 100000 in
theorem tX2_faultByHand_e {C : Ctx} (X : CX C cX2_faultByHand 2 RX2 wsX2_faultByHand rmX2_faultByHand (some .int)) {r : Int32 × Mem} (hq : QI C r) (σ : Mem) (hf : fX2_faultByHand_e σ = some r) : G C 2 0 0 0 [(0, .ref (adr C 0))] [] σ := by
  unfold fX2_faultByHand_e at hf
  refine g_iconst (v := (0 : Int32)) X dX2_faultByHand_0 (by decide) ?_
  refine g_istore_n (L' := [(1, .int (0 : Int32)), (0, .ref (adr C 0))]) X dX2_faultByHand_1 rfl (by decide) rfl ?_
  refine g_sub [1, 0] (L' := [(0, .ref (adr C 0)), (1, .int (0 : Int32))]) rfl ?_
  exact tX2_faultByHand_2 X hq FU (0 : Int32) σ hf
def fX2_faultByHand (σ : Mem) : Option (Int32 × Mem) := fX2_faultByHand_e σ
theorem kX2_faultByHand (l : Launch) (σ : Mem) : KI l yX2_faultByHand wsX2_faultByHand rmX2_faultByHand (fun ad => [.ref (ad 0)]) σ (fX2_faultByHand σ) := fun r hr => kt_of (by decide +kernel) rfl (fun _ => Nat.le_of_ble_eq_true rfl) (fun C X hne hq => tX2_faultByHand_e X hq σ hr)
/-! ### X2_costByHand -/
abbrev rmX2_costByHand : Room := { frames := 3, cells := 0, slots := 0, locals := 60 }
theorem infX2_costByHand_X1 : ∀ w ∈ u_ws RX1 TX1 3, w ∈ wsX2_costByHand := by decide +kernel
theorem infX2_costByHand_X2 : ∀ w ∈ u_ws RX2 TX2 15, w ∈ wsX2_costByHand := by decide +kernel
def fX2_costByHand_101b (r88 : Int32 → Int32 → Mem → Option (Int32 × Mem)) (r101 : Int32 → Int32 → Int32 → Mem → Option (Int32 × Mem)) (v1 : Int32) (v2 : Int32) (v3 : Int32) (σ : Mem) : Option (Int32 × Mem) :=
  if (rI σ 4 2) ≤ v3 then (r88 v1 (v2 + 1) σ)
  else (bnd (fX2_wayOf v2 v3 σ) fun u1 σ2 =>
  grd (inb u1 25) (bnd (fX2_unitCost v2 v3 σ2) fun u3 σ4 =>
  ltI (v1 + ((rI σ2 9 (ix u1)) * u3)) fun x5 =>
  r101 x5 v2 (v3 + 1) σ4))
def fX2_costByHand_101 (r88 : Int32 → Int32 → Mem → Option (Int32 × Mem)) : Nat → Int32 → Int32 → Int32 → Mem → Option (Int32 × Mem)
  | 0 => fun _ _ _ _ => none
  | n + 1 => fX2_costByHand_101b r88 (fX2_costByHand_101 r88 n)
set_option maxHeartbeats 4000000 in
set_option maxRecDepth 100000 in
theorem tX2_costByHand_101b {C : Ctx} (X : CX C cX2_costByHand 4 RX2 wsX2_costByHand rmX2_costByHand (some .int)) {r : Int32 × Mem} (hq : QI C r) (r88 : Int32 → Int32 → Mem → Option (Int32 × Mem)) (ih88 : ∀ (v1 : Int32) (v2 : Int32) (σ : Mem), r88 v1 v2 σ = some r → G C 4 0 0 88 [(0, .ref (adr C 0)), (1, .int v1), (2, .int v2)] [] σ) (r101 : Int32 → Int32 → Int32 → Mem → Option (Int32 × Mem)) (ih101 : ∀ (v1 : Int32) (v2 : Int32) (v3 : Int32) (σ : Mem), r101 v1 v2 v3 σ = some r → G C 4 0 0 101 [(0, .ref (adr C 0)), (1, .int v1), (2, .int v2), (3, .int v3)] [] σ) (v1 : Int32) (v2 : Int32) (v3 : Int32) (σ : Mem) (hf : fX2_costByHand_101b r88 r101 v1 v2 v3 σ = some r) : G C 4 0 0 101 [(0, .ref (adr C 0)), (1, .int v1), (2, .int v2), (3, .int v3)] [] σ := by
  unfold fX2_costByHand_101b at hf
  refine g_iload_n X dX2_costByHand_101 3 rfl rfl ?_
  refine g_aload_n X dX2_costByHand_102 0 rfl rfl ?_
  refine g_get (q := 0) (kf := 1) (v := .ref (adr C 4)) X obj_x rfl infX2_costByHand_X2 (by decide) (by decide +kernel) rfl dX2_costByHand_103 ?_
  refine g_get (q := 4) (kf := 2) (v := .int (rI σ 4 2)) X (obj_s (k := 4) rfl) rfl infX2_costByHand_X1 (by decide) (by decide +kernel) rfl dX2_costByHand_106 ?_
  refine g_icmp_ge (tgt := 138) X dX2_costByHand_109 (by decide) hf (fun hf => ?_) (fun hf => ?_)
  · refine g_iinc (v := (v2 + 1)) (L' := [(2, .int (v2 + 1)), (0, .ref (adr C 0)), (1, .int v1), (3, .int v3)]) X dX2_costByHand_138 2 rfl rfl (by decide) rfl ?_
    refine g_goto (tgt := 88) X dX2_costByHand_141 (by decide) ?_
    refine g_sub [1, 2, 0] (L' := [(0, .ref (adr C 0)), (1, .int v1), (2, .int (v2 + 1))]) rfl ?_
    exact ih88 v1 (v2 + 1) σ hf
  · refine g_iload_n X dX2_costByHand_112 1 rfl rfl ?_
    refine g_aload_n X dX2_costByHand_113 0 rfl rfl ?_
    refine g_get (q := 0) (kf := 4) (v := .ref (adr C 9)) X obj_x rfl infX2_costByHand_X2 (by decide) (by decide +kernel) rfl dX2_costByHand_114 ?_
    refine g_iload_n X dX2_costByHand_117 2 rfl rfl ?_
    refine g_iload_n X dX2_costByHand_118 3 rfl rfl ?_
    refine c_SI (vs := [.int v2, .int v3]) (rest := [.ref (adr C 9), .int v1]) X (kX2_wayOf (cL C) v2 v3 σ) (fun s a hts => va_cwS 2 hts gX2_costByHand_X2_wayOf rfl rfl rfl (by decide +kernel) ⟨Nat.le_of_ble_eq_true rfl, Nat.le_of_ble_eq_true rfl⟩) rfl rfl rfl (Nat.le_of_ble_eq_true rfl) dX2_costByHand_119 ⟨Nat.le_of_ble_eq_true rfl, Nat.le_of_ble_eq_true rfl⟩ hf (fun u1 σ2 hf => ?_)
    refine g_iald (q := 9) (n := 25) X rfl rfl dX2_costByHand_122 hf (fun hf => ?_)
    refine g_aload_n X dX2_costByHand_123 0 rfl rfl ?_
    refine g_iload_n X dX2_costByHand_124 2 rfl rfl ?_
    refine g_iload_n X dX2_costByHand_125 3 rfl rfl ?_
    refine c_VI (q := 0) (vs := [.int v2, .int v3]) (rest := [.int (rI σ2 9 (ix u1)), .int v1]) X (kX2_unitCost (cL C) v2 v3 σ2) (fun s a hts => cwV 2 hts gX2_costByHand_X2_unitCost rfl rfl rfl (by decide +kernel) ⟨Nat.le_of_ble_eq_true rfl, Nat.le_of_ble_eq_true rfl⟩) obj_x (rfl : vwCl[2]? = some (RX2, TX2, 15)) rfl rfl rfl rfl (Nat.le_of_ble_eq_true rfl) dX2_costByHand_126 ⟨Nat.le_of_ble_eq_true rfl, Nat.le_of_ble_eq_true rfl⟩ hf (fun u3 σ4 hf => ?_)
    refine g_imul X dX2_costByHand_129 ?_
    refine g_iadd X dX2_costByHand_130 ?_
    refine s_istore_n (M := fun x5 => [(1, .int x5), (0, .ref (adr C 0)), (2, .int v2), (3, .int v3)]) X dX2_costByHand_131 rfl (by decide) (fun _ => rfl) hf (fun x5 hf => ?_)
    refine g_iinc (v := (v3 + 1)) (L' := [(3, .int (v3 + 1)), (1, .int x5), (0, .ref (adr C 0)), (2, .int v2)]) X dX2_costByHand_132 3 rfl rfl (by decide) rfl ?_
    refine g_goto (tgt := 101) X dX2_costByHand_135 (by decide) ?_
    refine g_sub [2, 1, 3, 0] (L' := [(0, .ref (adr C 0)), (1, .int x5), (2, .int v2), (3, .int (v3 + 1))]) rfl ?_
    exact ih101 x5 v2 (v3 + 1) σ4 hf
set_option maxHeartbeats 4000000 in
set_option maxRecDepth 100000 in
theorem tX2_costByHand_101 {C : Ctx} (X : CX C cX2_costByHand 4 RX2 wsX2_costByHand rmX2_costByHand (some .int)) {r : Int32 × Mem} (hq : QI C r) (r88 : Int32 → Int32 → Mem → Option (Int32 × Mem)) (ih88 : ∀ (v1 : Int32) (v2 : Int32) (σ : Mem), r88 v1 v2 σ = some r → G C 4 0 0 88 [(0, .ref (adr C 0)), (1, .int v1), (2, .int v2)] [] σ) : ∀ (n : Nat) (v1 : Int32) (v2 : Int32) (v3 : Int32) (σ : Mem) (hf : fX2_costByHand_101 r88 n v1 v2 v3 σ = some r), G C 4 0 0 101 [(0, .ref (adr C 0)), (1, .int v1), (2, .int v2), (3, .int v3)] [] σ := by
  intro n
  induction n with
  | zero => intros; rename_i hf; exact absurd (show (none : Option (Int32 × Mem)) = some r from hf) (by simp)
  | succ n ih =>
    intro v1 v2 v3 σ hf
    exact tX2_costByHand_101b X hq r88 ih88 (fX2_costByHand_101 r88 n) (fun v1 v2 v3 σ hf => ih v1 v2 v3 σ hf) v1 v2 v3 σ hf
def fX2_costByHand_88b (r88 : Int32 → Int32 → Mem → Option (Int32 × Mem)) (v1 : Int32) (v2 : Int32) (σ : Mem) : Option (Int32 × Mem) :=
  if (rI σ 1 2) ≤ v2 then (some (v1, σ))
  else (fX2_costByHand_101 r88 FU v1 v2 (0 : Int32) σ)
def fX2_costByHand_88 : Nat → Int32 → Int32 → Mem → Option (Int32 × Mem)
  | 0 => fun _ _ _ => none
  | n + 1 => fX2_costByHand_88b (fX2_costByHand_88 n)
set_option maxHeartbeats 4000000 in
set_option maxRecDepth 100000 in
theorem tX2_costByHand_88b {C : Ctx} (X : CX C cX2_costByHand 4 RX2 wsX2_costByHand rmX2_costByHand (some .int)) {r : Int32 × Mem} (hq : QI C r) (r88 : Int32 → Int32 → Mem → Option (Int32 × Mem)) (ih88 : ∀ (v1 : Int32) (v2 : Int32) (σ : Mem), r88 v1 v2 σ = some r → G C 4 0 0 88 [(0, .ref (adr C 0)), (1, .int v1), (2, .int v2)] [] σ) (v1 : Int32) (v2 : Int32) (σ : Mem) (hf : fX2_costByHand_88b r88 v1 v2 σ = some r) : G C 4 0 0 88 [(0, .ref (adr C 0)), (1, .int v1), (2, .int v2)] [] σ := by
  unfold fX2_costByHand_88b at hf
  refine g_iload_n X dX2_costByHand_88 2 rfl rfl ?_
  refine g_aload_n X dX2_costByHand_89 0 rfl rfl ?_
  refine g_get (q := 0) (kf := 0) (v := .ref (adr C 1)) X obj_x rfl infX2_costByHand_X2 (by decide) (by decide +kernel) rfl dX2_costByHand_90 ?_
  refine g_get (q := 1) (kf := 2) (v := .int (rI σ 1 2)) X (obj_s (k := 1) rfl) rfl infX2_costByHand_X1 (by decide) (by decide +kernel) rfl dX2_costByHand_93 ?_
  refine g_icmp_ge (tgt := 144) X dX2_costByHand_96 (by decide) hf (fun hf => ?_) (fun hf => ?_)
  · refine g_iload_n X dX2_costByHand_144 1 rfl rfl ?_
    exact r_iret X hq dX2_costByHand_145 hf
  · refine g_iconst (v := (0 : Int32)) X dX2_costByHand_99 (by decide) ?_
    refine g_istore_n (L' := [(3, .int (0 : Int32)), (0, .ref (adr C 0)), (1, .int v1), (2, .int v2)]) X dX2_costByHand_100 rfl (by decide) rfl ?_
    refine g_sub [1, 2, 3, 0] (L' := [(0, .ref (adr C 0)), (1, .int v1), (2, .int v2), (3, .int (0 : Int32))]) rfl ?_
    exact tX2_costByHand_101 X hq r88 ih88 FU v1 v2 (0 : Int32) σ hf
set_option maxHeartbeats 4000000 in
set_option maxRecDepth 100000 in
theorem tX2_costByHand_88 {C : Ctx} (X : CX C cX2_costByHand 4 RX2 wsX2_costByHand rmX2_costByHand (some .int)) {r : Int32 × Mem} (hq : QI C r) : ∀ (n : Nat) (v1 : Int32) (v2 : Int32) (σ : Mem) (hf : fX2_costByHand_88 n v1 v2 σ = some r), G C 4 0 0 88 [(0, .ref (adr C 0)), (1, .int v1), (2, .int v2)] [] σ := by
  intro n
  induction n with
  | zero => intros; rename_i hf; exact absurd (show (none : Option (Int32 × Mem)) = some r from hf) (by simp)
  | succ n ih =>
    intro v1 v2 σ hf
    exact tX2_costByHand_88b X hq (fX2_costByHand_88 n) (fun v1 v2 σ hf => ih v1 v2 σ hf) v1 v2 σ hf
def fX2_costByHand_46b (r46 : Int32 → Int32 → Mem → Option (Int32 × Mem)) (v1 : Int32) (v2 : Int32) (σ : Mem) : Option (Int32 × Mem) :=
  if (rI σ 4 2) ≤ v2 then (fX2_costByHand_88 FU v1 (0 : Int32) σ)
  else (grd (inb v2 5) (bnd (fX2_handTo v2 σ) fun u1 σ2 =>
  ltI (v1 + ((rI σ 0 13) * ((rI σ 6 (ix v2)) - u1))) fun x3 =>
  r46 x3 (v2 + 1) σ2))
def fX2_costByHand_46 : Nat → Int32 → Int32 → Mem → Option (Int32 × Mem)
  | 0 => fun _ _ _ => none
  | n + 1 => fX2_costByHand_46b (fX2_costByHand_46 n)
set_option maxHeartbeats 4000000 in
set_option maxRecDepth 100000 in
theorem tX2_costByHand_46b {C : Ctx} (X : CX C cX2_costByHand 4 RX2 wsX2_costByHand rmX2_costByHand (some .int)) {r : Int32 × Mem} (hq : QI C r) (r46 : Int32 → Int32 → Mem → Option (Int32 × Mem)) (ih46 : ∀ (v1 : Int32) (v2 : Int32) (σ : Mem), r46 v1 v2 σ = some r → G C 4 0 0 46 [(0, .ref (adr C 0)), (1, .int v1), (2, .int v2)] [] σ) (v1 : Int32) (v2 : Int32) (σ : Mem) (hf : fX2_costByHand_46b r46 v1 v2 σ = some r) : G C 4 0 0 46 [(0, .ref (adr C 0)), (1, .int v1), (2, .int v2)] [] σ := by
  unfold fX2_costByHand_46b at hf
  refine g_iload_n X dX2_costByHand_46 2 rfl rfl ?_
  refine g_aload_n X dX2_costByHand_47 0 rfl rfl ?_
  refine g_get (q := 0) (kf := 1) (v := .ref (adr C 4)) X obj_x rfl infX2_costByHand_X2 (by decide) (by decide +kernel) rfl dX2_costByHand_48 ?_
  refine g_get (q := 4) (kf := 2) (v := .int (rI σ 4 2)) X (obj_s (k := 4) rfl) rfl infX2_costByHand_X1 (by decide) (by decide +kernel) rfl dX2_costByHand_51 ?_
  refine g_icmp_ge (tgt := 86) X dX2_costByHand_54 (by decide) hf (fun hf => ?_) (fun hf => ?_)
  · refine g_iconst (v := (0 : Int32)) X dX2_costByHand_86 (by decide) ?_
    refine g_istore_n (L' := [(2, .int (0 : Int32)), (0, .ref (adr C 0)), (1, .int v1)]) X dX2_costByHand_87 rfl (by decide) rfl ?_
    refine g_sub [1, 2, 0] (L' := [(0, .ref (adr C 0)), (1, .int v1), (2, .int (0 : Int32))]) rfl ?_
    exact tX2_costByHand_88 X hq FU v1 (0 : Int32) σ hf
  · refine g_iload_n X dX2_costByHand_57 1 rfl rfl ?_
    refine g_aload_n X dX2_costByHand_58 0 rfl rfl ?_
    refine g_get (q := 0) (kf := 13) (v := .int (rI σ 0 13)) X obj_x rfl infX2_costByHand_X2 (by decide) (by decide +kernel) rfl dX2_costByHand_59 ?_
    refine g_aload_n X dX2_costByHand_62 0 rfl rfl ?_
    refine g_get (q := 0) (kf := 1) (v := .ref (adr C 4)) X obj_x rfl infX2_costByHand_X2 (by decide) (by decide +kernel) rfl dX2_costByHand_63 ?_
    refine g_get (q := 4) (kf := 1) (v := .ref (adr C 6)) X (obj_s (k := 4) rfl) rfl infX2_costByHand_X1 (by decide) (by decide +kernel) rfl dX2_costByHand_66 ?_
    refine g_iload_n X dX2_costByHand_69 2 rfl rfl ?_
    refine g_iald (q := 6) (n := 5) X rfl rfl dX2_costByHand_70 hf (fun hf => ?_)
    refine g_aload_n X dX2_costByHand_71 0 rfl rfl ?_
    refine g_iload_n X dX2_costByHand_72 2 rfl rfl ?_
    refine c_VI (q := 0) (vs := [.int v2]) (rest := [.int (rI σ 6 (ix v2)), .int (rI σ 0 13), .int v1]) X (kX2_handTo (cL C) v2 σ) (fun s a hts => cwV 1 hts gX2_costByHand_X2_handTo rfl rfl rfl (by decide +kernel) ⟨Nat.le_of_ble_eq_true rfl, Nat.le_of_ble_eq_true rfl⟩) obj_x (rfl : vwCl[2]? = some (RX2, TX2, 15)) rfl rfl rfl rfl (Nat.le_of_ble_eq_true rfl) dX2_costByHand_73 ⟨Nat.le_of_ble_eq_true rfl, Nat.le_of_ble_eq_true rfl⟩ hf (fun u1 σ2 hf => ?_)
    refine g_isub X dX2_costByHand_76 ?_
    refine g_imul X dX2_costByHand_77 ?_
    refine g_iadd X dX2_costByHand_78 ?_
    refine s_istore_n (M := fun x3 => [(1, .int x3), (0, .ref (adr C 0)), (2, .int v2)]) X dX2_costByHand_79 rfl (by decide) (fun _ => rfl) hf (fun x3 hf => ?_)
    refine g_iinc (v := (v2 + 1)) (L' := [(2, .int (v2 + 1)), (1, .int x3), (0, .ref (adr C 0))]) X dX2_costByHand_80 2 rfl rfl (by decide) rfl ?_
    refine g_goto (tgt := 46) X dX2_costByHand_83 (by decide) ?_
    refine g_sub [2, 1, 0] (L' := [(0, .ref (adr C 0)), (1, .int x3), (2, .int (v2 + 1))]) rfl ?_
    exact ih46 x3 (v2 + 1) σ2 hf
set_option maxHeartbeats 4000000 in
set_option maxRecDepth 100000 in
theorem tX2_costByHand_46 {C : Ctx} (X : CX C cX2_costByHand 4 RX2 wsX2_costByHand rmX2_costByHand (some .int)) {r : Int32 × Mem} (hq : QI C r) : ∀ (n : Nat) (v1 : Int32) (v2 : Int32) (σ : Mem) (hf : fX2_costByHand_46 n v1 v2 σ = some r), G C 4 0 0 46 [(0, .ref (adr C 0)), (1, .int v1), (2, .int v2)] [] σ := by
  intro n
  induction n with
  | zero => intros; rename_i hf; exact absurd (show (none : Option (Int32 × Mem)) = some r from hf) (by simp)
  | succ n ih =>
    intro v1 v2 σ hf
    exact tX2_costByHand_46b X hq (fX2_costByHand_46 n) (fun v1 v2 σ hf => ih v1 v2 σ hf) v1 v2 σ hf
def fX2_costByHand_4b (r4 : Int32 → Int32 → Mem → Option (Int32 × Mem)) (v1 : Int32) (v2 : Int32) (σ : Mem) : Option (Int32 × Mem) :=
  if (rI σ 1 2) ≤ v2 then (fX2_costByHand_46 FU v1 (0 : Int32) σ)
  else (grd (inb v2 5) (bnd (fX2_handFrom v2 σ) fun u1 σ2 =>
  ltI (v1 + ((rI σ 0 12) * ((rI σ 3 (ix v2)) - u1))) fun x3 =>
  r4 x3 (v2 + 1) σ2))
def fX2_costByHand_4 : Nat → Int32 → Int32 → Mem → Option (Int32 × Mem)
  | 0 => fun _ _ _ => none
  | n + 1 => fX2_costByHand_4b (fX2_costByHand_4 n)
set_option maxHeartbeats 4000000 in
set_option maxRecDepth 100000 in
theorem tX2_costByHand_4b {C : Ctx} (X : CX C cX2_costByHand 4 RX2 wsX2_costByHand rmX2_costByHand (some .int)) {r : Int32 × Mem} (hq : QI C r) (r4 : Int32 → Int32 → Mem → Option (Int32 × Mem)) (ih4 : ∀ (v1 : Int32) (v2 : Int32) (σ : Mem), r4 v1 v2 σ = some r → G C 4 0 0 4 [(0, .ref (adr C 0)), (1, .int v1), (2, .int v2)] [] σ) (v1 : Int32) (v2 : Int32) (σ : Mem) (hf : fX2_costByHand_4b r4 v1 v2 σ = some r) : G C 4 0 0 4 [(0, .ref (adr C 0)), (1, .int v1), (2, .int v2)] [] σ := by
  unfold fX2_costByHand_4b at hf
  refine g_iload_n X dX2_costByHand_4 2 rfl rfl ?_
  refine g_aload_n X dX2_costByHand_5 0 rfl rfl ?_
  refine g_get (q := 0) (kf := 0) (v := .ref (adr C 1)) X obj_x rfl infX2_costByHand_X2 (by decide) (by decide +kernel) rfl dX2_costByHand_6 ?_
  refine g_get (q := 1) (kf := 2) (v := .int (rI σ 1 2)) X (obj_s (k := 1) rfl) rfl infX2_costByHand_X1 (by decide) (by decide +kernel) rfl dX2_costByHand_9 ?_
  refine g_icmp_ge (tgt := 44) X dX2_costByHand_12 (by decide) hf (fun hf => ?_) (fun hf => ?_)
  · refine g_iconst (v := (0 : Int32)) X dX2_costByHand_44 (by decide) ?_
    refine g_istore_n (L' := [(2, .int (0 : Int32)), (0, .ref (adr C 0)), (1, .int v1)]) X dX2_costByHand_45 rfl (by decide) rfl ?_
    refine g_sub [1, 2, 0] (L' := [(0, .ref (adr C 0)), (1, .int v1), (2, .int (0 : Int32))]) rfl ?_
    exact tX2_costByHand_46 X hq FU v1 (0 : Int32) σ hf
  · refine g_iload_n X dX2_costByHand_15 1 rfl rfl ?_
    refine g_aload_n X dX2_costByHand_16 0 rfl rfl ?_
    refine g_get (q := 0) (kf := 12) (v := .int (rI σ 0 12)) X obj_x rfl infX2_costByHand_X2 (by decide) (by decide +kernel) rfl dX2_costByHand_17 ?_
    refine g_aload_n X dX2_costByHand_20 0 rfl rfl ?_
    refine g_get (q := 0) (kf := 0) (v := .ref (adr C 1)) X obj_x rfl infX2_costByHand_X2 (by decide) (by decide +kernel) rfl dX2_costByHand_21 ?_
    refine g_get (q := 1) (kf := 1) (v := .ref (adr C 3)) X (obj_s (k := 1) rfl) rfl infX2_costByHand_X1 (by decide) (by decide +kernel) rfl dX2_costByHand_24 ?_
    refine g_iload_n X dX2_costByHand_27 2 rfl rfl ?_
    refine g_iald (q := 3) (n := 5) X rfl rfl dX2_costByHand_28 hf (fun hf => ?_)
    refine g_aload_n X dX2_costByHand_29 0 rfl rfl ?_
    refine g_iload_n X dX2_costByHand_30 2 rfl rfl ?_
    refine c_VI (q := 0) (vs := [.int v2]) (rest := [.int (rI σ 3 (ix v2)), .int (rI σ 0 12), .int v1]) X (kX2_handFrom (cL C) v2 σ) (fun s a hts => cwV 1 hts gX2_costByHand_X2_handFrom rfl rfl rfl (by decide +kernel) ⟨Nat.le_of_ble_eq_true rfl, Nat.le_of_ble_eq_true rfl⟩) obj_x (rfl : vwCl[2]? = some (RX2, TX2, 15)) rfl rfl rfl rfl (Nat.le_of_ble_eq_true rfl) dX2_costByHand_31 ⟨Nat.le_of_ble_eq_true rfl, Nat.le_of_ble_eq_true rfl⟩ hf (fun u1 σ2 hf => ?_)
    refine g_isub X dX2_costByHand_34 ?_
    refine g_imul X dX2_costByHand_35 ?_
    refine g_iadd X dX2_costByHand_36 ?_
    refine s_istore_n (M := fun x3 => [(1, .int x3), (0, .ref (adr C 0)), (2, .int v2)]) X dX2_costByHand_37 rfl (by decide) (fun _ => rfl) hf (fun x3 hf => ?_)
    refine g_iinc (v := (v2 + 1)) (L' := [(2, .int (v2 + 1)), (1, .int x3), (0, .ref (adr C 0))]) X dX2_costByHand_38 2 rfl rfl (by decide) rfl ?_
    refine g_goto (tgt := 4) X dX2_costByHand_41 (by decide) ?_
    refine g_sub [2, 1, 0] (L' := [(0, .ref (adr C 0)), (1, .int x3), (2, .int (v2 + 1))]) rfl ?_
    exact ih4 x3 (v2 + 1) σ2 hf
set_option maxHeartbeats 4000000 in
set_option maxRecDepth 100000 in
theorem tX2_costByHand_4 {C : Ctx} (X : CX C cX2_costByHand 4 RX2 wsX2_costByHand rmX2_costByHand (some .int)) {r : Int32 × Mem} (hq : QI C r) : ∀ (n : Nat) (v1 : Int32) (v2 : Int32) (σ : Mem) (hf : fX2_costByHand_4 n v1 v2 σ = some r), G C 4 0 0 4 [(0, .ref (adr C 0)), (1, .int v1), (2, .int v2)] [] σ := by
  intro n
  induction n with
  | zero => intros; rename_i hf; exact absurd (show (none : Option (Int32 × Mem)) = some r from hf) (by simp)
  | succ n ih =>
    intro v1 v2 σ hf
    exact tX2_costByHand_4b X hq (fX2_costByHand_4 n) (fun v1 v2 σ hf => ih v1 v2 σ hf) v1 v2 σ hf
def fX2_costByHand_e (σ : Mem) : Option (Int32 × Mem) :=
  fX2_costByHand_4 FU (0 : Int32) (0 : Int32) σ
set_option maxHeartbeats 4000000 in
set_option maxRecDepth 100000 in
theorem tX2_costByHand_e {C : Ctx} (X : CX C cX2_costByHand 4 RX2 wsX2_costByHand rmX2_costByHand (some .int)) {r : Int32 × Mem} (hq : QI C r) (σ : Mem) (hf : fX2_costByHand_e σ = some r) : G C 4 0 0 0 [(0, .ref (adr C 0))] [] σ := by
  unfold fX2_costByHand_e at hf
  refine g_iconst (v := (0 : Int32)) X dX2_costByHand_0 (by decide) ?_
  refine g_istore_n (L' := [(1, .int (0 : Int32)), (0, .ref (adr C 0))]) X dX2_costByHand_1 rfl (by decide) rfl ?_
  refine g_iconst (v := (0 : Int32)) X dX2_costByHand_2 (by decide) ?_
  refine g_istore_n (L' := [(2, .int (0 : Int32)), (1, .int (0 : Int32)), (0, .ref (adr C 0))]) X dX2_costByHand_3 rfl (by decide) rfl ?_
  refine g_sub [2, 1, 0] (L' := [(0, .ref (adr C 0)), (1, .int (0 : Int32)), (2, .int (0 : Int32))]) rfl ?_
  exact tX2_costByHand_4 X hq FU (0 : Int32) (0 : Int32) σ hf
def fX2_costByHand (σ : Mem) : Option (Int32 × Mem) := fX2_costByHand_e σ
theorem kX2_costByHand (l : Launch) (σ : Mem) : KI l yX2_costByHand wsX2_costByHand rmX2_costByHand (fun ad => [.ref (ad 0)]) σ (fX2_costByHand σ) := fun r hr => kt_of (by decide +kernel) rfl (fun _ => Nat.le_of_ble_eq_true rfl) (fun C X hne hq => tX2_costByHand_e X hq σ hr)
/-! ### X2_whyNot -/
abbrev rmX2_whyNot : Room := { frames := 5, cells := 0, slots := 0, locals := 121 }
theorem infX2_whyNot_X0 : ∀ w ∈ u_ws RX0 TX0 15, w ∈ wsX2_whyNot := by decide +kernel
def fX2_whyNot_30 (s0 : Int32) (σ : Mem) : Option (Int32 × Mem) :=
  some (s0, σ)
set_option maxHeartbeats 4000000 in
set_option maxRecDepth 100000 in
theorem tX2_whyNot_30 {C : Ctx} (X : CX C cX2_whyNot 2 RX2 wsX2_whyNot rmX2_whyNot (some .int)) {r : Int32 × Mem} (hq : QI C r) (s0 : Int32) (σ : Mem) (hf : fX2_whyNot_30 s0 σ = some r) : G C 2 0 0 30 [] [.int s0] σ := by
  unfold fX2_whyNot_30 at hf
  exact r_iret X hq dX2_whyNot_30 hf
def fX2_whyNot_e (σ : Mem) : Option (Int32 × Mem) :=
  bnd (fX2_faultByHand σ) fun u1 σ2 =>
  if u1 = 0 then (bnd (fX2_costByHand σ2) fun u3 σ4 =>
  bnd (fX2_planned σ4) fun u5 σ6 =>
  grd (decide (u5 = 13)) (if u3 ≤ (rI σ6 13 4) then (fX2_whyNot_30 (0 : Int32) σ6)
  else (fX2_whyNot_30 (4 : Int32) σ6)))
  else (some (u1, σ2))
set_option maxHeartbeats 4000000 in
set_option maxRecDepth 100000 in
theorem tX2_whyNot_e {C : Ctx} (X : CX C cX2_whyNot 2 RX2 wsX2_whyNot rmX2_whyNot (some .int)) {r : Int32 × Mem} (hq : QI C r) (σ : Mem) (hf : fX2_whyNot_e σ = some r) : G C 2 0 0 0 [(0, .ref (adr C 0))] [] σ := by
  unfold fX2_whyNot_e at hf
  refine g_aload_n X dX2_whyNot_0 0 rfl rfl ?_
  refine c_VI (q := 0) (vs := []) (rest := []) X (kX2_faultByHand (cL C) σ) (fun s a hts => cwV 0 hts gX2_whyNot_X2_faultByHand rfl rfl rfl (by decide +kernel) ⟨Nat.le_of_ble_eq_true rfl, Nat.le_of_ble_eq_true rfl⟩) obj_x (rfl : vwCl[2]? = some (RX2, TX2, 15)) rfl rfl rfl rfl (Nat.le_of_ble_eq_true rfl) dX2_whyNot_1 ⟨Nat.le_of_ble_eq_true rfl, Nat.le_of_ble_eq_true rfl⟩ hf (fun u1 σ2 hf => ?_)
  refine g_istore_n (L' := [(1, .int u1), (0, .ref (adr C 0))]) X dX2_whyNot_4 rfl (by decide) rfl ?_
  refine g_iload_n X dX2_whyNot_5 0 rfl rfl ?_
  refine g_if_eq (tgt := 11) X dX2_whyNot_6 (by decide) hf (fun hf => ?_) (fun hf => ?_)
  · refine g_aload_n X dX2_whyNot_11 1 rfl rfl ?_
    refine c_VI (q := 0) (vs := []) (rest := []) X (kX2_costByHand (cL C) σ2) (fun s a hts => cwV 0 hts gX2_whyNot_X2_costByHand rfl rfl rfl (by decide +kernel) ⟨Nat.le_of_ble_eq_true rfl, Nat.le_of_ble_eq_true rfl⟩) obj_x (rfl : vwCl[2]? = some (RX2, TX2, 15)) rfl rfl rfl rfl (Nat.le_of_ble_eq_true rfl) dX2_whyNot_12 ⟨Nat.le_of_ble_eq_true rfl, Nat.le_of_ble_eq_true rfl⟩ hf (fun u3 σ4 hf => ?_)
    refine g_aload_n X dX2_whyNot_15 1 rfl rfl ?_
    refine c_VR (q := 0) (vs := []) (rest := [.int u3]) X (kX2_planned (cL C) σ4) (fun s a hts => cwV 0 hts gX2_whyNot_X2_planned rfl rfl rfl (by decide +kernel) ⟨Nat.le_of_ble_eq_true rfl, Nat.le_of_ble_eq_true rfl⟩) obj_x (rfl : vwCl[2]? = some (RX2, TX2, 15)) rfl rfl rfl rfl (Nat.le_of_ble_eq_true rfl) dX2_whyNot_16 ⟨Nat.le_of_ble_eq_true rfl, Nat.le_of_ble_eq_true rfl⟩ hf (fun u5 σ6 hf => ?_)
    replace hf := grd_some hf
    obtain ⟨hg, hf⟩ := hf
    replace hg := of_decide_eq_true hg
    subst hg
    refine g_get (q := 13) (kf := 4) (v := .int (rI σ6 13 4)) X (obj_p (k := 13) rfl) rfl infX2_whyNot_X0 (by decide) (by decide +kernel) rfl dX2_whyNot_19 ?_
    refine g_icmp_le (tgt := 29) X dX2_whyNot_22 (by decide) hf (fun hf => ?_) (fun hf => ?_)
    · refine g_iconst (v := (0 : Int32)) X dX2_whyNot_29 (by decide) ?_
      refine g_sub [] (L' := []) rfl ?_
      exact tX2_whyNot_30 X hq (0 : Int32) σ6 hf
    · refine g_iconst (v := (4 : Int32)) X dX2_whyNot_25 (by decide) ?_
      refine g_goto (tgt := 30) X dX2_whyNot_26 (by decide) ?_
      refine g_sub [] (L' := []) rfl ?_
      exact tX2_whyNot_30 X hq (4 : Int32) σ6 hf
  · refine g_iload_n X dX2_whyNot_9 0 rfl rfl ?_
    exact r_iret X hq dX2_whyNot_10 hf
def fX2_whyNot (σ : Mem) : Option (Int32 × Mem) := fX2_whyNot_e σ
theorem kX2_whyNot (l : Launch) (σ : Mem) : KI l yX2_whyNot wsX2_whyNot rmX2_whyNot (fun ad => [.ref (ad 0)]) σ (fX2_whyNot σ) := fun r hr => kt_of (by decide +kernel) rfl (fun _ => Nat.le_of_ble_eq_true rfl) (fun C X hne hq => tX2_whyNot_e X hq σ hr)
/-! ### X2_handCost -/
abbrev rmX2_handCost : Room := { frames := 6, cells := 1, slots := 6, locals := 83 }
def fX2_handCost_e (σ : Mem) : Option (Sum Int32 Nat × Mem) :=
  bnd (fX2_faultByHand σ) fun u1 σ2 =>
  if u1 = 0 then (bnd (fX2_costByHand σ2) fun u3 σ4 =>
  some (Sum.inl u3, σ4))
  else (some (Sum.inr 2, σ2))
set_option maxHeartbeats 4000000 in
set_option maxRecDepth 100000 in
theorem tX2_handCost_e {C : Ctx} (X : CX C cX2_handCost 1 RX2 wsX2_handCost rmX2_handCost (some .int)) (hne : NH C) {r : Sum Int32 Nat × Mem} (hq : QXI C r) (σ : Mem) (hf : fX2_handCost_e σ = some r) : G C 1 0 0 0 [(0, .ref (adr C 0))] [] σ := by
  unfold fX2_handCost_e at hf
  refine g_aload_n X dX2_handCost_0 0 rfl rfl ?_
  refine c_VI (q := 0) (vs := []) (rest := []) X (kX2_faultByHand (cL C) σ) (fun s a hts => cwV 0 hts gX2_handCost_X2_faultByHand rfl rfl rfl (by decide +kernel) ⟨Nat.le_of_ble_eq_true rfl, Nat.le_of_ble_eq_true rfl⟩) obj_x (rfl : vwCl[2]? = some (RX2, TX2, 15)) rfl rfl rfl rfl (Nat.le_of_ble_eq_true rfl) dX2_handCost_1 ⟨Nat.le_of_ble_eq_true rfl, Nat.le_of_ble_eq_true rfl⟩ hf (fun u1 σ2 hf => ?_)
  refine g_if_eq (tgt := 17) X dX2_handCost_4 (by decide) hf (fun hf => ?_) (fun hf => ?_)
  · refine g_aload_n X dX2_handCost_17 0 rfl rfl ?_
    refine c_VI (q := 0) (vs := []) (rest := []) X (kX2_costByHand (cL C) σ2) (fun s a hts => cwV 0 hts gX2_handCost_X2_costByHand rfl rfl rfl (by decide +kernel) ⟨Nat.le_of_ble_eq_true rfl, Nat.le_of_ble_eq_true rfl⟩) obj_x (rfl : vwCl[2]? = some (RX2, TX2, 15)) rfl rfl rfl rfl (Nat.le_of_ble_eq_true rfl) dX2_handCost_18 ⟨Nat.le_of_ble_eq_true rfl, Nat.le_of_ble_eq_true rfl⟩ hf (fun u3 σ4 hf => ?_)
    exact r_iretX X hq dX2_handCost_21 hf
  · exact e_throw (E := iIS) (text := "no plan by hand") (ik := 122) (is := 192) (ic := 126) X hne hq (by decide +kernel) (by decide +kernel) (by decide +kernel) (by decide +kernel) (by decide +kernel) (by decide +kernel) (Or.inr (Or.inr rfl)) (by decide +kernel) dX2_handCost_7 dX2_handCost_10 dX2_handCost_11 dX2_handCost_13 dX2_handCost_16 (by decide) (Nat.le_of_ble_eq_true rfl) (by decide) (by decide) ⟨2, (Option.some.inj hf).symm, rfl⟩
def fX2_handCost (σ : Mem) : Option (Sum Int32 Nat × Mem) := fX2_handCost_e σ
theorem kX2_handCost (l : Launch) (σ : Mem) : KXI l yX2_handCost wsX2_handCost rmX2_handCost (fun ad => [.ref (ad 0)]) σ (fX2_handCost σ) := fun r hr => kt_of (by decide +kernel) rfl (fun _ => Nat.le_of_ble_eq_true rfl) (fun C X hne hq => tX2_handCost_e X hne hq σ hr)
/-! ### X2_costOfAllTo -/
abbrev rmX2_costOfAllTo : Room := { frames := 2, cells := 0, slots := 0, locals := 37 }
theorem infX2_costOfAllTo_X1 : ∀ w ∈ u_ws RX1 TX1 3, w ∈ wsX2_costOfAllTo := by decide +kernel
theorem infX2_costOfAllTo_X2 : ∀ w ∈ u_ws RX2 TX2 15, w ∈ wsX2_costOfAllTo := by decide +kernel
def fX2_costOfAllTo_4b (r4 : Int32 → Int32 → Int32 → Mem → Option (Int32 × Mem)) (v1 : Int32) (v2 : Int32) (v3 : Int32) (σ : Mem) : Option (Int32 × Mem) :=
  if (rI σ 1 2) ≤ v3 then (some (v2, σ))
  else (grd (inb v3 5) (grd (inb v3 5) (bnd (fX2_measured (rI σ 2 (ix v3)) v1 σ) fun u1 σ2 =>
  ltI (v2 + ((rI σ 3 (ix v3)) * u1)) fun x3 =>
  r4 v1 x3 (v3 + 1) σ2)))
def fX2_costOfAllTo_4 : Nat → Int32 → Int32 → Int32 → Mem → Option (Int32 × Mem)
  | 0 => fun _ _ _ _ => none
  | n + 1 => fX2_costOfAllTo_4b (fX2_costOfAllTo_4 n)
set_option maxHeartbeats 4000000 in
set_option maxRecDepth 100000 in
theorem tX2_costOfAllTo_4b {C : Ctx} (X : CX C cX2_costOfAllTo 4 RX2 wsX2_costOfAllTo rmX2_costOfAllTo (some .int)) {r : Int32 × Mem} (hq : QI C r) (r4 : Int32 → Int32 → Int32 → Mem → Option (Int32 × Mem)) (ih4 : ∀ (v1 : Int32) (v2 : Int32) (v3 : Int32) (σ : Mem), r4 v1 v2 v3 σ = some r → G C 4 0 0 4 [(0, .ref (adr C 0)), (1, .int v1), (2, .int v2), (3, .int v3)] [] σ) (v1 : Int32) (v2 : Int32) (v3 : Int32) (σ : Mem) (hf : fX2_costOfAllTo_4b r4 v1 v2 v3 σ = some r) : G C 4 0 0 4 [(0, .ref (adr C 0)), (1, .int v1), (2, .int v2), (3, .int v3)] [] σ := by
  unfold fX2_costOfAllTo_4b at hf
  refine g_iload_n X dX2_costOfAllTo_4 3 rfl rfl ?_
  refine g_aload_n X dX2_costOfAllTo_5 0 rfl rfl ?_
  refine g_get (q := 0) (kf := 0) (v := .ref (adr C 1)) X obj_x rfl infX2_costOfAllTo_X2 (by decide) (by decide +kernel) rfl dX2_costOfAllTo_6 ?_
  refine g_get (q := 1) (kf := 2) (v := .int (rI σ 1 2)) X (obj_s (k := 1) rfl) rfl infX2_costOfAllTo_X1 (by decide) (by decide +kernel) rfl dX2_costOfAllTo_9 ?_
  refine g_icmp_ge (tgt := 48) X dX2_costOfAllTo_12 (by decide) hf (fun hf => ?_) (fun hf => ?_)
  · refine g_iload_n X dX2_costOfAllTo_48 2 rfl rfl ?_
    exact r_iret X hq dX2_costOfAllTo_49 hf
  · refine g_iload_n X dX2_costOfAllTo_15 2 rfl rfl ?_
    refine g_aload_n X dX2_costOfAllTo_16 0 rfl rfl ?_
    refine g_get (q := 0) (kf := 0) (v := .ref (adr C 1)) X obj_x rfl infX2_costOfAllTo_X2 (by decide) (by decide +kernel) rfl dX2_costOfAllTo_17 ?_
    refine g_get (q := 1) (kf := 1) (v := .ref (adr C 3)) X (obj_s (k := 1) rfl) rfl infX2_costOfAllTo_X1 (by decide) (by decide +kernel) rfl dX2_costOfAllTo_20 ?_
    refine g_iload_n X dX2_costOfAllTo_23 3 rfl rfl ?_
    refine g_iald (q := 3) (n := 5) X rfl rfl dX2_costOfAllTo_24 hf (fun hf => ?_)
    refine g_aload_n X dX2_costOfAllTo_25 0 rfl rfl ?_
    refine g_aload_n X dX2_costOfAllTo_26 0 rfl rfl ?_
    refine g_get (q := 0) (kf := 0) (v := .ref (adr C 1)) X obj_x rfl infX2_costOfAllTo_X2 (by decide) (by decide +kernel) rfl dX2_costOfAllTo_27 ?_
    refine g_get (q := 1) (kf := 0) (v := .ref (adr C 2)) X (obj_s (k := 1) rfl) rfl infX2_costOfAllTo_X1 (by decide) (by decide +kernel) rfl dX2_costOfAllTo_30 ?_
    refine g_iload_n X dX2_costOfAllTo_33 3 rfl rfl ?_
    refine g_iald (q := 2) (n := 5) X rfl rfl dX2_costOfAllTo_34 hf (fun hf => ?_)
    refine g_iload_n X dX2_costOfAllTo_35 1 rfl rfl ?_
    refine c_VI (q := 0) (vs := [.int (rI σ 2 (ix v3)), .int v1]) (rest := [.int (rI σ 3 (ix v3)), .int v2]) X (kX2_measured (cL C) (rI σ 2 (ix v3)) v1 σ) (fun s a hts => cwV 2 hts gX2_costOfAllTo_X2_measured rfl rfl rfl (by decide +kernel) ⟨Nat.le_of_ble_eq_true rfl, Nat.le_of_ble_eq_true rfl⟩) obj_x (rfl : vwCl[2]? = some (RX2, TX2, 15)) rfl rfl rfl rfl (Nat.le_of_ble_eq_true rfl) dX2_costOfAllTo_36 ⟨Nat.le_of_ble_eq_true rfl, Nat.le_of_ble_eq_true rfl⟩ hf (fun u1 σ2 hf => ?_)
    refine g_imul X dX2_costOfAllTo_39 ?_
    refine g_iadd X dX2_costOfAllTo_40 ?_
    refine s_istore_n (M := fun x3 => [(2, .int x3), (0, .ref (adr C 0)), (1, .int v1), (3, .int v3)]) X dX2_costOfAllTo_41 rfl (by decide) (fun _ => rfl) hf (fun x3 hf => ?_)
    refine g_iinc (v := (v3 + 1)) (L' := [(3, .int (v3 + 1)), (2, .int x3), (0, .ref (adr C 0)), (1, .int v1)]) X dX2_costOfAllTo_42 3 rfl rfl (by decide) rfl ?_
    refine g_goto (tgt := 4) X dX2_costOfAllTo_45 (by decide) ?_
    refine g_sub [2, 3, 1, 0] (L' := [(0, .ref (adr C 0)), (1, .int v1), (2, .int x3), (3, .int (v3 + 1))]) rfl ?_
    exact ih4 v1 x3 (v3 + 1) σ2 hf
set_option maxHeartbeats 4000000 in
set_option maxRecDepth 100000 in
theorem tX2_costOfAllTo_4 {C : Ctx} (X : CX C cX2_costOfAllTo 4 RX2 wsX2_costOfAllTo rmX2_costOfAllTo (some .int)) {r : Int32 × Mem} (hq : QI C r) : ∀ (n : Nat) (v1 : Int32) (v2 : Int32) (v3 : Int32) (σ : Mem) (hf : fX2_costOfAllTo_4 n v1 v2 v3 σ = some r), G C 4 0 0 4 [(0, .ref (adr C 0)), (1, .int v1), (2, .int v2), (3, .int v3)] [] σ := by
  intro n
  induction n with
  | zero => intros; rename_i hf; exact absurd (show (none : Option (Int32 × Mem)) = some r from hf) (by simp)
  | succ n ih =>
    intro v1 v2 v3 σ hf
    exact tX2_costOfAllTo_4b X hq (fX2_costOfAllTo_4 n) (fun v1 v2 v3 σ hf => ih v1 v2 v3 σ hf) v1 v2 v3 σ hf
def fX2_costOfAllTo_e (v1 : Int32) (σ : Mem) : Option (Int32 × Mem) :=
  fX2_costOfAllTo_4 FU v1 (0 : Int32) (0 : Int32) σ
set_option maxHeartbeats 4000000 in
set_option maxRecDepth 100000 in
theorem tX2_costOfAllTo_e {C : Ctx} (X : CX C cX2_costOfAllTo 4 RX2 wsX2_costOfAllTo rmX2_costOfAllTo (some .int)) {r : Int32 × Mem} (hq : QI C r) (v1 : Int32) (σ : Mem) (hf : fX2_costOfAllTo_e v1 σ = some r) : G C 4 0 0 0 [(0, .ref (adr C 0)), (1, .int v1)] [] σ := by
  unfold fX2_costOfAllTo_e at hf
  refine g_iconst (v := (0 : Int32)) X dX2_costOfAllTo_0 (by decide) ?_
  refine g_istore_n (L' := [(2, .int (0 : Int32)), (0, .ref (adr C 0)), (1, .int v1)]) X dX2_costOfAllTo_1 rfl (by decide) rfl ?_
  refine g_iconst (v := (0 : Int32)) X dX2_costOfAllTo_2 (by decide) ?_
  refine g_istore_n (L' := [(3, .int (0 : Int32)), (2, .int (0 : Int32)), (0, .ref (adr C 0)), (1, .int v1)]) X dX2_costOfAllTo_3 rfl (by decide) rfl ?_
  refine g_sub [2, 3, 1, 0] (L' := [(0, .ref (adr C 0)), (1, .int v1), (2, .int (0 : Int32)), (3, .int (0 : Int32))]) rfl ?_
  exact tX2_costOfAllTo_4 X hq FU v1 (0 : Int32) (0 : Int32) σ hf
def fX2_costOfAllTo (v1 : Int32) (σ : Mem) : Option (Int32 × Mem) := fX2_costOfAllTo_e v1 σ
theorem kX2_costOfAllTo (l : Launch) (v1 : Int32) (σ : Mem) : KI l yX2_costOfAllTo wsX2_costOfAllTo rmX2_costOfAllTo (fun ad => [.ref (ad 0), .int v1]) σ (fX2_costOfAllTo v1 σ) := fun r hr => kt_of (by decide +kernel) rfl (fun _ => Nat.le_of_ble_eq_true rfl) (fun C X hne hq => tX2_costOfAllTo_e X hq v1 σ hr)
/-! ### X2_middle -/
abbrev rmX2_middle : Room := { frames := 6, cells := 1, slots := 6, locals := 82 }
theorem infX2_middle_X1 : ∀ w ∈ u_ws RX1 TX1 3, w ∈ wsX2_middle := by decide +kernel
theorem infX2_middle_X2 : ∀ w ∈ u_ws RX2 TX2 15, w ∈ wsX2_middle := by decide +kernel
def fX2_middle_54 (r30 : Int32 → Int32 → Int32 → Mem → Option (Sum Int32 Nat × Mem)) (v1 : Int32) (v2 : Int32) (v3 : Int32) (σ : Mem) : Option (Sum Int32 Nat × Mem) :=
  r30 v1 v2 (v3 + 1) σ
set_option maxHeartbeats 4000000 in
set_option maxRecDepth 100000 in
theorem tX2_middle_54 {C : Ctx} (X : CX C cX2_middle 5 RX2 wsX2_middle rmX2_middle (some .int)) (hne : NH C) {r : Sum Int32 Nat × Mem} (hq : QXI C r) (r30 : Int32 → Int32 → Int32 → Mem → Option (Sum Int32 Nat × Mem)) (ih30 : ∀ (v1 : Int32) (v2 : Int32) (v3 : Int32) (σ : Mem), r30 v1 v2 v3 σ = some r → G C 5 0 0 30 [(0, .ref (adr C 0)), (1, .int v1), (2, .int v2), (3, .int v3)] [] σ) (v1 : Int32) (v2 : Int32) (v3 : Int32) (σ : Mem) (hf : fX2_middle_54 r30 v1 v2 v3 σ = some r) : G C 5 0 0 54 [(0, .ref (adr C 0)), (1, .int v1), (2, .int v2), (3, .int v3)] [] σ := by
  unfold fX2_middle_54 at hf
  refine g_iinc (v := (v3 + 1)) (L' := [(3, .int (v3 + 1)), (0, .ref (adr C 0)), (1, .int v1), (2, .int v2)]) X dX2_middle_54 3 rfl rfl (by decide) rfl ?_
  refine g_goto (tgt := 30) X dX2_middle_57 (by decide) ?_
  refine g_sub [1, 2, 3, 0] (L' := [(0, .ref (adr C 0)), (1, .int v1), (2, .int v2), (3, .int (v3 + 1))]) rfl ?_
  exact ih30 v1 v2 (v3 + 1) σ hf
def fX2_middle_30b (r30 : Int32 → Int32 → Int32 → Mem → Option (Sum Int32 Nat × Mem)) (v1 : Int32) (v2 : Int32) (v3 : Int32) (σ : Mem) : Option (Sum Int32 Nat × Mem) :=
  if (100 : Int32) < v3 then (some (Sum.inl v1, σ))
  else (bnd (fX2_costOfAllTo v3 σ) fun u1 σ2 =>
  if v2 ≤ u1 then (fX2_middle_54 r30 v1 v2 v3 σ2)
  else (fX2_middle_54 r30 v3 u1 v3 σ2))
def fX2_middle_30 : Nat → Int32 → Int32 → Int32 → Mem → Option (Sum Int32 Nat × Mem)
  | 0 => fun _ _ _ _ => none
  | n + 1 => fX2_middle_30b (fX2_middle_30 n)
set_option maxHeartbeats 4000000 in
set_option maxRecDepth 100000 in
theorem tX2_middle_30b {C : Ctx} (X : CX C cX2_middle 5 RX2 wsX2_middle rmX2_middle (some .int)) (hne : NH C) {r : Sum Int32 Nat × Mem} (hq : QXI C r) (r30 : Int32 → Int32 → Int32 → Mem → Option (Sum Int32 Nat × Mem)) (ih30 : ∀ (v1 : Int32) (v2 : Int32) (v3 : Int32) (σ : Mem), r30 v1 v2 v3 σ = some r → G C 5 0 0 30 [(0, .ref (adr C 0)), (1, .int v1), (2, .int v2), (3, .int v3)] [] σ) (v1 : Int32) (v2 : Int32) (v3 : Int32) (σ : Mem) (hf : fX2_middle_30b r30 v1 v2 v3 σ = some r) : G C 5 0 0 30 [(0, .ref (adr C 0)), (1, .int v1), (2, .int v2), (3, .int v3)] [] σ := by
  unfold fX2_middle_30b at hf
  refine g_iload_n X dX2_middle_30 3 rfl rfl ?_
  refine g_bipush (v := (100 : Int32)) X dX2_middle_31 (by decide) ?_
  refine g_icmp_gt (tgt := 60) X dX2_middle_33 (by decide) hf (fun hf => ?_) (fun hf => ?_)
  · refine g_iload_n X dX2_middle_60 1 rfl rfl ?_
    exact r_iretX X hq dX2_middle_61 hf
  · refine g_aload_n X dX2_middle_36 0 rfl rfl ?_
    refine g_iload_n X dX2_middle_37 3 rfl rfl ?_
    refine c_VI (q := 0) (vs := [.int v3]) (rest := []) X (kX2_costOfAllTo (cL C) v3 σ) (fun s a hts => cwV 1 hts gX2_middle_X2_costOfAllTo rfl rfl rfl (by decide +kernel) ⟨Nat.le_of_ble_eq_true rfl, Nat.le_of_ble_eq_true rfl⟩) obj_x (rfl : vwCl[2]? = some (RX2, TX2, 15)) rfl rfl rfl rfl (Nat.le_of_ble_eq_true rfl) dX2_middle_38 ⟨Nat.le_of_ble_eq_true rfl, Nat.le_of_ble_eq_true rfl⟩ hf (fun u1 σ2 hf => ?_)
    refine g_istore (L' := [(4, .int u1), (0, .ref (adr C 0)), (1, .int v1), (2, .int v2), (3, .int v3)]) X dX2_middle_41 (by decide) rfl ?_
    refine g_iload X dX2_middle_43 0 rfl ?_
    refine g_iload_n X dX2_middle_45 3 rfl rfl ?_
    refine g_icmp_ge (tgt := 54) X dX2_middle_46 (by decide) hf (fun hf => ?_) (fun hf => ?_)
    · refine g_sub [1, 2, 3, 4] (L' := [(0, .ref (adr C 0)), (1, .int v1), (2, .int v2), (3, .int v3)]) rfl ?_
      exact tX2_middle_54 X hne hq r30 ih30 v1 v2 v3 σ2 hf
    · refine g_iload X dX2_middle_49 0 rfl ?_
      refine g_istore_n (L' := [(2, .int u1), (4, .int u1), (0, .ref (adr C 0)), (1, .int v1), (3, .int v3)]) X dX2_middle_51 rfl (by decide) rfl ?_
      refine g_iload_n X dX2_middle_52 4 rfl rfl ?_
      refine g_istore_n (L' := [(1, .int v3), (2, .int u1), (4, .int u1), (0, .ref (adr C 0)), (3, .int v3)]) X dX2_middle_53 rfl (by decide) rfl ?_
      refine g_sub [3, 0, 1, 4] (L' := [(0, .ref (adr C 0)), (1, .int v3), (2, .int u1), (3, .int v3)]) rfl ?_
      exact tX2_middle_54 X hne hq r30 ih30 v3 u1 v3 σ2 hf
set_option maxHeartbeats 4000000 in
set_option maxRecDepth 100000 in
theorem tX2_middle_30 {C : Ctx} (X : CX C cX2_middle 5 RX2 wsX2_middle rmX2_middle (some .int)) (hne : NH C) {r : Sum Int32 Nat × Mem} (hq : QXI C r) : ∀ (n : Nat) (v1 : Int32) (v2 : Int32) (v3 : Int32) (σ : Mem) (hf : fX2_middle_30 n v1 v2 v3 σ = some r), G C 5 0 0 30 [(0, .ref (adr C 0)), (1, .int v1), (2, .int v2), (3, .int v3)] [] σ := by
  intro n
  induction n with
  | zero => intros; rename_i hf; exact absurd (show (none : Option (Sum Int32 Nat × Mem)) = some r from hf) (by simp)
  | succ n ih =>
    intro v1 v2 v3 σ hf
    exact tX2_middle_30b X hne hq (fX2_middle_30 n) (fun v1 v2 v3 σ hf => ih v1 v2 v3 σ hf) v1 v2 v3 σ hf
def fX2_middle_e (σ : Mem) : Option (Sum Int32 Nat × Mem) :=
  if (rI σ 1 2) = 0 then (some (Sum.inr 2, σ))
  else (bnd (fX2_costOfAllTo (0 : Int32) σ) fun u1 σ2 =>
  fX2_middle_30 FU (0 : Int32) u1 (1 : Int32) σ2)
set_option maxHeartbeats 4000000 in
set_option maxRecDepth 100000 in
theorem tX2_middle_e {C : Ctx} (X : CX C cX2_middle 5 RX2 wsX2_middle rmX2_middle (some .int)) (hne : NH C) {r : Sum Int32 Nat × Mem} (hq : QXI C r) (σ : Mem) (hf : fX2_middle_e σ = some r) : G C 5 0 0 0 [(0, .ref (adr C 0))] [] σ := by
  unfold fX2_middle_e at hf
  refine g_aload_n X dX2_middle_0 0 rfl rfl ?_
  refine g_get (q := 0) (kf := 0) (v := .ref (adr C 1)) X obj_x rfl infX2_middle_X2 (by decide) (by decide +kernel) rfl dX2_middle_1 ?_
  refine g_get (q := 1) (kf := 2) (v := .int (rI σ 1 2)) X (obj_s (k := 1) rfl) rfl infX2_middle_X1 (by decide) (by decide +kernel) rfl dX2_middle_4 ?_
  refine g_if_ne (tgt := 20) X dX2_middle_7 (by decide) hf (fun hf => ?_) (fun hf => ?_)
  · refine g_iconst (v := (0 : Int32)) X dX2_middle_20 (by decide) ?_
    refine g_istore_n (L' := [(1, .int (0 : Int32)), (0, .ref (adr C 0))]) X dX2_middle_21 rfl (by decide) rfl ?_
    refine g_aload_n X dX2_middle_22 1 rfl rfl ?_
    refine g_iconst (v := (0 : Int32)) X dX2_middle_23 (by decide) ?_
    refine c_VI (q := 0) (vs := [.int (0 : Int32)]) (rest := []) X (kX2_costOfAllTo (cL C) (0 : Int32) σ) (fun s a hts => cwV 1 hts gX2_middle_X2_costOfAllTo rfl rfl rfl (by decide +kernel) ⟨Nat.le_of_ble_eq_true rfl, Nat.le_of_ble_eq_true rfl⟩) obj_x (rfl : vwCl[2]? = some (RX2, TX2, 15)) rfl rfl rfl rfl (Nat.le_of_ble_eq_true rfl) dX2_middle_24 ⟨Nat.le_of_ble_eq_true rfl, Nat.le_of_ble_eq_true rfl⟩ hf (fun u1 σ2 hf => ?_)
    refine g_istore_n (L' := [(2, .int u1), (1, .int (0 : Int32)), (0, .ref (adr C 0))]) X dX2_middle_27 rfl (by decide) rfl ?_
    refine g_iconst (v := (1 : Int32)) X dX2_middle_28 (by decide) ?_
    refine g_istore_n (L' := [(3, .int (1 : Int32)), (2, .int u1), (1, .int (0 : Int32)), (0, .ref (adr C 0))]) X dX2_middle_29 rfl (by decide) rfl ?_
    refine g_sub [3, 2, 1, 0] (L' := [(0, .ref (adr C 0)), (1, .int (0 : Int32)), (2, .int u1), (3, .int (1 : Int32))]) rfl ?_
    exact tX2_middle_30 X hne hq FU (0 : Int32) u1 (1 : Int32) σ2 hf
  · exact e_throw (E := iIS) (text := "no heaps") (ik := 122) (is := 194) (ic := 126) X hne hq (by decide +kernel) (by decide +kernel) (by decide +kernel) (by decide +kernel) (by decide +kernel) (by decide +kernel) (Or.inr (Or.inr rfl)) (by decide +kernel) dX2_middle_10 dX2_middle_13 dX2_middle_14 dX2_middle_16 dX2_middle_19 (by decide) (Nat.le_of_ble_eq_true rfl) (by decide) (by decide) ⟨2, (Option.some.inj hf).symm, rfl⟩
def fX2_middle (σ : Mem) : Option (Sum Int32 Nat × Mem) := fX2_middle_e σ
theorem kX2_middle (l : Launch) (σ : Mem) : KXI l yX2_middle wsX2_middle rmX2_middle (fun ad => [.ref (ad 0)]) σ (fX2_middle σ) := fun r hr => kt_of (by decide +kernel) rfl (fun _ => Nat.le_of_ble_eq_true rfl) (fun C X hne hq => tX2_middle_e X hne hq σ hr)
/-! ### X2_about -/
abbrev rmX2_about : Room := { frames := 7, cells := 1, slots := 6, locals := 104 }
theorem infX2_about_X1 : ∀ w ∈ u_ws RX1 TX1 3, w ∈ wsX2_about := by decide +kernel
def fX2_about_60 (s0 : Int32) (σ : Mem) : Option (Sum Int32 Nat × Mem) :=
  some (Sum.inl s0, σ)
set_option maxHeartbeats 4000000 in
set_option maxRecDepth 100000 in
theorem tX2_about_60 {C : Ctx} (X : CX C cX2_about 4 RX2 wsX2_about rmX2_about (some .int)) (hne : NH C) {r : Sum Int32 Nat × Mem} (hq : QXI C r) (s0 : Int32) (σ : Mem) (hf : fX2_about_60 s0 σ = some r) : G C 4 0 0 60 [] [.int s0] σ := by
  unfold fX2_about_60 at hf
  exact r_iretX X hq dX2_about_60 hf
def fX2_about_e (v1 : Int32) (v2 : Int32) (v3 : Int32) (σ : Mem) : Option (Sum Int32 Nat × Mem) :=
  bndX (fX2_checkNumber v1 v2 σ) fun u1 σ2 =>
  bndX (fX2_checkRange v3 (0 : Int32) (2 : Int32) σ2) fun u3 σ4 =>
  if v3 = 0 then (bnd (fX2_side v1 σ4) fun u11 σ12 =>
  grd (decide (ki u11 = 2)) (grd (inb v2 5) (some (Sum.inl (rI σ12 (u11 + 1) (ix v2)), σ12))))
  else (if v3 = (1 : Int32) then (bnd (fX2_side v1 σ4) fun u9 σ10 =>
  grd (decide (ki u9 = 2)) (grd (inb v2 5) (some (Sum.inl (rI σ10 (u9 + 2) (ix v2)), σ10))))
  else (if v1 = 0 then (bnd (fX2_handFrom v2 σ4) fun u5 σ6 =>
  fX2_about_60 u5 σ6)
  else (bnd (fX2_handTo v2 σ4) fun u7 σ8 =>
  fX2_about_60 u7 σ8)))
set_option maxHeartbeats 4000000 in
set_option maxRecDepth 100000 in
theorem tX2_about_e {C : Ctx} (X : CX C cX2_about 4 RX2 wsX2_about rmX2_about (some .int)) (hne : NH C) {r : Sum Int32 Nat × Mem} (hq : QXI C r) (v1 : Int32) (v2 : Int32) (v3 : Int32) (σ : Mem) (hf : fX2_about_e v1 v2 v3 σ = some r) : G C 4 0 0 0 [(0, .ref (adr C 0)), (1, .int v1), (2, .int v2), (3, .int v3)] [] σ := by
  unfold fX2_about_e at hf
  refine g_aload_n X dX2_about_0 0 rfl rfl ?_
  refine g_iload_n X dX2_about_1 1 rfl rfl ?_
  refine g_iload_n X dX2_about_2 2 rfl rfl ?_
  refine c_VXV (q := 0) (vs := [.int v1, .int v2]) (rest := []) X hne (kX2_checkNumber (cL C) v1 v2 σ) (fun s a hts => cwV 2 hts gX2_about_X2_checkNumber rfl rfl rfl (by decide +kernel) ⟨Nat.le_of_ble_eq_true rfl, Nat.le_of_ble_eq_true rfl⟩) obj_x (rfl : vwCl[2]? = some (RX2, TX2, 15)) rfl rfl rfl rfl (Nat.le_of_ble_eq_true rfl) dX2_about_3 ⟨Nat.le_of_ble_eq_true rfl, Nat.le_of_ble_eq_true rfl⟩ ⟨rfl, rfl⟩ hq hf (fun u1 σ2 hf => ?_)
  refine g_iload_n X dX2_about_6 3 rfl rfl ?_
  refine g_iconst (v := (0 : Int32)) X dX2_about_7 (by decide) ?_
  refine g_iconst (v := (2 : Int32)) X dX2_about_8 (by decide) ?_
  refine c_SXV (vs := [.int v3, .int (0 : Int32), .int (2 : Int32)]) (rest := []) X hne (kX2_checkRange (cL C) v3 (0 : Int32) (2 : Int32) σ2) (fun s a hts => va_cwS 3 hts gX2_about_X2_checkRange rfl rfl rfl (by decide +kernel) ⟨Nat.le_of_ble_eq_true rfl, Nat.le_of_ble_eq_true rfl⟩) rfl rfl rfl (Nat.le_of_ble_eq_true rfl) dX2_about_9 ⟨Nat.le_of_ble_eq_true rfl, Nat.le_of_ble_eq_true rfl⟩ ⟨rfl, rfl⟩ hq hf (fun u3 σ4 hf => ?_)
  refine g_iload_n X dX2_about_12 3 rfl rfl ?_
  refine g_if_ne (tgt := 27) X dX2_about_13 (by decide) hf (fun hf => ?_) (fun hf => ?_)
  · refine g_iload_n X dX2_about_27 3 rfl rfl ?_
    refine g_iconst (v := (1 : Int32)) X dX2_about_28 (by decide) ?_
    refine g_icmp_ne (tgt := 43) X dX2_about_29 (by decide) hf (fun hf => ?_) (fun hf => ?_)
    · refine g_iload_n X dX2_about_43 1 rfl rfl ?_
      refine g_if_eq (tgt := 55) X dX2_about_44 (by decide) hf (fun hf => ?_) (fun hf => ?_)
      · refine g_aload_n X dX2_about_55 0 rfl rfl ?_
        refine g_iload_n X dX2_about_56 2 rfl rfl ?_
        refine c_VI (q := 0) (vs := [.int v2]) (rest := []) X (kX2_handFrom (cL C) v2 σ4) (fun s a hts => cwV 1 hts gX2_about_X2_handFrom rfl rfl rfl (by decide +kernel) ⟨Nat.le_of_ble_eq_true rfl, Nat.le_of_ble_eq_true rfl⟩) obj_x (rfl : vwCl[2]? = some (RX2, TX2, 15)) rfl rfl rfl rfl (Nat.le_of_ble_eq_true rfl) dX2_about_57 ⟨Nat.le_of_ble_eq_true rfl, Nat.le_of_ble_eq_true rfl⟩ hf (fun u5 σ6 hf => ?_)
        refine g_sub [] (L' := []) rfl ?_
        exact tX2_about_60 X hne hq u5 σ6 hf
      · refine g_aload_n X dX2_about_47 0 rfl rfl ?_
        refine g_iload_n X dX2_about_48 2 rfl rfl ?_
        refine c_VI (q := 0) (vs := [.int v2]) (rest := []) X (kX2_handTo (cL C) v2 σ4) (fun s a hts => cwV 1 hts gX2_about_X2_handTo rfl rfl rfl (by decide +kernel) ⟨Nat.le_of_ble_eq_true rfl, Nat.le_of_ble_eq_true rfl⟩) obj_x (rfl : vwCl[2]? = some (RX2, TX2, 15)) rfl rfl rfl rfl (Nat.le_of_ble_eq_true rfl) dX2_about_49 ⟨Nat.le_of_ble_eq_true rfl, Nat.le_of_ble_eq_true rfl⟩ hf (fun u7 σ8 hf => ?_)
        refine g_goto (tgt := 60) X dX2_about_52 (by decide) ?_
        refine g_sub [] (L' := []) rfl ?_
        exact tX2_about_60 X hne hq u7 σ8 hf
    · refine g_aload_n X dX2_about_32 0 rfl rfl ?_
      refine g_iload_n X dX2_about_33 1 rfl rfl ?_
      refine c_VR (q := 0) (vs := [.int v1]) (rest := []) X (kX2_side (cL C) v1 σ4) (fun s a hts => cwV 1 hts gX2_about_X2_side rfl rfl rfl (by decide +kernel) ⟨Nat.le_of_ble_eq_true rfl, Nat.le_of_ble_eq_true rfl⟩) obj_x (rfl : vwCl[2]? = some (RX2, TX2, 15)) rfl rfl rfl rfl (Nat.le_of_ble_eq_true rfl) dX2_about_34 ⟨Nat.le_of_ble_eq_true rfl, Nat.le_of_ble_eq_true rfl⟩ hf (fun u9 σ10 hf => ?_)
      replace hf := grd_some hf
      obtain ⟨hu9, hf⟩ := hf
      replace hu9 := of_decide_eq_true hu9
      refine g_get (q := u9) (kf := 1) (v := .ref (adr C (u9 + 2))) X (obj_s hu9) rfl infX2_about_X1 (by decide) (by decide +kernel) rfl dX2_about_37 ?_
      refine g_iload_n X dX2_about_40 2 rfl rfl ?_
      refine g_iald (q := u9 + 2) (n := 5) X (sk2 hu9) (sl2 hu9) dX2_about_41 hf (fun hf => ?_)
      exact r_iretX X hq dX2_about_42 hf
  · refine g_aload_n X dX2_about_16 0 rfl rfl ?_
    refine g_iload_n X dX2_about_17 1 rfl rfl ?_
    refine c_VR (q := 0) (vs := [.int v1]) (rest := []) X (kX2_side (cL C) v1 σ4) (fun s a hts => cwV 1 hts gX2_about_X2_side rfl rfl rfl (by decide +kernel) ⟨Nat.le_of_ble_eq_true rfl, Nat.le_of_ble_eq_true rfl⟩) obj_x (rfl : vwCl[2]? = some (RX2, TX2, 15)) rfl rfl rfl rfl (Nat.le_of_ble_eq_true rfl) dX2_about_18 ⟨Nat.le_of_ble_eq_true rfl, Nat.le_of_ble_eq_true rfl⟩ hf (fun u11 σ12 hf => ?_)
    replace hf := grd_some hf
    obtain ⟨hu11, hf⟩ := hf
    replace hu11 := of_decide_eq_true hu11
    refine g_get (q := u11) (kf := 0) (v := .ref (adr C (u11 + 1))) X (obj_s hu11) rfl infX2_about_X1 (by decide) (by decide +kernel) rfl dX2_about_21 ?_
    refine g_iload_n X dX2_about_24 2 rfl rfl ?_
    refine g_iald (q := u11 + 1) (n := 5) X (sk1 hu11) (sl1 hu11) dX2_about_25 hf (fun hf => ?_)
    exact r_iretX X hq dX2_about_26 hf
def fX2_about (v1 : Int32) (v2 : Int32) (v3 : Int32) (σ : Mem) : Option (Sum Int32 Nat × Mem) := fX2_about_e v1 v2 v3 σ
theorem kX2_about (l : Launch) (v1 : Int32) (v2 : Int32) (v3 : Int32) (σ : Mem) : KXI l yX2_about wsX2_about rmX2_about (fun ad => [.ref (ad 0), .int v1, .int v2, .int v3]) σ (fX2_about v1 v2 v3 σ) := fun r hr => kt_of (by decide +kernel) rfl (fun _ => Nat.le_of_ble_eq_true rfl) (fun C X hne hq => tX2_about_e X hne hq v1 v2 v3 σ hr)
/-! ### X2_count -/
abbrev rmX2_count : Room := { frames := 7, cells := 1, slots := 6, locals := 121 }
theorem infX2_count_X0 : ∀ w ∈ u_ws RX0 TX0 15, w ∈ wsX2_count := by decide +kernel
theorem infX2_count_X1 : ∀ w ∈ u_ws RX1 TX1 3, w ∈ wsX2_count := by decide +kernel
theorem infX2_count_X2 : ∀ w ∈ u_ws RX2 TX2 15, w ∈ wsX2_count := by decide +kernel
def fX2_count_e (v1 : Int32) (σ : Mem) : Option (Sum Int32 Nat × Mem) :=
  bndX (fX2_checkRange v1 (0 : Int32) (6 : Int32) σ) fun u1 σ2 =>
  if v1.toInt = 0 then (some (Sum.inl (rI σ2 1 2), σ2))
  else (if v1.toInt = 1 then (some (Sum.inl (rI σ2 4 2), σ2))
  else (if v1.toInt = 2 then (some (Sum.inl (rI σ2 0 10), σ2))
  else (if v1.toInt = 3 then (some (Sum.inl (rI σ2 0 11), σ2))
  else (if v1.toInt = 4 then (some (Sum.inl (rI σ2 0 12), σ2))
  else (if v1.toInt = 5 then (some (Sum.inl (rI σ2 0 13), σ2))
  else ((bnd (fX2_planned σ2) fun u3 σ4 =>
  grd (decide (u3 = 13)) (bnd (fX2_sum 16 σ4) fun u5 σ6 =>
  some (Sum.inl u5, σ6)))))))))
set_option maxHeartbeats 4000000 in
set_option maxRecDepth 100000 in
theorem tX2_count_e {C : Ctx} (X : CX C cX2_count 2 RX2 wsX2_count rmX2_count (some .int)) (hne : NH C) {r : Sum Int32 Nat × Mem} (hq : QXI C r) (v1 : Int32) (σ : Mem) (hf : fX2_count_e v1 σ = some r) : G C 2 0 0 0 [(0, .ref (adr C 0)), (1, .int v1)] [] σ := by
  unfold fX2_count_e at hf
  refine g_iload_n X dX2_count_0 1 rfl rfl ?_
  refine g_iconst (v := (0 : Int32)) X dX2_count_1 (by decide) ?_
  refine g_bipush (v := (6 : Int32)) X dX2_count_2 (by decide) ?_
  refine c_SXV (vs := [.int v1, .int (0 : Int32), .int (6 : Int32)]) (rest := []) X hne (kX2_checkRange (cL C) v1 (0 : Int32) (6 : Int32) σ) (fun s a hts => va_cwS 3 hts gX2_count_X2_checkRange rfl rfl rfl (by decide +kernel) ⟨Nat.le_of_ble_eq_true rfl, Nat.le_of_ble_eq_true rfl⟩) rfl rfl rfl (Nat.le_of_ble_eq_true rfl) dX2_count_4 ⟨Nat.le_of_ble_eq_true rfl, Nat.le_of_ble_eq_true rfl⟩ ⟨rfl, rfl⟩ hq hf (fun u1 σ2 hf => ?_)
  refine g_iload_n X dX2_count_7 1 rfl rfl ?_
  by_cases hc0 : v1.toInt = 0
  · rw [if_pos hc0] at hf
    refine g_tsIn (tgt := 48) (off := 40) X dX2_count_8 (by rw [hc0]; decide) (by rw [hc0]; decide) (by rw [hc0]; rfl) (by decide) ?_
    refine g_aload_n X dX2_count_48 0 rfl rfl ?_
    refine g_get (q := 0) (kf := 0) (v := .ref (adr C 1)) X obj_x rfl infX2_count_X2 (by decide) (by decide +kernel) rfl dX2_count_49 ?_
    refine g_get (q := 1) (kf := 2) (v := .int (rI σ2 1 2)) X (obj_s (k := 1) rfl) rfl infX2_count_X1 (by decide) (by decide +kernel) rfl dX2_count_52 ?_
    exact r_iretX X hq dX2_count_55 hf
  · rw [if_neg hc0] at hf
    by_cases hc1 : v1.toInt = 1
    · rw [if_pos hc1] at hf
      refine g_tsIn (tgt := 56) (off := 48) X dX2_count_8 (by rw [hc1]; decide) (by rw [hc1]; decide) (by rw [hc1]; rfl) (by decide) ?_
      refine g_aload_n X dX2_count_56 0 rfl rfl ?_
      refine g_get (q := 0) (kf := 1) (v := .ref (adr C 4)) X obj_x rfl infX2_count_X2 (by decide) (by decide +kernel) rfl dX2_count_57 ?_
      refine g_get (q := 4) (kf := 2) (v := .int (rI σ2 4 2)) X (obj_s (k := 4) rfl) rfl infX2_count_X1 (by decide) (by decide +kernel) rfl dX2_count_60 ?_
      exact r_iretX X hq dX2_count_63 hf
    · rw [if_neg hc1] at hf
      by_cases hc2 : v1.toInt = 2
      · rw [if_pos hc2] at hf
        refine g_tsIn (tgt := 64) (off := 56) X dX2_count_8 (by rw [hc2]; decide) (by rw [hc2]; decide) (by rw [hc2]; rfl) (by decide) ?_
        refine g_aload_n X dX2_count_64 0 rfl rfl ?_
        refine g_get (q := 0) (kf := 10) (v := .int (rI σ2 0 10)) X obj_x rfl infX2_count_X2 (by decide) (by decide +kernel) rfl dX2_count_65 ?_
        exact r_iretX X hq dX2_count_68 hf
      · rw [if_neg hc2] at hf
        by_cases hc3 : v1.toInt = 3
        · rw [if_pos hc3] at hf
          refine g_tsIn (tgt := 69) (off := 61) X dX2_count_8 (by rw [hc3]; decide) (by rw [hc3]; decide) (by rw [hc3]; rfl) (by decide) ?_
          refine g_aload_n X dX2_count_69 0 rfl rfl ?_
          refine g_get (q := 0) (kf := 11) (v := .int (rI σ2 0 11)) X obj_x rfl infX2_count_X2 (by decide) (by decide +kernel) rfl dX2_count_70 ?_
          exact r_iretX X hq dX2_count_73 hf
        · rw [if_neg hc3] at hf
          by_cases hc4 : v1.toInt = 4
          · rw [if_pos hc4] at hf
            refine g_tsIn (tgt := 74) (off := 66) X dX2_count_8 (by rw [hc4]; decide) (by rw [hc4]; decide) (by rw [hc4]; rfl) (by decide) ?_
            refine g_aload_n X dX2_count_74 0 rfl rfl ?_
            refine g_get (q := 0) (kf := 12) (v := .int (rI σ2 0 12)) X obj_x rfl infX2_count_X2 (by decide) (by decide +kernel) rfl dX2_count_75 ?_
            exact r_iretX X hq dX2_count_78 hf
          · rw [if_neg hc4] at hf
            by_cases hc5 : v1.toInt = 5
            · rw [if_pos hc5] at hf
              refine g_tsIn (tgt := 79) (off := 71) X dX2_count_8 (by rw [hc5]; decide) (by rw [hc5]; decide) (by rw [hc5]; rfl) (by decide) ?_
              refine g_aload_n X dX2_count_79 0 rfl rfl ?_
              refine g_get (q := 0) (kf := 13) (v := .int (rI σ2 0 13)) X obj_x rfl infX2_count_X2 (by decide) (by decide +kernel) rfl dX2_count_80 ?_
              exact r_iretX X hq dX2_count_83 hf
            · rw [if_neg hc5] at hf
              refine g_tsOut (tgt := 84) X dX2_count_8 (by omega) (by decide) ?_
              refine g_aload_n X dX2_count_84 0 rfl rfl ?_
              refine c_VR (q := 0) (vs := []) (rest := []) X (kX2_planned (cL C) σ2) (fun s a hts => cwV 0 hts gX2_count_X2_planned rfl rfl rfl (by decide +kernel) ⟨Nat.le_of_ble_eq_true rfl, Nat.le_of_ble_eq_true rfl⟩) obj_x (rfl : vwCl[2]? = some (RX2, TX2, 15)) rfl rfl rfl rfl (Nat.le_of_ble_eq_true rfl) dX2_count_85 ⟨Nat.le_of_ble_eq_true rfl, Nat.le_of_ble_eq_true rfl⟩ hf (fun u3 σ4 hf => ?_)
              replace hf := grd_some hf
              obtain ⟨hg, hf⟩ := hf
              replace hg := of_decide_eq_true hg
              subst hg
              refine g_get (q := 13) (kf := 2) (v := .ref (adr C 16)) X (obj_p (k := 13) rfl) rfl infX2_count_X0 (by decide) (by decide +kernel) rfl dX2_count_88 ?_
              refine c_SI (vs := [.ref (adr C 16)]) (rest := []) X (kX2_sum (cL C) 16 rfl σ4) (fun s a hts => va_cwS 1 hts gX2_count_X2_sum rfl rfl rfl (by decide +kernel) ⟨Nat.le_of_ble_eq_true rfl, Nat.le_of_ble_eq_true rfl⟩) rfl rfl rfl (Nat.le_of_ble_eq_true rfl) dX2_count_91 ⟨Nat.le_of_ble_eq_true rfl, Nat.le_of_ble_eq_true rfl⟩ hf (fun u5 σ6 hf => ?_)
              exact r_iretX X hq dX2_count_94 hf
def fX2_count (v1 : Int32) (σ : Mem) : Option (Sum Int32 Nat × Mem) := fX2_count_e v1 σ
theorem kX2_count (l : Launch) (v1 : Int32) (σ : Mem) : KXI l yX2_count wsX2_count rmX2_count (fun ad => [.ref (ad 0), .int v1]) σ (fX2_count v1 σ) := fun r hr => kt_of (by decide +kernel) rfl (fun _ => Nat.le_of_ble_eq_true rfl) (fun C X hne hq => tX2_count_e X hne hq v1 σ hr)
