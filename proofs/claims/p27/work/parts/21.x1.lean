/-! ### X1_isFull -/
abbrev rmX1_isFull : Room := { frames := 0, cells := 0, slots := 0, locals := 8 }
theorem infX1_isFull_X1 : ∀ w ∈ u_ws RX1 TX1 3, w ∈ wsX1_isFull := by decide +kernel
def fX1_isFull_13 (s0 : Int32) (σ : Mem) : Option (Int32 × Mem) :=
  grd (decide (s0 = 0 ∨ s0 = 1)) (some (s0, σ))
set_option maxHeartbeats 4000000 in
set_option maxRecDepth 100000 in
theorem tX1_isFull_13 {C : Ctx} (X : CX C cX1_isFull 1 RX1 wsX1_isFull rmX1_isFull (some .boolean)) {r : Int32 × Mem} (hq : QI C r) (s0 : Int32) (σ : Mem) (hf : fX1_isFull_13 s0 σ = some r) : G C 1 0 0 13 [] [.int s0] σ := by
  unfold fX1_isFull_13 at hf
  exact r_zret X hq dX1_isFull_13 hf
def fX1_isFull_e (v0 : Nat) (σ : Mem) : Option (Int32 × Mem) :=
  if (rI σ v0 2) < (5 : Int32) then (fX1_isFull_13 (0 : Int32) σ)
  else (fX1_isFull_13 (1 : Int32) σ)
set_option maxHeartbeats 4000000 in
set_option maxRecDepth 100000 in
theorem tX1_isFull_e {C : Ctx} (X : CX C cX1_isFull 1 RX1 wsX1_isFull rmX1_isFull (some .boolean)) {r : Int32 × Mem} (hq : QI C r) (v0 : Nat) (hv0 : ki v0 = 2) (σ : Mem) (hf : fX1_isFull_e v0 σ = some r) : G C 1 0 0 0 [(0, .ref (adr C v0))] [] σ := by
  unfold fX1_isFull_e at hf
  refine g_aload_n X dX1_isFull_0 0 rfl rfl ?_
  refine g_get (q := v0) (kf := 2) (v := .int (rI σ v0 2)) X (obj_s hv0) rfl infX1_isFull_X1 (by decide) (by decide +kernel) rfl dX1_isFull_1 ?_
  refine g_iconst (v := (5 : Int32)) X dX1_isFull_4 (by decide) ?_
  refine g_icmp_lt (tgt := 12) X dX1_isFull_5 (by decide) hf (fun hf => ?_) (fun hf => ?_)
  · refine g_iconst (v := (0 : Int32)) X dX1_isFull_12 (by decide) ?_
    refine g_sub [] (L' := []) rfl ?_
    exact tX1_isFull_13 X hq (0 : Int32) σ hf
  · refine g_iconst (v := (1 : Int32)) X dX1_isFull_8 (by decide) ?_
    refine g_goto (tgt := 13) X dX1_isFull_9 (by decide) ?_
    refine g_sub [] (L' := []) rfl ?_
    exact tX1_isFull_13 X hq (1 : Int32) σ hf
def fX1_isFull (v0 : Nat) (σ : Mem) : Option (Int32 × Mem) := fX1_isFull_e v0 σ
theorem kX1_isFull (l : Launch) (v0 : Nat) (hv0 : ki v0 = 2) (σ : Mem) : KI l yX1_isFull wsX1_isFull rmX1_isFull (fun ad => [.ref (ad v0)]) σ (fX1_isFull v0 σ) := fun r hr => kt_of (by decide +kernel) rfl (fun _ => Nat.le_of_ble_eq_true rfl) (fun C X hne hq => tX1_isFull_e X hq v0 hv0 σ hr)
/-! ### X1_holds -/
abbrev rmX1_holds : Room := { frames := 0, cells := 0, slots := 0, locals := 8 }
theorem infX1_holds_X1 : ∀ w ∈ u_ws RX1 TX1 3, w ∈ wsX1_holds := by decide +kernel
def fX1_holds_17 (s0 : Int32) (σ : Mem) : Option (Int32 × Mem) :=
  grd (decide (s0 = 0 ∨ s0 = 1)) (some (s0, σ))
set_option maxHeartbeats 4000000 in
set_option maxRecDepth 100000 in
theorem tX1_holds_17 {C : Ctx} (X : CX C cX1_holds 2 RX1 wsX1_holds rmX1_holds (some .boolean)) {r : Int32 × Mem} (hq : QI C r) (s0 : Int32) (σ : Mem) (hf : fX1_holds_17 s0 σ = some r) : G C 2 0 0 17 [] [.int s0] σ := by
  unfold fX1_holds_17 at hf
  exact r_zret X hq dX1_holds_17 hf
def fX1_holds_16 (σ : Mem) : Option (Int32 × Mem) :=
  fX1_holds_17 (0 : Int32) σ
set_option maxHeartbeats 4000000 in
set_option maxRecDepth 100000 in
theorem tX1_holds_16 {C : Ctx} (X : CX C cX1_holds 2 RX1 wsX1_holds rmX1_holds (some .boolean)) {r : Int32 × Mem} (hq : QI C r) (σ : Mem) (hf : fX1_holds_16 σ = some r) : G C 2 0 0 16 [] [] σ := by
  unfold fX1_holds_16 at hf
  refine g_iconst (v := (0 : Int32)) X dX1_holds_16 (by decide) ?_
  exact tX1_holds_17 X hq (0 : Int32) σ hf
def fX1_holds_e (v0 : Nat) (v1 : Int32) (σ : Mem) : Option (Int32 × Mem) :=
  if v1 < 0 then (fX1_holds_16 σ)
  else (if (rI σ v0 2) ≤ v1 then (fX1_holds_16 σ)
  else (fX1_holds_17 (1 : Int32) σ))
set_option maxHeartbeats 4000000 in
set_option maxRecDepth 100000 in
theorem tX1_holds_e {C : Ctx} (X : CX C cX1_holds 2 RX1 wsX1_holds rmX1_holds (some .boolean)) {r : Int32 × Mem} (hq : QI C r) (v0 : Nat) (v1 : Int32) (hv0 : ki v0 = 2) (σ : Mem) (hf : fX1_holds_e v0 v1 σ = some r) : G C 2 0 0 0 [(0, .ref (adr C v0)), (1, .int v1)] [] σ := by
  unfold fX1_holds_e at hf
  refine g_iload_n X dX1_holds_0 1 rfl rfl ?_
  refine g_if_lt (tgt := 16) X dX1_holds_1 (by decide) hf (fun hf => ?_) (fun hf => ?_)
  · refine g_sub [] (L' := []) rfl ?_
    exact tX1_holds_16 X hq σ hf
  · refine g_iload_n X dX1_holds_4 1 rfl rfl ?_
    refine g_aload_n X dX1_holds_5 0 rfl rfl ?_
    refine g_get (q := v0) (kf := 2) (v := .int (rI σ v0 2)) X (obj_s hv0) rfl infX1_holds_X1 (by decide) (by decide +kernel) rfl dX1_holds_6 ?_
    refine g_icmp_ge (tgt := 16) X dX1_holds_9 (by decide) hf (fun hf => ?_) (fun hf => ?_)
    · refine g_sub [] (L' := []) rfl ?_
      exact tX1_holds_16 X hq σ hf
    · refine g_iconst (v := (1 : Int32)) X dX1_holds_12 (by decide) ?_
      refine g_goto (tgt := 17) X dX1_holds_13 (by decide) ?_
      refine g_sub [] (L' := []) rfl ?_
      exact tX1_holds_17 X hq (1 : Int32) σ hf
def fX1_holds (v0 : Nat) (v1 : Int32) (σ : Mem) : Option (Int32 × Mem) := fX1_holds_e v0 v1 σ
theorem kX1_holds (l : Launch) (v0 : Nat) (v1 : Int32) (hv0 : ki v0 = 2) (σ : Mem) : KI l yX1_holds wsX1_holds rmX1_holds (fun ad => [.ref (ad v0), .int v1]) σ (fX1_holds v0 v1 σ) := fun r hr => kt_of (by decide +kernel) rfl (fun _ => Nat.le_of_ble_eq_true rfl) (fun C X hne hq => tX1_holds_e X hq v0 v1 hv0 σ hr)
/-! ### X1_add -/
abbrev rmX1_add : Room := { frames := 1, cells := 0, slots := 0, locals := 28 }
theorem infX1_add_X1 : ∀ w ∈ u_ws RX1 TX1 3, w ∈ wsX1_add := by decide +kernel
def fX1_add_e (v0 : Nat) (v1 : Int32) (v2 : Int32) (σ : Mem) : Option (Int32 × Mem) :=
  bnd (fX1_isFull v0 σ) fun u1 σ2 =>
  if u1 = 0 then (grd (inb (rI σ2 v0 2) 5) (ltM (wI σ2 (v0 + 1) (ix (rI σ2 v0 2)) v1) fun σ3 =>
  grd (inb (rI σ3 v0 2) 5) (ltM (wI σ3 (v0 + 2) (ix (rI σ3 v0 2)) v2) fun σ4 =>
  ltM (wI σ4 v0 2 ((rI σ4 v0 2) + (1 : Int32))) fun σ5 =>
  some (((rI σ5 v0 2) - (1 : Int32)), σ5))))
  else (some ((-1 : Int32), σ2))
set_option maxHeartbeats 4000000 in
set_option maxRecDepth 100000 in
theorem tX1_add_e {C : Ctx} (X : CX C cX1_add 3 RX1 wsX1_add rmX1_add (some .int)) {r : Int32 × Mem} (hq : QI C r) (v0 : Nat) (v1 : Int32) (v2 : Int32) (hv0 : ki v0 = 2) (σ : Mem) (hf : fX1_add_e v0 v1 v2 σ = some r) : G C 3 0 0 0 [(0, .ref (adr C v0)), (1, .int v1), (2, .int v2)] [] σ := by
  unfold fX1_add_e at hf
  refine g_aload_n X dX1_add_0 0 rfl rfl ?_
  refine c_VI (q := v0) (vs := []) (rest := []) X (kX1_isFull (cL C) v0 hv0 σ) (fun s a hts => cwV 0 hts gX1_add_X1_isFull rfl rfl rfl (by decide +kernel) ⟨Nat.le_of_ble_eq_true rfl, Nat.le_of_ble_eq_true rfl⟩) (obj_s hv0) (rfl : vwCl[1]? = some (RX1, TX1, 3)) rfl rfl rfl rfl (Nat.le_of_ble_eq_true rfl) dX1_add_1 ⟨Nat.le_of_ble_eq_true rfl, Nat.le_of_ble_eq_true rfl⟩ hf (fun u1 σ2 hf => ?_)
  refine g_if_eq (tgt := 9) X dX1_add_4 (by decide) hf (fun hf => ?_) (fun hf => ?_)
  · refine g_aload_n X dX1_add_9 0 rfl rfl ?_
    refine g_get (q := v0) (kf := 0) (v := .ref (adr C (v0 + 1))) X (obj_s hv0) rfl infX1_add_X1 (by decide) (by decide +kernel) rfl dX1_add_10 ?_
    refine g_aload_n X dX1_add_13 0 rfl rfl ?_
    refine g_get (q := v0) (kf := 2) (v := .int (rI σ2 v0 2)) X (obj_s hv0) rfl infX1_add_X1 (by decide) (by decide +kernel) rfl dX1_add_14 ?_
    refine g_iload_n X dX1_add_17 1 rfl rfl ?_
    refine s_iast (q := v0 + 1) (n := 5) X (sk1 hv0) (sl1 hv0) dX1_add_18 hf (fun σ3 hf => ?_)
    refine g_aload_n X dX1_add_19 0 rfl rfl ?_
    refine g_get (q := v0) (kf := 1) (v := .ref (adr C (v0 + 2))) X (obj_s hv0) rfl infX1_add_X1 (by decide) (by decide +kernel) rfl dX1_add_20 ?_
    refine g_aload_n X dX1_add_23 0 rfl rfl ?_
    refine g_get (q := v0) (kf := 2) (v := .int (rI σ3 v0 2)) X (obj_s hv0) rfl infX1_add_X1 (by decide) (by decide +kernel) rfl dX1_add_24 ?_
    refine g_iload_n X dX1_add_27 2 rfl rfl ?_
    refine s_iast (q := v0 + 2) (n := 5) X (sk2 hv0) (sl2 hv0) dX1_add_28 hf (fun σ4 hf => ?_)
    refine g_aload_n X dX1_add_29 0 rfl rfl ?_
    refine g_dup X dX1_add_30 rfl ?_
    refine g_get (q := v0) (kf := 2) (v := .int (rI σ4 v0 2)) X (obj_s hv0) rfl infX1_add_X1 (by decide) (by decide +kernel) rfl dX1_add_31 ?_
    refine g_iconst (v := (1 : Int32)) X dX1_add_34 (by decide) ?_
    refine g_iadd X dX1_add_35 ?_
    refine s_put (q := v0) (kf := 2) X (obj_s hv0) rfl infX1_add_X1 tyX1_ok nmX1 (by decide) (by decide +kernel) rfl rfl rfl rfl (fun _ _ => rfl) (fun _ _ => Nat.le_of_ble_eq_true rfl) dX1_add_36 hf (fun σ5 hf => ?_)
    refine g_aload_n X dX1_add_39 0 rfl rfl ?_
    refine g_get (q := v0) (kf := 2) (v := .int (rI σ5 v0 2)) X (obj_s hv0) rfl infX1_add_X1 (by decide) (by decide +kernel) rfl dX1_add_40 ?_
    refine g_iconst (v := (1 : Int32)) X dX1_add_43 (by decide) ?_
    refine g_isub X dX1_add_44 ?_
    exact r_iret X hq dX1_add_45 hf
  · refine g_iconst (v := (-1 : Int32)) X dX1_add_7 (by decide) ?_
    exact r_iret X hq dX1_add_8 hf
def fX1_add (v0 : Nat) (v1 : Int32) (v2 : Int32) (σ : Mem) : Option (Int32 × Mem) := fX1_add_e v0 v1 v2 σ
theorem kX1_add (l : Launch) (v0 : Nat) (v1 : Int32) (v2 : Int32) (hv0 : ki v0 = 2) (σ : Mem) : KI l yX1_add wsX1_add rmX1_add (fun ad => [.ref (ad v0), .int v1, .int v2]) σ (fX1_add v0 v1 v2 σ) := fun r hr => kt_of (by decide +kernel) rfl (fun _ => Nat.le_of_ble_eq_true rfl) (fun C X hne hq => tX1_add_e X hq v0 v1 v2 hv0 σ hr)
