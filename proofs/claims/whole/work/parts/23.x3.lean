/-! ### X3_thrown -/
abbrev rmX3_thrown : Room := { frames := 0, cells := 0, slots := 0, locals := 8 }
theorem infX3_thrown_X3 : ∀ w ∈ u_ws RX3 TX3 21, w ∈ wsX3_thrown := by decide +kernel
def fX3_thrown_e (σ : Mem) : Option (Int32 × Mem) :=
  some ((rI σ 35 0), σ)
set_option maxHeartbeats 4000000 in
set_option maxRecDepth 100000 in
theorem tX3_thrown_e {C : Ctx} (X : CX C cX3_thrown 1 RX3 wsX3_thrown rmX3_thrown (some .int)) {r : Int32 × Mem} (hq : QI C r) (σ : Mem) (hf : fX3_thrown_e σ = some r) : G C 1 0 0 0 [(0, .ref (adr C 35))] [] σ := by
  unfold fX3_thrown_e at hf
  refine g_aload_n X dX3_thrown_0 0 rfl rfl ?_
  refine g_get (q := 35) (kf := 0) (v := .int (rI σ 35 0)) X obj_m rfl infX3_thrown_X3 (by decide) (by decide +kernel) rfl dX3_thrown_1 ?_
  exact r_iret X hq dX3_thrown_4 hf
def fX3_thrown (σ : Mem) : Option (Int32 × Mem) := fX3_thrown_e σ
theorem kX3_thrown (l : Launch) (σ : Mem) : KI l yX3_thrown wsX3_thrown rmX3_thrown (fun ad => [.ref (ad 35)]) σ (fX3_thrown σ) := fun r hr => kt_of (by decide +kernel) rfl (fun _ => Nat.le_of_ble_eq_true rfl) (fun C X hne hq => tX3_thrown_e X hq σ hr)
/-! ### X3_goesWell -/
abbrev rmX3_goesWell : Room := { frames := 0, cells := 0, slots := 0, locals := 8 }
theorem infX3_goesWell_X3 : ∀ w ∈ u_ws RX3 TX3 21, w ∈ wsX3_goesWell := by decide +kernel
def fX3_goesWell_14 (s0 : Int32) (σ : Mem) : Option (Int32 × Mem) :=
  grd (decide (s0 = 0 ∨ s0 = 1)) (some (s0, σ))
set_option maxHeartbeats 4000000 in
set_option maxRecDepth 100000 in
theorem tX3_goesWell_14 {C : Ctx} (X : CX C cX3_goesWell 2 RX3 wsX3_goesWell rmX3_goesWell (some .boolean)) {r : Int32 × Mem} (hq : QI C r) (s0 : Int32) (σ : Mem) (hf : fX3_goesWell_14 s0 σ = some r) : G C 2 0 0 14 [] [.int s0] σ := by
  unfold fX3_goesWell_14 at hf
  exact r_zret X hq dX3_goesWell_14 hf
def fX3_goesWell_e (v1 : Int32) (σ : Mem) : Option (Int32 × Mem) :=
  ltM (wI σ 35 0 v1) fun σ1 =>
  if v1 = 0 then (fX3_goesWell_14 (1 : Int32) σ1)
  else (fX3_goesWell_14 (0 : Int32) σ1)
set_option maxHeartbeats 4000000 in
set_option maxRecDepth 100000 in
theorem tX3_goesWell_e {C : Ctx} (X : CX C cX3_goesWell 2 RX3 wsX3_goesWell rmX3_goesWell (some .boolean)) {r : Int32 × Mem} (hq : QI C r) (v1 : Int32) (σ : Mem) (hf : fX3_goesWell_e v1 σ = some r) : G C 2 0 0 0 [(0, .ref (adr C 35)), (1, .int v1)] [] σ := by
  unfold fX3_goesWell_e at hf
  refine g_aload_n X dX3_goesWell_0 0 rfl rfl ?_
  refine g_iload_n X dX3_goesWell_1 1 rfl rfl ?_
  refine s_put (q := 35) (kf := 0) X obj_m rfl infX3_goesWell_X3 tyX3_ok nmX3 (by decide) (by decide +kernel) rfl rfl rfl rfl (fun _ _ => rfl) (fun _ _ => Nat.le_of_ble_eq_true rfl) dX3_goesWell_2 hf (fun σ1 hf => ?_)
  refine g_iload_n X dX3_goesWell_5 1 rfl rfl ?_
  refine g_if_ne (tgt := 13) X dX3_goesWell_6 (by decide) hf (fun hf => ?_) (fun hf => ?_)
  · refine g_iconst (v := (0 : Int32)) X dX3_goesWell_13 (by decide) ?_
    refine g_sub [] (L' := []) rfl ?_
    exact tX3_goesWell_14 X hq (0 : Int32) σ1 hf
  · refine g_iconst (v := (1 : Int32)) X dX3_goesWell_9 (by decide) ?_
    refine g_goto (tgt := 14) X dX3_goesWell_10 (by decide) ?_
    refine g_sub [] (L' := []) rfl ?_
    exact tX3_goesWell_14 X hq (1 : Int32) σ1 hf
def fX3_goesWell (v1 : Int32) (σ : Mem) : Option (Int32 × Mem) := fX3_goesWell_e v1 σ
theorem kX3_goesWell (l : Launch) (v1 : Int32) (σ : Mem) : KI l yX3_goesWell wsX3_goesWell rmX3_goesWell (fun ad => [.ref (ad 35), .int v1]) σ (fX3_goesWell v1 σ) := fun r hr => kt_of (by decide +kernel) rfl (fun _ => Nat.le_of_ble_eq_true rfl) (fun C X hne hq => tX3_goesWell_e X hq v1 σ hr)
/-! ### X3_in -/
abbrev rmX3_in : Room := { frames := 0, cells := 0, slots := 0, locals := 8 }
def fX3_in_15 (s0 : Int32) (σ : Mem) : Option (Int32 × Mem) :=
  grd (decide (s0 = 0 ∨ s0 = 1)) (some (s0, σ))
set_option maxHeartbeats 4000000 in
set_option maxRecDepth 100000 in
theorem tX3_in_15 {C : Ctx} (X : CX C cX3_in 3 RX3 wsX3_in rmX3_in (some .boolean)) {r : Int32 × Mem} (hq : QI C r) (s0 : Int32) (σ : Mem) (hf : fX3_in_15 s0 σ = some r) : G C 3 0 0 15 [] [.int s0] σ := by
  unfold fX3_in_15 at hf
  exact r_zret X hq dX3_in_15 hf
def fX3_in_14 (σ : Mem) : Option (Int32 × Mem) :=
  fX3_in_15 (0 : Int32) σ
set_option maxHeartbeats 4000000 in
set_option maxRecDepth 100000 in
theorem tX3_in_14 {C : Ctx} (X : CX C cX3_in 3 RX3 wsX3_in rmX3_in (some .boolean)) {r : Int32 × Mem} (hq : QI C r) (σ : Mem) (hf : fX3_in_14 σ = some r) : G C 3 0 0 14 [] [] σ := by
  unfold fX3_in_14 at hf
  refine g_iconst (v := (0 : Int32)) X dX3_in_14 (by decide) ?_
  exact tX3_in_15 X hq (0 : Int32) σ hf
def fX3_in_e (v0 : Int32) (v1 : Int32) (v2 : Int32) (σ : Mem) : Option (Int32 × Mem) :=
  if v0 < v1 then (fX3_in_14 σ)
  else (if v2 < v0 then (fX3_in_14 σ)
  else (fX3_in_15 (1 : Int32) σ))
set_option maxHeartbeats 4000000 in
set_option maxRecDepth 100000 in
theorem tX3_in_e {C : Ctx} (X : CX C cX3_in 3 RX3 wsX3_in rmX3_in (some .boolean)) {r : Int32 × Mem} (hq : QI C r) (v0 : Int32) (v1 : Int32) (v2 : Int32) (σ : Mem) (hf : fX3_in_e v0 v1 v2 σ = some r) : G C 3 0 0 0 [(0, .int v0), (1, .int v1), (2, .int v2)] [] σ := by
  unfold fX3_in_e at hf
  refine g_iload_n X dX3_in_0 0 rfl rfl ?_
  refine g_iload_n X dX3_in_1 1 rfl rfl ?_
  refine g_icmp_lt (tgt := 14) X dX3_in_2 (by decide) hf (fun hf => ?_) (fun hf => ?_)
  · refine g_sub [] (L' := []) rfl ?_
    exact tX3_in_14 X hq σ hf
  · refine g_iload_n X dX3_in_5 0 rfl rfl ?_
    refine g_iload_n X dX3_in_6 2 rfl rfl ?_
    refine g_icmp_gt (tgt := 14) X dX3_in_7 (by decide) hf (fun hf => ?_) (fun hf => ?_)
    · refine g_sub [] (L' := []) rfl ?_
      exact tX3_in_14 X hq σ hf
    · refine g_iconst (v := (1 : Int32)) X dX3_in_10 (by decide) ?_
      refine g_goto (tgt := 15) X dX3_in_11 (by decide) ?_
      refine g_sub [] (L' := []) rfl ?_
      exact tX3_in_15 X hq (1 : Int32) σ hf
def fX3_in (v0 : Int32) (v1 : Int32) (v2 : Int32) (σ : Mem) : Option (Int32 × Mem) := fX3_in_e v0 v1 v2 σ
theorem kX3_in (l : Launch) (v0 : Int32) (v1 : Int32) (v2 : Int32) (σ : Mem) : KI l yX3_in wsX3_in rmX3_in (fun ad => [.int v0, .int v1, .int v2]) σ (fX3_in v0 v1 v2 σ) := fun r hr => kt_of (by decide +kernel) rfl (fun _ => Nat.le_of_ble_eq_true rfl) (fun C X hne hq => tX3_in_e X hq v0 v1 v2 σ hr)
/-! ### X3_isHeap -/
abbrev rmX3_isHeap : Room := { frames := 1, cells := 0, slots := 0, locals := 30 }
theorem infX3_isHeap_X3 : ∀ w ∈ u_ws RX3 TX3 21, w ∈ wsX3_isHeap := by decide +kernel
def fX3_isHeap_e (v1 : Int32) (σ : Mem) : Option (Int32 × Mem) :=
  bnd (fX3_in v1 (0 : Int32) ((rI σ 35 1) - (1 : Int32)) σ) fun u1 σ2 =>
  grd (decide (u1 = 0 ∨ u1 = 1)) (some (u1, σ2))
set_option maxHeartbeats 4000000 in
set_option maxRecDepth 100000 in
theorem tX3_isHeap_e {C : Ctx} (X : CX C cX3_isHeap 2 RX3 wsX3_isHeap rmX3_isHeap (some .boolean)) {r : Int32 × Mem} (hq : QI C r) (v1 : Int32) (σ : Mem) (hf : fX3_isHeap_e v1 σ = some r) : G C 2 0 0 0 [(0, .ref (adr C 35)), (1, .int v1)] [] σ := by
  unfold fX3_isHeap_e at hf
  refine g_iload_n X dX3_isHeap_0 1 rfl rfl ?_
  refine g_iconst (v := (0 : Int32)) X dX3_isHeap_1 (by decide) ?_
  refine g_aload_n X dX3_isHeap_2 0 rfl rfl ?_
  refine g_get (q := 35) (kf := 1) (v := .int (rI σ 35 1)) X obj_m rfl infX3_isHeap_X3 (by decide) (by decide +kernel) rfl dX3_isHeap_3 ?_
  refine g_iconst (v := (1 : Int32)) X dX3_isHeap_6 (by decide) ?_
  refine g_isub X dX3_isHeap_7 ?_
  refine c_SI (vs := [.int v1, .int (0 : Int32), .int ((rI σ 35 1) - (1 : Int32))]) (rest := []) X (kX3_in (cL C) v1 (0 : Int32) ((rI σ 35 1) - (1 : Int32)) σ) (fun s a hts => va_cwS 3 hts gX3_isHeap_X3_in rfl rfl rfl (by decide +kernel) ⟨Nat.le_of_ble_eq_true rfl, Nat.le_of_ble_eq_true rfl⟩) rfl rfl rfl (Nat.le_of_ble_eq_true rfl) dX3_isHeap_8 ⟨Nat.le_of_ble_eq_true rfl, Nat.le_of_ble_eq_true rfl⟩ hf (fun u1 σ2 hf => ?_)
  exact r_zret X hq dX3_isHeap_11 hf
def fX3_isHeap (v1 : Int32) (σ : Mem) : Option (Int32 × Mem) := fX3_isHeap_e v1 σ
theorem kX3_isHeap (l : Launch) (v1 : Int32) (σ : Mem) : KI l yX3_isHeap wsX3_isHeap rmX3_isHeap (fun ad => [.ref (ad 35), .int v1]) σ (fX3_isHeap v1 σ) := fun r hr => kt_of (by decide +kernel) rfl (fun _ => Nat.le_of_ble_eq_true rfl) (fun C X hne hq => tX3_isHeap_e X hq v1 σ hr)
/-! ### X3_isHole -/
abbrev rmX3_isHole : Room := { frames := 1, cells := 0, slots := 0, locals := 30 }
theorem infX3_isHole_X3 : ∀ w ∈ u_ws RX3 TX3 21, w ∈ wsX3_isHole := by decide +kernel
def fX3_isHole_e (v1 : Int32) (σ : Mem) : Option (Int32 × Mem) :=
  bnd (fX3_in v1 (0 : Int32) ((rI σ 35 2) - (1 : Int32)) σ) fun u1 σ2 =>
  grd (decide (u1 = 0 ∨ u1 = 1)) (some (u1, σ2))
set_option maxHeartbeats 4000000 in
set_option maxRecDepth 100000 in
theorem tX3_isHole_e {C : Ctx} (X : CX C cX3_isHole 2 RX3 wsX3_isHole rmX3_isHole (some .boolean)) {r : Int32 × Mem} (hq : QI C r) (v1 : Int32) (σ : Mem) (hf : fX3_isHole_e v1 σ = some r) : G C 2 0 0 0 [(0, .ref (adr C 35)), (1, .int v1)] [] σ := by
  unfold fX3_isHole_e at hf
  refine g_iload_n X dX3_isHole_0 1 rfl rfl ?_
  refine g_iconst (v := (0 : Int32)) X dX3_isHole_1 (by decide) ?_
  refine g_aload_n X dX3_isHole_2 0 rfl rfl ?_
  refine g_get (q := 35) (kf := 2) (v := .int (rI σ 35 2)) X obj_m rfl infX3_isHole_X3 (by decide) (by decide +kernel) rfl dX3_isHole_3 ?_
  refine g_iconst (v := (1 : Int32)) X dX3_isHole_6 (by decide) ?_
  refine g_isub X dX3_isHole_7 ?_
  refine c_SI (vs := [.int v1, .int (0 : Int32), .int ((rI σ 35 2) - (1 : Int32))]) (rest := []) X (kX3_in (cL C) v1 (0 : Int32) ((rI σ 35 2) - (1 : Int32)) σ) (fun s a hts => va_cwS 3 hts gX3_isHole_X3_in rfl rfl rfl (by decide +kernel) ⟨Nat.le_of_ble_eq_true rfl, Nat.le_of_ble_eq_true rfl⟩) rfl rfl rfl (Nat.le_of_ble_eq_true rfl) dX3_isHole_8 ⟨Nat.le_of_ble_eq_true rfl, Nat.le_of_ble_eq_true rfl⟩ hf (fun u1 σ2 hf => ?_)
  exact r_zret X hq dX3_isHole_11 hf
def fX3_isHole (v1 : Int32) (σ : Mem) : Option (Int32 × Mem) := fX3_isHole_e v1 σ
theorem kX3_isHole (l : Launch) (v1 : Int32) (σ : Mem) : KI l yX3_isHole wsX3_isHole rmX3_isHole (fun ad => [.ref (ad 35), .int v1]) σ (fX3_isHole v1 σ) := fun r hr => kt_of (by decide +kernel) rfl (fun _ => Nat.le_of_ble_eq_true rfl) (fun C X hne hq => tX3_isHole_e X hq v1 σ hr)
/-! ### X3_isWay -/
abbrev rmX3_isWay : Room := { frames := 2, cells := 0, slots := 0, locals := 51 }
def fX3_isWay_21 (s0 : Int32) (σ : Mem) : Option (Int32 × Mem) :=
  grd (decide (s0 = 0 ∨ s0 = 1)) (some (s0, σ))
set_option maxHeartbeats 4000000 in
set_option maxRecDepth 100000 in
theorem tX3_isWay_21 {C : Ctx} (X : CX C cX3_isWay 3 RX3 wsX3_isWay rmX3_isWay (some .boolean)) {r : Int32 × Mem} (hq : QI C r) (s0 : Int32) (σ : Mem) (hf : fX3_isWay_21 s0 σ = some r) : G C 3 0 0 21 [] [.int s0] σ := by
  unfold fX3_isWay_21 at hf
  exact r_zret X hq dX3_isWay_21 hf
def fX3_isWay_20 (σ : Mem) : Option (Int32 × Mem) :=
  fX3_isWay_21 (0 : Int32) σ
set_option maxHeartbeats 4000000 in
set_option maxRecDepth 100000 in
theorem tX3_isWay_20 {C : Ctx} (X : CX C cX3_isWay 3 RX3 wsX3_isWay rmX3_isWay (some .boolean)) {r : Int32 × Mem} (hq : QI C r) (σ : Mem) (hf : fX3_isWay_20 σ = some r) : G C 3 0 0 20 [] [] σ := by
  unfold fX3_isWay_20 at hf
  refine g_iconst (v := (0 : Int32)) X dX3_isWay_20 (by decide) ?_
  exact tX3_isWay_21 X hq (0 : Int32) σ hf
def fX3_isWay_e (v1 : Int32) (v2 : Int32) (σ : Mem) : Option (Int32 × Mem) :=
  bnd (fX3_isHeap v1 σ) fun u1 σ2 =>
  if u1 = 0 then (fX3_isWay_20 σ2)
  else (bnd (fX3_isHole v2 σ2) fun u3 σ4 =>
  if u3 = 0 then (fX3_isWay_20 σ4)
  else (fX3_isWay_21 (1 : Int32) σ4))
set_option maxHeartbeats 4000000 in
set_option maxRecDepth 100000 in
theorem tX3_isWay_e {C : Ctx} (X : CX C cX3_isWay 3 RX3 wsX3_isWay rmX3_isWay (some .boolean)) {r : Int32 × Mem} (hq : QI C r) (v1 : Int32) (v2 : Int32) (σ : Mem) (hf : fX3_isWay_e v1 v2 σ = some r) : G C 3 0 0 0 [(0, .ref (adr C 35)), (1, .int v1), (2, .int v2)] [] σ := by
  unfold fX3_isWay_e at hf
  refine g_aload_n X dX3_isWay_0 0 rfl rfl ?_
  refine g_iload_n X dX3_isWay_1 1 rfl rfl ?_
  refine c_VI (q := 35) (vs := [.int v1]) (rest := []) X (kX3_isHeap (cL C) v1 σ) (fun s a hts => cwV 1 hts gX3_isWay_X3_isHeap rfl rfl rfl (by decide +kernel) ⟨Nat.le_of_ble_eq_true rfl, Nat.le_of_ble_eq_true rfl⟩) obj_m (rfl : vwCl[3]? = some (RX3, TX3, 21)) rfl rfl rfl rfl (Nat.le_of_ble_eq_true rfl) dX3_isWay_2 ⟨Nat.le_of_ble_eq_true rfl, Nat.le_of_ble_eq_true rfl⟩ hf (fun u1 σ2 hf => ?_)
  refine g_if_eq (tgt := 20) X dX3_isWay_5 (by decide) hf (fun hf => ?_) (fun hf => ?_)
  · refine g_sub [] (L' := []) rfl ?_
    exact tX3_isWay_20 X hq σ2 hf
  · refine g_aload_n X dX3_isWay_8 0 rfl rfl ?_
    refine g_iload_n X dX3_isWay_9 2 rfl rfl ?_
    refine c_VI (q := 35) (vs := [.int v2]) (rest := []) X (kX3_isHole (cL C) v2 σ2) (fun s a hts => cwV 1 hts gX3_isWay_X3_isHole rfl rfl rfl (by decide +kernel) ⟨Nat.le_of_ble_eq_true rfl, Nat.le_of_ble_eq_true rfl⟩) obj_m (rfl : vwCl[3]? = some (RX3, TX3, 21)) rfl rfl rfl rfl (Nat.le_of_ble_eq_true rfl) dX3_isWay_10 ⟨Nat.le_of_ble_eq_true rfl, Nat.le_of_ble_eq_true rfl⟩ hf (fun u3 σ4 hf => ?_)
    refine g_if_eq (tgt := 20) X dX3_isWay_13 (by decide) hf (fun hf => ?_) (fun hf => ?_)
    · refine g_sub [] (L' := []) rfl ?_
      exact tX3_isWay_20 X hq σ4 hf
    · refine g_iconst (v := (1 : Int32)) X dX3_isWay_16 (by decide) ?_
      refine g_goto (tgt := 21) X dX3_isWay_17 (by decide) ?_
      refine g_sub [] (L' := []) rfl ?_
      exact tX3_isWay_21 X hq (1 : Int32) σ4 hf
def fX3_isWay (v1 : Int32) (v2 : Int32) (σ : Mem) : Option (Int32 × Mem) := fX3_isWay_e v1 v2 σ
theorem kX3_isWay (l : Launch) (v1 : Int32) (v2 : Int32) (σ : Mem) : KI l yX3_isWay wsX3_isWay rmX3_isWay (fun ad => [.ref (ad 35), .int v1, .int v2]) σ (fX3_isWay v1 v2 σ) := fun r hr => kt_of (by decide +kernel) rfl (fun _ => Nat.le_of_ble_eq_true rfl) (fun C X hne hq => tX3_isWay_e X hq v1 v2 σ hr)
/-! ### X3_isOne -/
abbrev rmX3_isOne : Room := { frames := 2, cells := 0, slots := 0, locals := 51 }
def fX3_isOne_17 (s0 : Int32) (σ : Mem) : Option (Int32 × Mem) :=
  grd (decide (s0 = 0 ∨ s0 = 1)) (some (s0, σ))
set_option maxHeartbeats 4000000 in
set_option maxRecDepth 100000 in
theorem tX3_isOne_17 {C : Ctx} (X : CX C cX3_isOne 3 RX3 wsX3_isOne rmX3_isOne (some .boolean)) {r : Int32 × Mem} (hq : QI C r) (s0 : Int32) (σ : Mem) (hf : fX3_isOne_17 s0 σ = some r) : G C 3 0 0 17 [] [.int s0] σ := by
  unfold fX3_isOne_17 at hf
  exact r_zret X hq dX3_isOne_17 hf
def fX3_isOne_e (v1 : Int32) (v2 : Int32) (σ : Mem) : Option (Int32 × Mem) :=
  if v1 = 0 then (bnd (fX3_isHeap v2 σ) fun u1 σ2 =>
  fX3_isOne_17 u1 σ2)
  else (bnd (fX3_isHole v2 σ) fun u3 σ4 =>
  fX3_isOne_17 u3 σ4)
set_option maxHeartbeats 4000000 in
set_option maxRecDepth 100000 in
theorem tX3_isOne_e {C : Ctx} (X : CX C cX3_isOne 3 RX3 wsX3_isOne rmX3_isOne (some .boolean)) {r : Int32 × Mem} (hq : QI C r) (v1 : Int32) (v2 : Int32) (σ : Mem) (hf : fX3_isOne_e v1 v2 σ = some r) : G C 3 0 0 0 [(0, .ref (adr C 35)), (1, .int v1), (2, .int v2)] [] σ := by
  unfold fX3_isOne_e at hf
  refine g_iload_n X dX3_isOne_0 1 rfl rfl ?_
  refine g_if_eq (tgt := 12) X dX3_isOne_1 (by decide) hf (fun hf => ?_) (fun hf => ?_)
  · refine g_aload_n X dX3_isOne_12 0 rfl rfl ?_
    refine g_iload_n X dX3_isOne_13 2 rfl rfl ?_
    refine c_VI (q := 35) (vs := [.int v2]) (rest := []) X (kX3_isHeap (cL C) v2 σ) (fun s a hts => cwV 1 hts gX3_isOne_X3_isHeap rfl rfl rfl (by decide +kernel) ⟨Nat.le_of_ble_eq_true rfl, Nat.le_of_ble_eq_true rfl⟩) obj_m (rfl : vwCl[3]? = some (RX3, TX3, 21)) rfl rfl rfl rfl (Nat.le_of_ble_eq_true rfl) dX3_isOne_14 ⟨Nat.le_of_ble_eq_true rfl, Nat.le_of_ble_eq_true rfl⟩ hf (fun u1 σ2 hf => ?_)
    refine g_sub [] (L' := []) rfl ?_
    exact tX3_isOne_17 X hq u1 σ2 hf
  · refine g_aload_n X dX3_isOne_4 0 rfl rfl ?_
    refine g_iload_n X dX3_isOne_5 2 rfl rfl ?_
    refine c_VI (q := 35) (vs := [.int v2]) (rest := []) X (kX3_isHole (cL C) v2 σ) (fun s a hts => cwV 1 hts gX3_isOne_X3_isHole rfl rfl rfl (by decide +kernel) ⟨Nat.le_of_ble_eq_true rfl, Nat.le_of_ble_eq_true rfl⟩) obj_m (rfl : vwCl[3]? = some (RX3, TX3, 21)) rfl rfl rfl rfl (Nat.le_of_ble_eq_true rfl) dX3_isOne_6 ⟨Nat.le_of_ble_eq_true rfl, Nat.le_of_ble_eq_true rfl⟩ hf (fun u3 σ4 hf => ?_)
    refine g_goto (tgt := 17) X dX3_isOne_9 (by decide) ?_
    refine g_sub [] (L' := []) rfl ?_
    exact tX3_isOne_17 X hq u3 σ4 hf
def fX3_isOne (v1 : Int32) (v2 : Int32) (σ : Mem) : Option (Int32 × Mem) := fX3_isOne_e v1 v2 σ
theorem kX3_isOne (l : Launch) (v1 : Int32) (v2 : Int32) (σ : Mem) : KI l yX3_isOne wsX3_isOne rmX3_isOne (fun ad => [.ref (ad 35), .int v1, .int v2]) σ (fX3_isOne v1 v2 σ) := fun r hr => kt_of (by decide +kernel) rfl (fun _ => Nat.le_of_ble_eq_true rfl) (fun C X hne hq => tX3_isOne_e X hq v1 v2 σ hr)
/-! ### X3_isRight -/
abbrev rmX3_isRight : Room := { frames := 1, cells := 0, slots := 0, locals := 30 }
def fX3_isRight_25 (s0 : Int32) (σ : Mem) : Option (Int32 × Mem) :=
  grd (decide (s0 = 0 ∨ s0 = 1)) (some (s0, σ))
set_option maxHeartbeats 4000000 in
set_option maxRecDepth 100000 in
theorem tX3_isRight_25 {C : Ctx} (X : CX C cX3_isRight 2 RX3 wsX3_isRight rmX3_isRight (some .boolean)) {r : Int32 × Mem} (hq : QI C r) (s0 : Int32) (σ : Mem) (hf : fX3_isRight_25 s0 σ = some r) : G C 2 0 0 25 [] [.int s0] σ := by
  unfold fX3_isRight_25 at hf
  exact r_zret X hq dX3_isRight_25 hf
def fX3_isRight_24 (σ : Mem) : Option (Int32 × Mem) :=
  fX3_isRight_25 (0 : Int32) σ
set_option maxHeartbeats 4000000 in
set_option maxRecDepth 100000 in
theorem tX3_isRight_24 {C : Ctx} (X : CX C cX3_isRight 2 RX3 wsX3_isRight rmX3_isRight (some .boolean)) {r : Int32 × Mem} (hq : QI C r) (σ : Mem) (hf : fX3_isRight_24 σ = some r) : G C 2 0 0 24 [] [] σ := by
  unfold fX3_isRight_24 at hf
  refine g_iconst (v := (0 : Int32)) X dX3_isRight_24 (by decide) ?_
  exact tX3_isRight_25 X hq (0 : Int32) σ hf
def fX3_isRight_e (v0 : Int32) (v1 : Int32) (σ : Mem) : Option (Int32 × Mem) :=
  bnd (fX3_in v0 (0 : Int32) (100 : Int32) σ) fun u1 σ2 =>
  if u1 = 0 then (fX3_isRight_24 σ2)
  else (bnd (fX3_in v1 (1 : Int32) (20 : Int32) σ2) fun u3 σ4 =>
  if u3 = 0 then (fX3_isRight_24 σ4)
  else (fX3_isRight_25 (1 : Int32) σ4))
set_option maxHeartbeats 4000000 in
set_option maxRecDepth 100000 in
theorem tX3_isRight_e {C : Ctx} (X : CX C cX3_isRight 2 RX3 wsX3_isRight rmX3_isRight (some .boolean)) {r : Int32 × Mem} (hq : QI C r) (v0 : Int32) (v1 : Int32) (σ : Mem) (hf : fX3_isRight_e v0 v1 σ = some r) : G C 2 0 0 0 [(0, .int v0), (1, .int v1)] [] σ := by
  unfold fX3_isRight_e at hf
  refine g_iload_n X dX3_isRight_0 0 rfl rfl ?_
  refine g_iconst (v := (0 : Int32)) X dX3_isRight_1 (by decide) ?_
  refine g_bipush (v := (100 : Int32)) X dX3_isRight_2 (by decide) ?_
  refine c_SI (vs := [.int v0, .int (0 : Int32), .int (100 : Int32)]) (rest := []) X (kX3_in (cL C) v0 (0 : Int32) (100 : Int32) σ) (fun s a hts => va_cwS 3 hts gX3_isRight_X3_in rfl rfl rfl (by decide +kernel) ⟨Nat.le_of_ble_eq_true rfl, Nat.le_of_ble_eq_true rfl⟩) rfl rfl rfl (Nat.le_of_ble_eq_true rfl) dX3_isRight_4 ⟨Nat.le_of_ble_eq_true rfl, Nat.le_of_ble_eq_true rfl⟩ hf (fun u1 σ2 hf => ?_)
  refine g_if_eq (tgt := 24) X dX3_isRight_7 (by decide) hf (fun hf => ?_) (fun hf => ?_)
  · refine g_sub [] (L' := []) rfl ?_
    exact tX3_isRight_24 X hq σ2 hf
  · refine g_iload_n X dX3_isRight_10 1 rfl rfl ?_
    refine g_iconst (v := (1 : Int32)) X dX3_isRight_11 (by decide) ?_
    refine g_bipush (v := (20 : Int32)) X dX3_isRight_12 (by decide) ?_
    refine c_SI (vs := [.int v1, .int (1 : Int32), .int (20 : Int32)]) (rest := []) X (kX3_in (cL C) v1 (1 : Int32) (20 : Int32) σ2) (fun s a hts => va_cwS 3 hts gX3_isRight_X3_in rfl rfl rfl (by decide +kernel) ⟨Nat.le_of_ble_eq_true rfl, Nat.le_of_ble_eq_true rfl⟩) rfl rfl rfl (Nat.le_of_ble_eq_true rfl) dX3_isRight_14 ⟨Nat.le_of_ble_eq_true rfl, Nat.le_of_ble_eq_true rfl⟩ hf (fun u3 σ4 hf => ?_)
    refine g_if_eq (tgt := 24) X dX3_isRight_17 (by decide) hf (fun hf => ?_) (fun hf => ?_)
    · refine g_sub [] (L' := []) rfl ?_
      exact tX3_isRight_24 X hq σ4 hf
    · refine g_iconst (v := (1 : Int32)) X dX3_isRight_20 (by decide) ?_
      refine g_goto (tgt := 25) X dX3_isRight_21 (by decide) ?_
      refine g_sub [] (L' := []) rfl ?_
      exact tX3_isRight_25 X hq (1 : Int32) σ4 hf
def fX3_isRight (v0 : Int32) (v1 : Int32) (σ : Mem) : Option (Int32 × Mem) := fX3_isRight_e v0 v1 σ
theorem kX3_isRight (l : Launch) (v0 : Int32) (v1 : Int32) (σ : Mem) : KI l yX3_isRight wsX3_isRight rmX3_isRight (fun ad => [.int v0, .int v1]) σ (fX3_isRight v0 v1 σ) := fun r hr => kt_of (by decide +kernel) rfl (fun _ => Nat.le_of_ble_eq_true rfl) (fun C X hne hq => tX3_isRight_e X hq v0 v1 σ hr)
/-! ### X3_lesser -/
abbrev rmX3_lesser : Room := { frames := 0, cells := 0, slots := 0, locals := 8 }
def fX3_lesser_10 (s0 : Int32) (σ : Mem) : Option (Int32 × Mem) :=
  some (s0, σ)
set_option maxHeartbeats 4000000 in
set_option maxRecDepth 100000 in
theorem tX3_lesser_10 {C : Ctx} (X : CX C cX3_lesser 2 RX3 wsX3_lesser rmX3_lesser (some .int)) {r : Int32 × Mem} (hq : QI C r) (s0 : Int32) (σ : Mem) (hf : fX3_lesser_10 s0 σ = some r) : G C 2 0 0 10 [] [.int s0] σ := by
  unfold fX3_lesser_10 at hf
  exact r_iret X hq dX3_lesser_10 hf
def fX3_lesser_e (v0 : Int32) (v1 : Int32) (σ : Mem) : Option (Int32 × Mem) :=
  if v1 ≤ v0 then (fX3_lesser_10 v1 σ)
  else (fX3_lesser_10 v0 σ)
set_option maxHeartbeats 4000000 in
set_option maxRecDepth 100000 in
theorem tX3_lesser_e {C : Ctx} (X : CX C cX3_lesser 2 RX3 wsX3_lesser rmX3_lesser (some .int)) {r : Int32 × Mem} (hq : QI C r) (v0 : Int32) (v1 : Int32) (σ : Mem) (hf : fX3_lesser_e v0 v1 σ = some r) : G C 2 0 0 0 [(0, .int v0), (1, .int v1)] [] σ := by
  unfold fX3_lesser_e at hf
  refine g_iload_n X dX3_lesser_0 0 rfl rfl ?_
  refine g_iload_n X dX3_lesser_1 1 rfl rfl ?_
  refine g_icmp_ge (tgt := 9) X dX3_lesser_2 (by decide) hf (fun hf => ?_) (fun hf => ?_)
  · refine g_iload_n X dX3_lesser_9 1 rfl rfl ?_
    refine g_sub [] (L' := []) rfl ?_
    exact tX3_lesser_10 X hq v1 σ hf
  · refine g_iload_n X dX3_lesser_5 0 rfl rfl ?_
    refine g_goto (tgt := 10) X dX3_lesser_6 (by decide) ?_
    refine g_sub [] (L' := []) rfl ?_
    exact tX3_lesser_10 X hq v0 σ hf
def fX3_lesser (v0 : Int32) (v1 : Int32) (σ : Mem) : Option (Int32 × Mem) := fX3_lesser_e v0 v1 σ
theorem kX3_lesser (l : Launch) (v0 : Int32) (v1 : Int32) (σ : Mem) : KI l yX3_lesser wsX3_lesser rmX3_lesser (fun ad => [.int v0, .int v1]) σ (fX3_lesser v0 v1 σ) := fun r hr => kt_of (by decide +kernel) rfl (fun _ => Nat.le_of_ble_eq_true rfl) (fun C X hne hq => tX3_lesser_e X hq v0 v1 σ hr)
/-! ### X3_heap -/
abbrev rmX3_heap : Room := { frames := 2, cells := 0, slots := 0, locals := 51 }
theorem infX3_heap_X3 : ∀ w ∈ u_ws RX3 TX3 21, w ∈ wsX3_heap := by decide +kernel
def fX3_heap_26 (v1 : Int32) (v2 : Int32) (s0 : Int32) (σ : Mem) : Option (Int32 × Mem) :=
  bnd (fX3_goesWell s0 σ) fun u1 σ2 =>
  if u1 = 0 then (some ((0 : Int32), σ2))
  else (grd (inb (rI σ2 35 1) 5) (ltM (wI σ2 36 (ix (rI σ2 35 1)) v1) fun σ3 =>
  grd (inb (rI σ3 35 1) 5) (ltM (wI σ3 37 (ix (rI σ3 35 1)) v2) fun σ4 =>
  ltM (wI σ4 35 1 ((rI σ4 35 1) + (1 : Int32))) fun σ5 =>
  some (((rI σ5 35 1) - (1 : Int32)), σ5))))
set_option maxHeartbeats 4000000 in
set_option maxRecDepth 100000 in
theorem tX3_heap_26 {C : Ctx} (X : CX C cX3_heap 3 RX3 wsX3_heap rmX3_heap (some .int)) {r : Int32 × Mem} (hq : QI C r) (v1 : Int32) (v2 : Int32) (s0 : Int32) (σ : Mem) (hf : fX3_heap_26 v1 v2 s0 σ = some r) : G C 3 0 0 26 [(0, .ref (adr C 35)), (1, .int v1), (2, .int v2)] [.int s0, .ref (adr C 35)] σ := by
  unfold fX3_heap_26 at hf
  refine c_VI (q := 35) (vs := [.int s0]) (rest := []) X (kX3_goesWell (cL C) s0 σ) (fun s a hts => cwV 1 hts gX3_heap_X3_goesWell rfl rfl rfl (by decide +kernel) ⟨Nat.le_of_ble_eq_true rfl, Nat.le_of_ble_eq_true rfl⟩) obj_m (rfl : vwCl[3]? = some (RX3, TX3, 21)) rfl rfl rfl rfl (Nat.le_of_ble_eq_true rfl) dX3_heap_26 ⟨Nat.le_of_ble_eq_true rfl, Nat.le_of_ble_eq_true rfl⟩ hf (fun u1 σ2 hf => ?_)
  refine g_if_ne (tgt := 34) X dX3_heap_29 (by decide) hf (fun hf => ?_) (fun hf => ?_)
  · refine g_aload_n X dX3_heap_34 0 rfl rfl ?_
    refine g_get (q := 35) (kf := 3) (v := .ref (adr C 36)) X obj_m rfl infX3_heap_X3 (by decide) (by decide +kernel) rfl dX3_heap_35 ?_
    refine g_aload_n X dX3_heap_38 0 rfl rfl ?_
    refine g_get (q := 35) (kf := 1) (v := .int (rI σ2 35 1)) X obj_m rfl infX3_heap_X3 (by decide) (by decide +kernel) rfl dX3_heap_39 ?_
    refine g_iload_n X dX3_heap_42 1 rfl rfl ?_
    refine s_iast (q := 36) (n := 5) X rfl rfl dX3_heap_43 hf (fun σ3 hf => ?_)
    refine g_aload_n X dX3_heap_44 0 rfl rfl ?_
    refine g_get (q := 35) (kf := 4) (v := .ref (adr C 37)) X obj_m rfl infX3_heap_X3 (by decide) (by decide +kernel) rfl dX3_heap_45 ?_
    refine g_aload_n X dX3_heap_48 0 rfl rfl ?_
    refine g_get (q := 35) (kf := 1) (v := .int (rI σ3 35 1)) X obj_m rfl infX3_heap_X3 (by decide) (by decide +kernel) rfl dX3_heap_49 ?_
    refine g_iload_n X dX3_heap_52 2 rfl rfl ?_
    refine s_iast (q := 37) (n := 5) X rfl rfl dX3_heap_53 hf (fun σ4 hf => ?_)
    refine g_aload_n X dX3_heap_54 0 rfl rfl ?_
    refine g_dup X dX3_heap_55 rfl ?_
    refine g_get (q := 35) (kf := 1) (v := .int (rI σ4 35 1)) X obj_m rfl infX3_heap_X3 (by decide) (by decide +kernel) rfl dX3_heap_56 ?_
    refine g_iconst (v := (1 : Int32)) X dX3_heap_59 (by decide) ?_
    refine g_iadd X dX3_heap_60 ?_
    refine s_put (q := 35) (kf := 1) X obj_m rfl infX3_heap_X3 tyX3_ok nmX3 (by decide) (by decide +kernel) rfl rfl rfl rfl (fun _ _ => rfl) (fun _ _ => Nat.le_of_ble_eq_true rfl) dX3_heap_61 hf (fun σ5 hf => ?_)
    refine g_aload_n X dX3_heap_64 0 rfl rfl ?_
    refine g_get (q := 35) (kf := 1) (v := .int (rI σ5 35 1)) X obj_m rfl infX3_heap_X3 (by decide) (by decide +kernel) rfl dX3_heap_65 ?_
    refine g_iconst (v := (1 : Int32)) X dX3_heap_68 (by decide) ?_
    refine g_isub X dX3_heap_69 ?_
    exact r_iret X hq dX3_heap_70 hf
  · refine g_iconst (v := (0 : Int32)) X dX3_heap_32 (by decide) ?_
    exact r_iret X hq dX3_heap_33 hf
def fX3_heap_e (v1 : Int32) (v2 : Int32) (σ : Mem) : Option (Int32 × Mem) :=
  bnd (fX3_isRight v1 v2 σ) fun u1 σ2 =>
  if u1 = 0 then (fX3_heap_26 v1 v2 (1 : Int32) σ2)
  else (if (rI σ2 35 1) = (5 : Int32) then (fX3_heap_26 v1 v2 (2 : Int32) σ2)
  else (fX3_heap_26 v1 v2 (0 : Int32) σ2))
set_option maxHeartbeats 4000000 in
set_option maxRecDepth 100000 in
theorem tX3_heap_e {C : Ctx} (X : CX C cX3_heap 3 RX3 wsX3_heap rmX3_heap (some .int)) {r : Int32 × Mem} (hq : QI C r) (v1 : Int32) (v2 : Int32) (σ : Mem) (hf : fX3_heap_e v1 v2 σ = some r) : G C 3 0 0 0 [(0, .ref (adr C 35)), (1, .int v1), (2, .int v2)] [] σ := by
  unfold fX3_heap_e at hf
  refine g_aload_n X dX3_heap_0 0 rfl rfl ?_
  refine g_iload_n X dX3_heap_1 1 rfl rfl ?_
  refine g_iload_n X dX3_heap_2 2 rfl rfl ?_
  refine c_SI (vs := [.int v1, .int v2]) (rest := [.ref (adr C 35)]) X (kX3_isRight (cL C) v1 v2 σ) (fun s a hts => va_cwS 2 hts gX3_heap_X3_isRight rfl rfl rfl (by decide +kernel) ⟨Nat.le_of_ble_eq_true rfl, Nat.le_of_ble_eq_true rfl⟩) rfl rfl rfl (Nat.le_of_ble_eq_true rfl) dX3_heap_3 ⟨Nat.le_of_ble_eq_true rfl, Nat.le_of_ble_eq_true rfl⟩ hf (fun u1 σ2 hf => ?_)
  refine g_if_ne (tgt := 13) X dX3_heap_6 (by decide) hf (fun hf => ?_) (fun hf => ?_)
  · refine g_aload_n X dX3_heap_13 0 rfl rfl ?_
    refine g_get (q := 35) (kf := 1) (v := .int (rI σ2 35 1)) X obj_m rfl infX3_heap_X3 (by decide) (by decide +kernel) rfl dX3_heap_14 ?_
    refine g_iconst (v := (5 : Int32)) X dX3_heap_17 (by decide) ?_
    refine g_icmp_ne (tgt := 25) X dX3_heap_18 (by decide) hf (fun hf => ?_) (fun hf => ?_)
    · refine g_iconst (v := (0 : Int32)) X dX3_heap_25 (by decide) ?_
      exact tX3_heap_26 X hq v1 v2 (0 : Int32) σ2 hf
    · refine g_iconst (v := (2 : Int32)) X dX3_heap_21 (by decide) ?_
      refine g_goto (tgt := 26) X dX3_heap_22 (by decide) ?_
      exact tX3_heap_26 X hq v1 v2 (2 : Int32) σ2 hf
  · refine g_iconst (v := (1 : Int32)) X dX3_heap_9 (by decide) ?_
    refine g_goto (tgt := 26) X dX3_heap_10 (by decide) ?_
    exact tX3_heap_26 X hq v1 v2 (1 : Int32) σ2 hf
def fX3_heap (v1 : Int32) (v2 : Int32) (σ : Mem) : Option (Int32 × Mem) := fX3_heap_e v1 v2 σ
theorem kX3_heap (l : Launch) (v1 : Int32) (v2 : Int32) (σ : Mem) : KI l yX3_heap wsX3_heap rmX3_heap (fun ad => [.ref (ad 35), .int v1, .int v2]) σ (fX3_heap v1 v2 σ) := fun r hr => kt_of (by decide +kernel) rfl (fun _ => Nat.le_of_ble_eq_true rfl) (fun C X hne hq => tX3_heap_e X hq v1 v2 σ hr)
/-! ### X3_hole -/
abbrev rmX3_hole : Room := { frames := 2, cells := 0, slots := 0, locals := 51 }
theorem infX3_hole_X3 : ∀ w ∈ u_ws RX3 TX3 21, w ∈ wsX3_hole := by decide +kernel
def fX3_hole_26 (v1 : Int32) (v2 : Int32) (s0 : Int32) (σ : Mem) : Option (Int32 × Mem) :=
  bnd (fX3_goesWell s0 σ) fun u1 σ2 =>
  if u1 = 0 then (some ((0 : Int32), σ2))
  else (grd (inb (rI σ2 35 2) 5) (ltM (wI σ2 38 (ix (rI σ2 35 2)) v1) fun σ3 =>
  grd (inb (rI σ3 35 2) 5) (ltM (wI σ3 39 (ix (rI σ3 35 2)) v2) fun σ4 =>
  ltM (wI σ4 35 2 ((rI σ4 35 2) + (1 : Int32))) fun σ5 =>
  some (((rI σ5 35 2) - (1 : Int32)), σ5))))
set_option maxHeartbeats 4000000 in
set_option maxRecDepth 100000 in
theorem tX3_hole_26 {C : Ctx} (X : CX C cX3_hole 3 RX3 wsX3_hole rmX3_hole (some .int)) {r : Int32 × Mem} (hq : QI C r) (v1 : Int32) (v2 : Int32) (s0 : Int32) (σ : Mem) (hf : fX3_hole_26 v1 v2 s0 σ = some r) : G C 3 0 0 26 [(0, .ref (adr C 35)), (1, .int v1), (2, .int v2)] [.int s0, .ref (adr C 35)] σ := by
  unfold fX3_hole_26 at hf
  refine c_VI (q := 35) (vs := [.int s0]) (rest := []) X (kX3_goesWell (cL C) s0 σ) (fun s a hts => cwV 1 hts gX3_hole_X3_goesWell rfl rfl rfl (by decide +kernel) ⟨Nat.le_of_ble_eq_true rfl, Nat.le_of_ble_eq_true rfl⟩) obj_m (rfl : vwCl[3]? = some (RX3, TX3, 21)) rfl rfl rfl rfl (Nat.le_of_ble_eq_true rfl) dX3_hole_26 ⟨Nat.le_of_ble_eq_true rfl, Nat.le_of_ble_eq_true rfl⟩ hf (fun u1 σ2 hf => ?_)
  refine g_if_ne (tgt := 34) X dX3_hole_29 (by decide) hf (fun hf => ?_) (fun hf => ?_)
  · refine g_aload_n X dX3_hole_34 0 rfl rfl ?_
    refine g_get (q := 35) (kf := 5) (v := .ref (adr C 38)) X obj_m rfl infX3_hole_X3 (by decide) (by decide +kernel) rfl dX3_hole_35 ?_
    refine g_aload_n X dX3_hole_38 0 rfl rfl ?_
    refine g_get (q := 35) (kf := 2) (v := .int (rI σ2 35 2)) X obj_m rfl infX3_hole_X3 (by decide) (by decide +kernel) rfl dX3_hole_39 ?_
    refine g_iload_n X dX3_hole_42 1 rfl rfl ?_
    refine s_iast (q := 38) (n := 5) X rfl rfl dX3_hole_43 hf (fun σ3 hf => ?_)
    refine g_aload_n X dX3_hole_44 0 rfl rfl ?_
    refine g_get (q := 35) (kf := 6) (v := .ref (adr C 39)) X obj_m rfl infX3_hole_X3 (by decide) (by decide +kernel) rfl dX3_hole_45 ?_
    refine g_aload_n X dX3_hole_48 0 rfl rfl ?_
    refine g_get (q := 35) (kf := 2) (v := .int (rI σ3 35 2)) X obj_m rfl infX3_hole_X3 (by decide) (by decide +kernel) rfl dX3_hole_49 ?_
    refine g_iload_n X dX3_hole_52 2 rfl rfl ?_
    refine s_iast (q := 39) (n := 5) X rfl rfl dX3_hole_53 hf (fun σ4 hf => ?_)
    refine g_aload_n X dX3_hole_54 0 rfl rfl ?_
    refine g_dup X dX3_hole_55 rfl ?_
    refine g_get (q := 35) (kf := 2) (v := .int (rI σ4 35 2)) X obj_m rfl infX3_hole_X3 (by decide) (by decide +kernel) rfl dX3_hole_56 ?_
    refine g_iconst (v := (1 : Int32)) X dX3_hole_59 (by decide) ?_
    refine g_iadd X dX3_hole_60 ?_
    refine s_put (q := 35) (kf := 2) X obj_m rfl infX3_hole_X3 tyX3_ok nmX3 (by decide) (by decide +kernel) rfl rfl rfl rfl (fun _ _ => rfl) (fun _ _ => Nat.le_of_ble_eq_true rfl) dX3_hole_61 hf (fun σ5 hf => ?_)
    refine g_aload_n X dX3_hole_64 0 rfl rfl ?_
    refine g_get (q := 35) (kf := 2) (v := .int (rI σ5 35 2)) X obj_m rfl infX3_hole_X3 (by decide) (by decide +kernel) rfl dX3_hole_65 ?_
    refine g_iconst (v := (1 : Int32)) X dX3_hole_68 (by decide) ?_
    refine g_isub X dX3_hole_69 ?_
    exact r_iret X hq dX3_hole_70 hf
  · refine g_iconst (v := (0 : Int32)) X dX3_hole_32 (by decide) ?_
    exact r_iret X hq dX3_hole_33 hf
def fX3_hole_e (v1 : Int32) (v2 : Int32) (σ : Mem) : Option (Int32 × Mem) :=
  bnd (fX3_isRight v1 v2 σ) fun u1 σ2 =>
  if u1 = 0 then (fX3_hole_26 v1 v2 (1 : Int32) σ2)
  else (if (rI σ2 35 2) = (5 : Int32) then (fX3_hole_26 v1 v2 (2 : Int32) σ2)
  else (fX3_hole_26 v1 v2 (0 : Int32) σ2))
set_option maxHeartbeats 4000000 in
set_option maxRecDepth 100000 in
theorem tX3_hole_e {C : Ctx} (X : CX C cX3_hole 3 RX3 wsX3_hole rmX3_hole (some .int)) {r : Int32 × Mem} (hq : QI C r) (v1 : Int32) (v2 : Int32) (σ : Mem) (hf : fX3_hole_e v1 v2 σ = some r) : G C 3 0 0 0 [(0, .ref (adr C 35)), (1, .int v1), (2, .int v2)] [] σ := by
  unfold fX3_hole_e at hf
  refine g_aload_n X dX3_hole_0 0 rfl rfl ?_
  refine g_iload_n X dX3_hole_1 1 rfl rfl ?_
  refine g_iload_n X dX3_hole_2 2 rfl rfl ?_
  refine c_SI (vs := [.int v1, .int v2]) (rest := [.ref (adr C 35)]) X (kX3_isRight (cL C) v1 v2 σ) (fun s a hts => va_cwS 2 hts gX3_hole_X3_isRight rfl rfl rfl (by decide +kernel) ⟨Nat.le_of_ble_eq_true rfl, Nat.le_of_ble_eq_true rfl⟩) rfl rfl rfl (Nat.le_of_ble_eq_true rfl) dX3_hole_3 ⟨Nat.le_of_ble_eq_true rfl, Nat.le_of_ble_eq_true rfl⟩ hf (fun u1 σ2 hf => ?_)
  refine g_if_ne (tgt := 13) X dX3_hole_6 (by decide) hf (fun hf => ?_) (fun hf => ?_)
  · refine g_aload_n X dX3_hole_13 0 rfl rfl ?_
    refine g_get (q := 35) (kf := 2) (v := .int (rI σ2 35 2)) X obj_m rfl infX3_hole_X3 (by decide) (by decide +kernel) rfl dX3_hole_14 ?_
    refine g_iconst (v := (5 : Int32)) X dX3_hole_17 (by decide) ?_
    refine g_icmp_ne (tgt := 25) X dX3_hole_18 (by decide) hf (fun hf => ?_) (fun hf => ?_)
    · refine g_iconst (v := (0 : Int32)) X dX3_hole_25 (by decide) ?_
      exact tX3_hole_26 X hq v1 v2 (0 : Int32) σ2 hf
    · refine g_iconst (v := (2 : Int32)) X dX3_hole_21 (by decide) ?_
      refine g_goto (tgt := 26) X dX3_hole_22 (by decide) ?_
      exact tX3_hole_26 X hq v1 v2 (2 : Int32) σ2 hf
  · refine g_iconst (v := (1 : Int32)) X dX3_hole_9 (by decide) ?_
    refine g_goto (tgt := 26) X dX3_hole_10 (by decide) ?_
    exact tX3_hole_26 X hq v1 v2 (1 : Int32) σ2 hf
def fX3_hole (v1 : Int32) (v2 : Int32) (σ : Mem) : Option (Int32 × Mem) := fX3_hole_e v1 v2 σ
theorem kX3_hole (l : Launch) (v1 : Int32) (v2 : Int32) (σ : Mem) : KI l yX3_hole wsX3_hole rmX3_hole (fun ad => [.ref (ad 35), .int v1, .int v2]) σ (fX3_hole v1 v2 σ) := fun r hr => kt_of (by decide +kernel) rfl (fun _ => Nat.le_of_ble_eq_true rfl) (fun C X hne hq => tX3_hole_e X hq v1 v2 σ hr)
/-! ### X3_alter -/
abbrev rmX3_alter : Room := { frames := 3, cells := 0, slots := 0, locals := 73 }
theorem infX3_alter_X3 : ∀ w ∈ u_ws RX3 TX3 21, w ∈ wsX3_alter := by decide +kernel
def fX3_alter_98 (v6 : Int32) (σ : Mem) : Option (Int32 × Mem) :=
  some (v6, σ)
set_option maxHeartbeats 4000000 in
set_option maxRecDepth 100000 in
theorem tX3_alter_98 {C : Ctx} (X : CX C cX3_alter 7 RX3 wsX3_alter rmX3_alter (some .int)) {r : Int32 × Mem} (hq : QI C r) (v6 : Int32) (σ : Mem) (hf : fX3_alter_98 v6 σ = some r) : G C 7 0 0 98 [(6, .int v6)] [] σ := by
  unfold fX3_alter_98 at hf
  refine g_iload X dX3_alter_98 0 rfl ?_
  exact r_iret X hq dX3_alter_100 hf
def fX3_alter_59 (v1 : Int32) (v2 : Int32) (v3 : Int32) (v4 : Int32) (s0 : Int32) (σ : Mem) : Option (Int32 × Mem) :=
  if v1 = 0 then (grd (inb v2 5) (ltM (wI σ 36 (ix v2) v3) fun σ1 =>
  grd (inb v2 5) (ltM (wI σ1 37 (ix v2) v4) fun σ2 =>
  fX3_alter_98 s0 σ2)))
  else (grd (inb v2 5) (ltM (wI σ 38 (ix v2) v3) fun σ3 =>
  grd (inb v2 5) (ltM (wI σ3 39 (ix v2) v4) fun σ4 =>
  fX3_alter_98 s0 σ4)))
set_option maxHeartbeats 4000000 in
set_option maxRecDepth 100000 in
theorem tX3_alter_59 {C : Ctx} (X : CX C cX3_alter 7 RX3 wsX3_alter rmX3_alter (some .int)) {r : Int32 × Mem} (hq : QI C r) (v1 : Int32) (v2 : Int32) (v3 : Int32) (v4 : Int32) (s0 : Int32) (σ : Mem) (hf : fX3_alter_59 v1 v2 v3 v4 s0 σ = some r) : G C 7 0 0 59 [(0, .ref (adr C 35)), (1, .int v1), (2, .int v2), (3, .int v3), (4, .int v4)] [.int s0] σ := by
  unfold fX3_alter_59 at hf
  refine g_istore (L' := [(6, .int s0), (0, .ref (adr C 35)), (1, .int v1), (2, .int v2), (3, .int v3), (4, .int v4)]) X dX3_alter_59 (by decide) rfl ?_
  refine g_iload_n X dX3_alter_61 2 rfl rfl ?_
  refine g_if_eq (tgt := 83) X dX3_alter_62 (by decide) hf (fun hf => ?_) (fun hf => ?_)
  · refine g_aload_n X dX3_alter_83 1 rfl rfl ?_
    refine g_get (q := 35) (kf := 3) (v := .ref (adr C 36)) X obj_m rfl infX3_alter_X3 (by decide) (by decide +kernel) rfl dX3_alter_84 ?_
    refine g_iload_n X dX3_alter_87 3 rfl rfl ?_
    refine g_iload_n X dX3_alter_88 4 rfl rfl ?_
    refine s_iast (q := 36) (n := 5) X rfl rfl dX3_alter_89 hf (fun σ1 hf => ?_)
    refine g_aload_n X dX3_alter_90 1 rfl rfl ?_
    refine g_get (q := 35) (kf := 4) (v := .ref (adr C 37)) X obj_m rfl infX3_alter_X3 (by decide) (by decide +kernel) rfl dX3_alter_91 ?_
    refine g_iload_n X dX3_alter_94 3 rfl rfl ?_
    refine g_iload X dX3_alter_95 5 rfl ?_
    refine s_iast (q := 37) (n := 5) X rfl rfl dX3_alter_97 hf (fun σ2 hf => ?_)
    refine g_sub [0] (L' := [(6, .int s0)]) rfl ?_
    exact tX3_alter_98 X hq s0 σ2 hf
  · refine g_aload_n X dX3_alter_65 1 rfl rfl ?_
    refine g_get (q := 35) (kf := 5) (v := .ref (adr C 38)) X obj_m rfl infX3_alter_X3 (by decide) (by decide +kernel) rfl dX3_alter_66 ?_
    refine g_iload_n X dX3_alter_69 3 rfl rfl ?_
    refine g_iload_n X dX3_alter_70 4 rfl rfl ?_
    refine s_iast (q := 38) (n := 5) X rfl rfl dX3_alter_71 hf (fun σ3 hf => ?_)
    refine g_aload_n X dX3_alter_72 1 rfl rfl ?_
    refine g_get (q := 35) (kf := 6) (v := .ref (adr C 39)) X obj_m rfl infX3_alter_X3 (by decide) (by decide +kernel) rfl dX3_alter_73 ?_
    refine g_iload_n X dX3_alter_76 3 rfl rfl ?_
    refine g_iload X dX3_alter_77 5 rfl ?_
    refine s_iast (q := 39) (n := 5) X rfl rfl dX3_alter_79 hf (fun σ4 hf => ?_)
    refine g_goto (tgt := 98) X dX3_alter_80 (by decide) ?_
    refine g_sub [0] (L' := [(6, .int s0)]) rfl ?_
    exact tX3_alter_98 X hq s0 σ4 hf
def fX3_alter_32 (v1 : Int32) (v2 : Int32) (v3 : Int32) (v4 : Int32) (s0 : Int32) (σ : Mem) : Option (Int32 × Mem) :=
  bnd (fX3_goesWell s0 σ) fun u1 σ2 =>
  if u1 = 0 then (some ((0 : Int32), σ2))
  else (if v1 = 0 then (grd (inb v2 5) (fX3_alter_59 v1 v2 v3 v4 (rI σ2 37 (ix v2)) σ2))
  else (grd (inb v2 5) (fX3_alter_59 v1 v2 v3 v4 (rI σ2 39 (ix v2)) σ2)))
set_option maxHeartbeats 4000000 in
set_option maxRecDepth 100000 in
theorem tX3_alter_32 {C : Ctx} (X : CX C cX3_alter 7 RX3 wsX3_alter rmX3_alter (some .int)) {r : Int32 × Mem} (hq : QI C r) (v1 : Int32) (v2 : Int32) (v3 : Int32) (v4 : Int32) (s0 : Int32) (σ : Mem) (hf : fX3_alter_32 v1 v2 v3 v4 s0 σ = some r) : G C 7 0 0 32 [(0, .ref (adr C 35)), (1, .int v1), (2, .int v2), (3, .int v3), (4, .int v4)] [.int s0, .ref (adr C 35)] σ := by
  unfold fX3_alter_32 at hf
  refine c_VI (q := 35) (vs := [.int s0]) (rest := []) X (kX3_goesWell (cL C) s0 σ) (fun s a hts => cwV 1 hts gX3_alter_X3_goesWell rfl rfl rfl (by decide +kernel) ⟨Nat.le_of_ble_eq_true rfl, Nat.le_of_ble_eq_true rfl⟩) obj_m (rfl : vwCl[3]? = some (RX3, TX3, 21)) rfl rfl rfl rfl (Nat.le_of_ble_eq_true rfl) dX3_alter_32 ⟨Nat.le_of_ble_eq_true rfl, Nat.le_of_ble_eq_true rfl⟩ hf (fun u1 σ2 hf => ?_)
  refine g_if_ne (tgt := 40) X dX3_alter_35 (by decide) hf (fun hf => ?_) (fun hf => ?_)
  · refine g_iload_n X dX3_alter_40 1 rfl rfl ?_
    refine g_if_eq (tgt := 53) X dX3_alter_41 (by decide) hf (fun hf => ?_) (fun hf => ?_)
    · refine g_aload_n X dX3_alter_53 0 rfl rfl ?_
      refine g_get (q := 35) (kf := 4) (v := .ref (adr C 37)) X obj_m rfl infX3_alter_X3 (by decide) (by decide +kernel) rfl dX3_alter_54 ?_
      refine g_iload_n X dX3_alter_57 2 rfl rfl ?_
      refine g_iald (q := 37) (n := 5) X rfl rfl dX3_alter_58 hf (fun hf => ?_)
      exact tX3_alter_59 X hq v1 v2 v3 v4 (rI σ2 37 (ix v2)) σ2 hf
    · refine g_aload_n X dX3_alter_44 0 rfl rfl ?_
      refine g_get (q := 35) (kf := 6) (v := .ref (adr C 39)) X obj_m rfl infX3_alter_X3 (by decide) (by decide +kernel) rfl dX3_alter_45 ?_
      refine g_iload_n X dX3_alter_48 2 rfl rfl ?_
      refine g_iald (q := 39) (n := 5) X rfl rfl dX3_alter_49 hf (fun hf => ?_)
      refine g_goto (tgt := 59) X dX3_alter_50 (by decide) ?_
      exact tX3_alter_59 X hq v1 v2 v3 v4 (rI σ2 39 (ix v2)) σ2 hf
  · refine g_iconst (v := (0 : Int32)) X dX3_alter_38 (by decide) ?_
    exact r_iret X hq dX3_alter_39 hf
def fX3_alter_e (v1 : Int32) (v2 : Int32) (v3 : Int32) (v4 : Int32) (σ : Mem) : Option (Int32 × Mem) :=
  bnd (fX3_isOne v1 v2 σ) fun u1 σ2 =>
  if u1 = 0 then (fX3_alter_32 v1 v2 v3 v4 (1 : Int32) σ2)
  else (bnd (fX3_isRight v3 v4 σ2) fun u3 σ4 =>
  if u3 = 0 then (fX3_alter_32 v1 v2 v3 v4 (2 : Int32) σ4)
  else (fX3_alter_32 v1 v2 v3 v4 (0 : Int32) σ4))
set_option maxHeartbeats 4000000 in
set_option maxRecDepth 100000 in
theorem tX3_alter_e {C : Ctx} (X : CX C cX3_alter 7 RX3 wsX3_alter rmX3_alter (some .int)) {r : Int32 × Mem} (hq : QI C r) (v1 : Int32) (v2 : Int32) (v3 : Int32) (v4 : Int32) (σ : Mem) (hf : fX3_alter_e v1 v2 v3 v4 σ = some r) : G C 7 0 0 0 [(0, .ref (adr C 35)), (1, .int v1), (2, .int v2), (3, .int v3), (4, .int v4)] [] σ := by
  unfold fX3_alter_e at hf
  refine g_aload_n X dX3_alter_0 0 rfl rfl ?_
  refine g_iload_n X dX3_alter_1 1 rfl rfl ?_
  refine g_iload_n X dX3_alter_2 2 rfl rfl ?_
  refine c_VI (q := 35) (vs := [.int v1, .int v2]) (rest := []) X (kX3_isOne (cL C) v1 v2 σ) (fun s a hts => cwV 2 hts gX3_alter_X3_isOne rfl rfl rfl (by decide +kernel) ⟨Nat.le_of_ble_eq_true rfl, Nat.le_of_ble_eq_true rfl⟩) obj_m (rfl : vwCl[3]? = some (RX3, TX3, 21)) rfl rfl rfl rfl (Nat.le_of_ble_eq_true rfl) dX3_alter_3 ⟨Nat.le_of_ble_eq_true rfl, Nat.le_of_ble_eq_true rfl⟩ hf (fun u1 σ2 hf => ?_)
  refine g_istore (L' := [(5, .int u1), (0, .ref (adr C 35)), (1, .int v1), (2, .int v2), (3, .int v3), (4, .int v4)]) X dX3_alter_6 (by decide) rfl ?_
  refine g_aload_n X dX3_alter_8 1 rfl rfl ?_
  refine g_iload X dX3_alter_9 0 rfl ?_
  refine g_if_ne (tgt := 18) X dX3_alter_11 (by decide) hf (fun hf => ?_) (fun hf => ?_)
  · refine g_iload_n X dX3_alter_18 4 rfl rfl ?_
    refine g_iload X dX3_alter_19 5 rfl ?_
    refine c_SI (vs := [.int v3, .int v4]) (rest := [.ref (adr C 35)]) X (kX3_isRight (cL C) v3 v4 σ2) (fun s a hts => va_cwS 2 hts gX3_alter_X3_isRight rfl rfl rfl (by decide +kernel) ⟨Nat.le_of_ble_eq_true rfl, Nat.le_of_ble_eq_true rfl⟩) rfl rfl rfl (Nat.le_of_ble_eq_true rfl) dX3_alter_21 ⟨Nat.le_of_ble_eq_true rfl, Nat.le_of_ble_eq_true rfl⟩ hf (fun u3 σ4 hf => ?_)
    refine g_if_eq (tgt := 31) X dX3_alter_24 (by decide) hf (fun hf => ?_) (fun hf => ?_)
    · refine g_iconst (v := (2 : Int32)) X dX3_alter_31 (by decide) ?_
      refine g_sub [1, 2, 3, 4, 5] (L' := [(0, .ref (adr C 35)), (1, .int v1), (2, .int v2), (3, .int v3), (4, .int v4)]) rfl ?_
      exact tX3_alter_32 X hq v1 v2 v3 v4 (2 : Int32) σ4 hf
    · refine g_iconst (v := (0 : Int32)) X dX3_alter_27 (by decide) ?_
      refine g_goto (tgt := 32) X dX3_alter_28 (by decide) ?_
      refine g_sub [1, 2, 3, 4, 5] (L' := [(0, .ref (adr C 35)), (1, .int v1), (2, .int v2), (3, .int v3), (4, .int v4)]) rfl ?_
      exact tX3_alter_32 X hq v1 v2 v3 v4 (0 : Int32) σ4 hf
  · refine g_iconst (v := (1 : Int32)) X dX3_alter_14 (by decide) ?_
    refine g_goto (tgt := 32) X dX3_alter_15 (by decide) ?_
    refine g_sub [1, 2, 3, 4, 5] (L' := [(0, .ref (adr C 35)), (1, .int v1), (2, .int v2), (3, .int v3), (4, .int v4)]) rfl ?_
    exact tX3_alter_32 X hq v1 v2 v3 v4 (1 : Int32) σ2 hf
def fX3_alter (v1 : Int32) (v2 : Int32) (v3 : Int32) (v4 : Int32) (σ : Mem) : Option (Int32 × Mem) := fX3_alter_e v1 v2 v3 v4 σ
theorem kX3_alter (l : Launch) (v1 : Int32) (v2 : Int32) (v3 : Int32) (v4 : Int32) (σ : Mem) : KI l yX3_alter wsX3_alter rmX3_alter (fun ad => [.ref (ad 35), .int v1, .int v2, .int v3, .int v4]) σ (fX3_alter v1 v2 v3 v4 σ) := fun r hr => kt_of (by decide +kernel) rfl (fun _ => Nat.le_of_ble_eq_true rfl) (fun C X hne hq => tX3_alter_e X hq v1 v2 v3 v4 σ hr)
/-! ### X3_measure -/
abbrev rmX3_measure : Room := { frames := 1, cells := 0, slots := 0, locals := 30 }
theorem infX3_measure_X3 : ∀ w ∈ u_ws RX3 TX3 21, w ∈ wsX3_measure := by decide +kernel
def fX3_measure_63 (v3 : Int32) (s0 : Int32) (σ : Mem) : Option (Int32 × Mem) :=
  ltM (wI σ 35 8 s0) fun σ1 =>
  some (v3, σ1)
set_option maxHeartbeats 4000000 in
set_option maxRecDepth 100000 in
theorem tX3_measure_63 {C : Ctx} (X : CX C cX3_measure 4 RX3 wsX3_measure rmX3_measure (some .int)) {r : Int32 × Mem} (hq : QI C r) (v3 : Int32) (s0 : Int32) (σ : Mem) (hf : fX3_measure_63 v3 s0 σ = some r) : G C 4 0 0 63 [(3, .int v3)] [.int s0, .ref (adr C 35)] σ := by
  unfold fX3_measure_63 at hf
  refine s_put (q := 35) (kf := 8) X obj_m rfl infX3_measure_X3 tyX3_ok nmX3 (by decide) (by decide +kernel) rfl rfl rfl rfl (fun _ _ => rfl) (fun _ _ => Nat.le_of_ble_eq_true rfl) dX3_measure_63 hf (fun σ1 hf => ?_)
  refine g_iload_n X dX3_measure_66 0 rfl rfl ?_
  exact r_iret X hq dX3_measure_67 hf
def fX3_measure_31 (v1 : Int32) (v2 : Int32) (s0 : Int32) (σ : Mem) : Option (Int32 × Mem) :=
  bnd (fX3_goesWell s0 σ) fun u1 σ2 =>
  if u1 = 0 then (some ((0 : Int32), σ2))
  else (ltI (rI σ2 35 7) fun x3 =>
  ltM (wI σ2 35 7 v1) fun σ4 =>
  if v1 = (2 : Int32) then (fX3_measure_63 x3 v2 σ4)
  else (fX3_measure_63 x3 (rI σ4 35 8) σ4))
set_option maxHeartbeats 4000000 in
set_option maxRecDepth 100000 in
theorem tX3_measure_31 {C : Ctx} (X : CX C cX3_measure 4 RX3 wsX3_measure rmX3_measure (some .int)) {r : Int32 × Mem} (hq : QI C r) (v1 : Int32) (v2 : Int32) (s0 : Int32) (σ : Mem) (hf : fX3_measure_31 v1 v2 s0 σ = some r) : G C 4 0 0 31 [(0, .ref (adr C 35)), (1, .int v1), (2, .int v2)] [.int s0, .ref (adr C 35)] σ := by
  unfold fX3_measure_31 at hf
  refine c_VI (q := 35) (vs := [.int s0]) (rest := []) X (kX3_goesWell (cL C) s0 σ) (fun s a hts => cwV 1 hts gX3_measure_X3_goesWell rfl rfl rfl (by decide +kernel) ⟨Nat.le_of_ble_eq_true rfl, Nat.le_of_ble_eq_true rfl⟩) obj_m (rfl : vwCl[3]? = some (RX3, TX3, 21)) rfl rfl rfl rfl (Nat.le_of_ble_eq_true rfl) dX3_measure_31 ⟨Nat.le_of_ble_eq_true rfl, Nat.le_of_ble_eq_true rfl⟩ hf (fun u1 σ2 hf => ?_)
  refine g_if_ne (tgt := 39) X dX3_measure_34 (by decide) hf (fun hf => ?_) (fun hf => ?_)
  · refine g_aload_n X dX3_measure_39 0 rfl rfl ?_
    refine g_get (q := 35) (kf := 7) (v := .int (rI σ2 35 7)) X obj_m rfl infX3_measure_X3 (by decide) (by decide +kernel) rfl dX3_measure_40 ?_
    refine s_istore_n (M := fun x3 => [(3, .int x3), (0, .ref (adr C 35)), (1, .int v1), (2, .int v2)]) X dX3_measure_43 rfl (by decide) (fun _ => rfl) hf (fun x3 hf => ?_)
    refine g_aload_n X dX3_measure_44 1 rfl rfl ?_
    refine g_iload_n X dX3_measure_45 2 rfl rfl ?_
    refine s_put (q := 35) (kf := 7) X obj_m rfl infX3_measure_X3 tyX3_ok nmX3 (by decide) (by decide +kernel) rfl rfl rfl rfl (fun _ _ => rfl) (fun _ _ => Nat.le_of_ble_eq_true rfl) dX3_measure_46 hf (fun σ4 hf => ?_)
    refine g_aload_n X dX3_measure_49 1 rfl rfl ?_
    refine g_iload_n X dX3_measure_50 2 rfl rfl ?_
    refine g_iconst (v := (2 : Int32)) X dX3_measure_51 (by decide) ?_
    refine g_icmp_ne (tgt := 59) X dX3_measure_52 (by decide) hf (fun hf => ?_) (fun hf => ?_)
    · refine g_aload_n X dX3_measure_59 1 rfl rfl ?_
      refine g_get (q := 35) (kf := 8) (v := .int (rI σ4 35 8)) X obj_m rfl infX3_measure_X3 (by decide) (by decide +kernel) rfl dX3_measure_60 ?_
      refine g_sub [0] (L' := [(3, .int x3)]) rfl ?_
      exact tX3_measure_63 X hq x3 (rI σ4 35 8) σ4 hf
    · refine g_iload_n X dX3_measure_55 3 rfl rfl ?_
      refine g_goto (tgt := 63) X dX3_measure_56 (by decide) ?_
      refine g_sub [0] (L' := [(3, .int x3)]) rfl ?_
      exact tX3_measure_63 X hq x3 v2 σ4 hf
  · refine g_iconst (v := (0 : Int32)) X dX3_measure_37 (by decide) ?_
    exact r_iret X hq dX3_measure_38 hf
def fX3_measure_30 (v1 : Int32) (v2 : Int32) (σ : Mem) : Option (Int32 × Mem) :=
  fX3_measure_31 v1 v2 (1 : Int32) σ
set_option maxHeartbeats 4000000 in
set_option maxRecDepth 100000 in
theorem tX3_measure_30 {C : Ctx} (X : CX C cX3_measure 4 RX3 wsX3_measure rmX3_measure (some .int)) {r : Int32 × Mem} (hq : QI C r) (v1 : Int32) (v2 : Int32) (σ : Mem) (hf : fX3_measure_30 v1 v2 σ = some r) : G C 4 0 0 30 [(0, .ref (adr C 35)), (1, .int v1), (2, .int v2)] [.ref (adr C 35)] σ := by
  unfold fX3_measure_30 at hf
  refine g_iconst (v := (1 : Int32)) X dX3_measure_30 (by decide) ?_
  exact tX3_measure_31 X hq v1 v2 (1 : Int32) σ hf
def fX3_measure_26 (v1 : Int32) (v2 : Int32) (σ : Mem) : Option (Int32 × Mem) :=
  fX3_measure_31 v1 v2 (0 : Int32) σ
set_option maxHeartbeats 4000000 in
set_option maxRecDepth 100000 in
theorem tX3_measure_26 {C : Ctx} (X : CX C cX3_measure 4 RX3 wsX3_measure rmX3_measure (some .int)) {r : Int32 × Mem} (hq : QI C r) (v1 : Int32) (v2 : Int32) (σ : Mem) (hf : fX3_measure_26 v1 v2 σ = some r) : G C 4 0 0 26 [(0, .ref (adr C 35)), (1, .int v1), (2, .int v2)] [.ref (adr C 35)] σ := by
  unfold fX3_measure_26 at hf
  refine g_iconst (v := (0 : Int32)) X dX3_measure_26 (by decide) ?_
  refine g_goto (tgt := 31) X dX3_measure_27 (by decide) ?_
  exact tX3_measure_31 X hq v1 v2 (0 : Int32) σ hf
def fX3_measure_e (v1 : Int32) (v2 : Int32) (σ : Mem) : Option (Int32 × Mem) :=
  bnd (fX3_in v1 (0 : Int32) (2 : Int32) σ) fun u1 σ2 =>
  if u1 = 0 then (fX3_measure_30 v1 v2 σ2)
  else (if v1 = (2 : Int32) then (bnd (fX3_in v2 (1 : Int32) (200 : Int32) σ2) fun u3 σ4 =>
  if u3 = 0 then (fX3_measure_30 v1 v2 σ4)
  else (fX3_measure_26 v1 v2 σ4))
  else (fX3_measure_26 v1 v2 σ2))
set_option maxHeartbeats 4000000 in
set_option maxRecDepth 100000 in
theorem tX3_measure_e {C : Ctx} (X : CX C cX3_measure 4 RX3 wsX3_measure rmX3_measure (some .int)) {r : Int32 × Mem} (hq : QI C r) (v1 : Int32) (v2 : Int32) (σ : Mem) (hf : fX3_measure_e v1 v2 σ = some r) : G C 4 0 0 0 [(0, .ref (adr C 35)), (1, .int v1), (2, .int v2)] [] σ := by
  unfold fX3_measure_e at hf
  refine g_aload_n X dX3_measure_0 0 rfl rfl ?_
  refine g_iload_n X dX3_measure_1 1 rfl rfl ?_
  refine g_iconst (v := (0 : Int32)) X dX3_measure_2 (by decide) ?_
  refine g_iconst (v := (2 : Int32)) X dX3_measure_3 (by decide) ?_
  refine c_SI (vs := [.int v1, .int (0 : Int32), .int (2 : Int32)]) (rest := [.ref (adr C 35)]) X (kX3_in (cL C) v1 (0 : Int32) (2 : Int32) σ) (fun s a hts => va_cwS 3 hts gX3_measure_X3_in rfl rfl rfl (by decide +kernel) ⟨Nat.le_of_ble_eq_true rfl, Nat.le_of_ble_eq_true rfl⟩) rfl rfl rfl (Nat.le_of_ble_eq_true rfl) dX3_measure_4 ⟨Nat.le_of_ble_eq_true rfl, Nat.le_of_ble_eq_true rfl⟩ hf (fun u1 σ2 hf => ?_)
  refine g_if_eq (tgt := 30) X dX3_measure_7 (by decide) hf (fun hf => ?_) (fun hf => ?_)
  · exact tX3_measure_30 X hq v1 v2 σ2 hf
  · refine g_iload_n X dX3_measure_10 1 rfl rfl ?_
    refine g_iconst (v := (2 : Int32)) X dX3_measure_11 (by decide) ?_
    refine g_icmp_ne (tgt := 26) X dX3_measure_12 (by decide) hf (fun hf => ?_) (fun hf => ?_)
    · exact tX3_measure_26 X hq v1 v2 σ2 hf
    · refine g_iload_n X dX3_measure_15 2 rfl rfl ?_
      refine g_iconst (v := (1 : Int32)) X dX3_measure_16 (by decide) ?_
      refine g_sipush (v := (200 : Int32)) X dX3_measure_17 (by decide) ?_
      refine c_SI (vs := [.int v2, .int (1 : Int32), .int (200 : Int32)]) (rest := [.ref (adr C 35)]) X (kX3_in (cL C) v2 (1 : Int32) (200 : Int32) σ2) (fun s a hts => va_cwS 3 hts gX3_measure_X3_in rfl rfl rfl (by decide +kernel) ⟨Nat.le_of_ble_eq_true rfl, Nat.le_of_ble_eq_true rfl⟩) rfl rfl rfl (Nat.le_of_ble_eq_true rfl) dX3_measure_20 ⟨Nat.le_of_ble_eq_true rfl, Nat.le_of_ble_eq_true rfl⟩ hf (fun u3 σ4 hf => ?_)
      refine g_if_eq (tgt := 30) X dX3_measure_23 (by decide) hf (fun hf => ?_) (fun hf => ?_)
      · exact tX3_measure_30 X hq v1 v2 σ4 hf
      · exact tX3_measure_26 X hq v1 v2 σ4 hf
def fX3_measure (v1 : Int32) (v2 : Int32) (σ : Mem) : Option (Int32 × Mem) := fX3_measure_e v1 v2 σ
theorem kX3_measure (l : Launch) (v1 : Int32) (v2 : Int32) (σ : Mem) : KI l yX3_measure wsX3_measure rmX3_measure (fun ad => [.ref (ad 35), .int v1, .int v2]) σ (fX3_measure v1 v2 σ) := fun r hr => kt_of (by decide +kernel) rfl (fun _ => Nat.le_of_ble_eq_true rfl) (fun C X hne hq => tX3_measure_e X hq v1 v2 σ hr)
/-! ### X3_own -/
abbrev rmX3_own : Room := { frames := 3, cells := 0, slots := 0, locals := 73 }
theorem infX3_own_X3 : ∀ w ∈ u_ws RX3 TX3 21, w ∈ wsX3_own := by decide +kernel
def fX3_own_34 (v1 : Int32) (v2 : Int32) (v3 : Int32) (s0 : Int32) (σ : Mem) : Option (Int32 × Mem) :=
  bnd (fX3_goesWell s0 σ) fun u1 σ2 =>
  if u1 = 0 then (some ((0 : Int32), σ2))
  else (grd (inb (((5 : Int32) * v1) + v2) 25) (ltI (rI σ2 40 (ix (((5 : Int32) * v1) + v2))) fun x3 =>
  grd (inb (((5 : Int32) * v1) + v2) 25) (ltM (wI σ2 40 (ix (((5 : Int32) * v1) + v2)) v3) fun σ4 =>
  some (x3, σ4))))
set_option maxHeartbeats 4000000 in
set_option maxRecDepth 100000 in
theorem tX3_own_34 {C : Ctx} (X : CX C cX3_own 6 RX3 wsX3_own rmX3_own (some .int)) {r : Int32 × Mem} (hq : QI C r) (v1 : Int32) (v2 : Int32) (v3 : Int32) (s0 : Int32) (σ : Mem) (hf : fX3_own_34 v1 v2 v3 s0 σ = some r) : G C 6 0 0 34 [(0, .ref (adr C 35)), (1, .int v1), (2, .int v2), (3, .int v3)] [.int s0, .ref (adr C 35)] σ := by
  unfold fX3_own_34 at hf
  refine c_VI (q := 35) (vs := [.int s0]) (rest := []) X (kX3_goesWell (cL C) s0 σ) (fun s a hts => cwV 1 hts gX3_own_X3_goesWell rfl rfl rfl (by decide +kernel) ⟨Nat.le_of_ble_eq_true rfl, Nat.le_of_ble_eq_true rfl⟩) obj_m (rfl : vwCl[3]? = some (RX3, TX3, 21)) rfl rfl rfl rfl (Nat.le_of_ble_eq_true rfl) dX3_own_34 ⟨Nat.le_of_ble_eq_true rfl, Nat.le_of_ble_eq_true rfl⟩ hf (fun u1 σ2 hf => ?_)
  refine g_if_ne (tgt := 42) X dX3_own_37 (by decide) hf (fun hf => ?_) (fun hf => ?_)
  · refine g_aload_n X dX3_own_42 0 rfl rfl ?_
    refine g_get (q := 35) (kf := 9) (v := .ref (adr C 40)) X obj_m rfl infX3_own_X3 (by decide) (by decide +kernel) rfl dX3_own_43 ?_
    refine g_iconst (v := (5 : Int32)) X dX3_own_46 (by decide) ?_
    refine g_iload_n X dX3_own_47 1 rfl rfl ?_
    refine g_imul X dX3_own_48 ?_
    refine g_iload_n X dX3_own_49 2 rfl rfl ?_
    refine g_iadd X dX3_own_50 ?_
    refine g_iald (q := 40) (n := 25) X rfl rfl dX3_own_51 hf (fun hf => ?_)
    refine s_istore (M := fun x3 => [(5, .int x3), (0, .ref (adr C 35)), (1, .int v1), (2, .int v2), (3, .int v3)]) X dX3_own_52 (by decide) (fun _ => rfl) hf (fun x3 hf => ?_)
    refine g_aload_n X dX3_own_54 1 rfl rfl ?_
    refine g_get (q := 35) (kf := 9) (v := .ref (adr C 40)) X obj_m rfl infX3_own_X3 (by decide) (by decide +kernel) rfl dX3_own_55 ?_
    refine g_iconst (v := (5 : Int32)) X dX3_own_58 (by decide) ?_
    refine g_iload_n X dX3_own_59 2 rfl rfl ?_
    refine g_imul X dX3_own_60 ?_
    refine g_iload_n X dX3_own_61 3 rfl rfl ?_
    refine g_iadd X dX3_own_62 ?_
    refine g_iload_n X dX3_own_63 4 rfl rfl ?_
    refine s_iast (q := 40) (n := 25) X rfl rfl dX3_own_64 hf (fun σ4 hf => ?_)
    refine g_iload X dX3_own_65 0 rfl ?_
    exact r_iret X hq dX3_own_67 hf
  · refine g_iconst (v := (0 : Int32)) X dX3_own_40 (by decide) ?_
    exact r_iret X hq dX3_own_41 hf
def fX3_own_e (v1 : Int32) (v2 : Int32) (v3 : Int32) (σ : Mem) : Option (Int32 × Mem) :=
  bnd (fX3_isWay v1 v2 σ) fun u1 σ2 =>
  if u1 = 0 then (fX3_own_34 v1 v2 v3 (1 : Int32) σ2)
  else (bnd (fX3_in v3 (-1 : Int32) (10000 : Int32) σ2) fun u3 σ4 =>
  if u3 = 0 then (fX3_own_34 v1 v2 v3 (2 : Int32) σ4)
  else (fX3_own_34 v1 v2 v3 (0 : Int32) σ4))
set_option maxHeartbeats 4000000 in
set_option maxRecDepth 100000 in
theorem tX3_own_e {C : Ctx} (X : CX C cX3_own 6 RX3 wsX3_own rmX3_own (some .int)) {r : Int32 × Mem} (hq : QI C r) (v1 : Int32) (v2 : Int32) (v3 : Int32) (σ : Mem) (hf : fX3_own_e v1 v2 v3 σ = some r) : G C 6 0 0 0 [(0, .ref (adr C 35)), (1, .int v1), (2, .int v2), (3, .int v3)] [] σ := by
  unfold fX3_own_e at hf
  refine g_aload_n X dX3_own_0 0 rfl rfl ?_
  refine g_iload_n X dX3_own_1 1 rfl rfl ?_
  refine g_iload_n X dX3_own_2 2 rfl rfl ?_
  refine c_VI (q := 35) (vs := [.int v1, .int v2]) (rest := []) X (kX3_isWay (cL C) v1 v2 σ) (fun s a hts => cwV 2 hts gX3_own_X3_isWay rfl rfl rfl (by decide +kernel) ⟨Nat.le_of_ble_eq_true rfl, Nat.le_of_ble_eq_true rfl⟩) obj_m (rfl : vwCl[3]? = some (RX3, TX3, 21)) rfl rfl rfl rfl (Nat.le_of_ble_eq_true rfl) dX3_own_3 ⟨Nat.le_of_ble_eq_true rfl, Nat.le_of_ble_eq_true rfl⟩ hf (fun u1 σ2 hf => ?_)
  refine g_istore (L' := [(4, .int u1), (0, .ref (adr C 35)), (1, .int v1), (2, .int v2), (3, .int v3)]) X dX3_own_6 (by decide) rfl ?_
  refine g_aload_n X dX3_own_8 1 rfl rfl ?_
  refine g_iload X dX3_own_9 0 rfl ?_
  refine g_if_ne (tgt := 18) X dX3_own_11 (by decide) hf (fun hf => ?_) (fun hf => ?_)
  · refine g_iload_n X dX3_own_18 4 rfl rfl ?_
    refine g_iconst (v := (-1 : Int32)) X dX3_own_19 (by decide) ?_
    refine g_sipush (v := (10000 : Int32)) X dX3_own_20 (by decide) ?_
    refine c_SI (vs := [.int v3, .int (-1 : Int32), .int (10000 : Int32)]) (rest := [.ref (adr C 35)]) X (kX3_in (cL C) v3 (-1 : Int32) (10000 : Int32) σ2) (fun s a hts => va_cwS 3 hts gX3_own_X3_in rfl rfl rfl (by decide +kernel) ⟨Nat.le_of_ble_eq_true rfl, Nat.le_of_ble_eq_true rfl⟩) rfl rfl rfl (Nat.le_of_ble_eq_true rfl) dX3_own_23 ⟨Nat.le_of_ble_eq_true rfl, Nat.le_of_ble_eq_true rfl⟩ hf (fun u3 σ4 hf => ?_)
    refine g_if_eq (tgt := 33) X dX3_own_26 (by decide) hf (fun hf => ?_) (fun hf => ?_)
    · refine g_iconst (v := (2 : Int32)) X dX3_own_33 (by decide) ?_
      refine g_sub [1, 2, 3, 4] (L' := [(0, .ref (adr C 35)), (1, .int v1), (2, .int v2), (3, .int v3)]) rfl ?_
      exact tX3_own_34 X hq v1 v2 v3 (2 : Int32) σ4 hf
    · refine g_iconst (v := (0 : Int32)) X dX3_own_29 (by decide) ?_
      refine g_goto (tgt := 34) X dX3_own_30 (by decide) ?_
      refine g_sub [1, 2, 3, 4] (L' := [(0, .ref (adr C 35)), (1, .int v1), (2, .int v2), (3, .int v3)]) rfl ?_
      exact tX3_own_34 X hq v1 v2 v3 (0 : Int32) σ4 hf
  · refine g_iconst (v := (1 : Int32)) X dX3_own_14 (by decide) ?_
    refine g_goto (tgt := 34) X dX3_own_15 (by decide) ?_
    refine g_sub [1, 2, 3, 4] (L' := [(0, .ref (adr C 35)), (1, .int v1), (2, .int v2), (3, .int v3)]) rfl ?_
    exact tX3_own_34 X hq v1 v2 v3 (1 : Int32) σ2 hf
def fX3_own (v1 : Int32) (v2 : Int32) (v3 : Int32) (σ : Mem) : Option (Int32 × Mem) := fX3_own_e v1 v2 v3 σ
theorem kX3_own (l : Launch) (v1 : Int32) (v2 : Int32) (v3 : Int32) (σ : Mem) : KI l yX3_own wsX3_own rmX3_own (fun ad => [.ref (ad 35), .int v1, .int v2, .int v3]) σ (fX3_own v1 v2 v3 σ) := fun r hr => kt_of (by decide +kernel) rfl (fun _ => Nat.le_of_ble_eq_true rfl) (fun C X hne hq => tX3_own_e X hq v1 v2 v3 σ hr)
/-! ### X3_cap -/
abbrev rmX3_cap : Room := { frames := 3, cells := 0, slots := 0, locals := 73 }
theorem infX3_cap_X3 : ∀ w ∈ u_ws RX3 TX3 21, w ∈ wsX3_cap := by decide +kernel
def fX3_cap_33 (v1 : Int32) (v2 : Int32) (v3 : Int32) (s0 : Int32) (σ : Mem) : Option (Int32 × Mem) :=
  bnd (fX3_goesWell s0 σ) fun u1 σ2 =>
  if u1 = 0 then (some ((0 : Int32), σ2))
  else (grd (inb (((5 : Int32) * v1) + v2) 25) (ltI (rI σ2 41 (ix (((5 : Int32) * v1) + v2))) fun x3 =>
  grd (inb (((5 : Int32) * v1) + v2) 25) (ltM (wI σ2 41 (ix (((5 : Int32) * v1) + v2)) v3) fun σ4 =>
  some (x3, σ4))))
set_option maxHeartbeats 4000000 in
set_option maxRecDepth 100000 in
theorem tX3_cap_33 {C : Ctx} (X : CX C cX3_cap 6 RX3 wsX3_cap rmX3_cap (some .int)) {r : Int32 × Mem} (hq : QI C r) (v1 : Int32) (v2 : Int32) (v3 : Int32) (s0 : Int32) (σ : Mem) (hf : fX3_cap_33 v1 v2 v3 s0 σ = some r) : G C 6 0 0 33 [(0, .ref (adr C 35)), (1, .int v1), (2, .int v2), (3, .int v3)] [.int s0, .ref (adr C 35)] σ := by
  unfold fX3_cap_33 at hf
  refine c_VI (q := 35) (vs := [.int s0]) (rest := []) X (kX3_goesWell (cL C) s0 σ) (fun s a hts => cwV 1 hts gX3_cap_X3_goesWell rfl rfl rfl (by decide +kernel) ⟨Nat.le_of_ble_eq_true rfl, Nat.le_of_ble_eq_true rfl⟩) obj_m (rfl : vwCl[3]? = some (RX3, TX3, 21)) rfl rfl rfl rfl (Nat.le_of_ble_eq_true rfl) dX3_cap_33 ⟨Nat.le_of_ble_eq_true rfl, Nat.le_of_ble_eq_true rfl⟩ hf (fun u1 σ2 hf => ?_)
  refine g_if_ne (tgt := 41) X dX3_cap_36 (by decide) hf (fun hf => ?_) (fun hf => ?_)
  · refine g_aload_n X dX3_cap_41 0 rfl rfl ?_
    refine g_get (q := 35) (kf := 10) (v := .ref (adr C 41)) X obj_m rfl infX3_cap_X3 (by decide) (by decide +kernel) rfl dX3_cap_42 ?_
    refine g_iconst (v := (5 : Int32)) X dX3_cap_45 (by decide) ?_
    refine g_iload_n X dX3_cap_46 1 rfl rfl ?_
    refine g_imul X dX3_cap_47 ?_
    refine g_iload_n X dX3_cap_48 2 rfl rfl ?_
    refine g_iadd X dX3_cap_49 ?_
    refine g_iald (q := 41) (n := 25) X rfl rfl dX3_cap_50 hf (fun hf => ?_)
    refine s_istore (M := fun x3 => [(5, .int x3), (0, .ref (adr C 35)), (1, .int v1), (2, .int v2), (3, .int v3)]) X dX3_cap_51 (by decide) (fun _ => rfl) hf (fun x3 hf => ?_)
    refine g_aload_n X dX3_cap_53 1 rfl rfl ?_
    refine g_get (q := 35) (kf := 10) (v := .ref (adr C 41)) X obj_m rfl infX3_cap_X3 (by decide) (by decide +kernel) rfl dX3_cap_54 ?_
    refine g_iconst (v := (5 : Int32)) X dX3_cap_57 (by decide) ?_
    refine g_iload_n X dX3_cap_58 2 rfl rfl ?_
    refine g_imul X dX3_cap_59 ?_
    refine g_iload_n X dX3_cap_60 3 rfl rfl ?_
    refine g_iadd X dX3_cap_61 ?_
    refine g_iload_n X dX3_cap_62 4 rfl rfl ?_
    refine s_iast (q := 41) (n := 25) X rfl rfl dX3_cap_63 hf (fun σ4 hf => ?_)
    refine g_iload X dX3_cap_64 0 rfl ?_
    exact r_iret X hq dX3_cap_66 hf
  · refine g_iconst (v := (0 : Int32)) X dX3_cap_39 (by decide) ?_
    exact r_iret X hq dX3_cap_40 hf
def fX3_cap_e (v1 : Int32) (v2 : Int32) (v3 : Int32) (σ : Mem) : Option (Int32 × Mem) :=
  bnd (fX3_isWay v1 v2 σ) fun u1 σ2 =>
  if u1 = 0 then (fX3_cap_33 v1 v2 v3 (1 : Int32) σ2)
  else (bnd (fX3_in v3 (-1 : Int32) (20 : Int32) σ2) fun u3 σ4 =>
  if u3 = 0 then (fX3_cap_33 v1 v2 v3 (2 : Int32) σ4)
  else (fX3_cap_33 v1 v2 v3 (0 : Int32) σ4))
set_option maxHeartbeats 4000000 in
set_option maxRecDepth 100000 in
theorem tX3_cap_e {C : Ctx} (X : CX C cX3_cap 6 RX3 wsX3_cap rmX3_cap (some .int)) {r : Int32 × Mem} (hq : QI C r) (v1 : Int32) (v2 : Int32) (v3 : Int32) (σ : Mem) (hf : fX3_cap_e v1 v2 v3 σ = some r) : G C 6 0 0 0 [(0, .ref (adr C 35)), (1, .int v1), (2, .int v2), (3, .int v3)] [] σ := by
  unfold fX3_cap_e at hf
  refine g_aload_n X dX3_cap_0 0 rfl rfl ?_
  refine g_iload_n X dX3_cap_1 1 rfl rfl ?_
  refine g_iload_n X dX3_cap_2 2 rfl rfl ?_
  refine c_VI (q := 35) (vs := [.int v1, .int v2]) (rest := []) X (kX3_isWay (cL C) v1 v2 σ) (fun s a hts => cwV 2 hts gX3_cap_X3_isWay rfl rfl rfl (by decide +kernel) ⟨Nat.le_of_ble_eq_true rfl, Nat.le_of_ble_eq_true rfl⟩) obj_m (rfl : vwCl[3]? = some (RX3, TX3, 21)) rfl rfl rfl rfl (Nat.le_of_ble_eq_true rfl) dX3_cap_3 ⟨Nat.le_of_ble_eq_true rfl, Nat.le_of_ble_eq_true rfl⟩ hf (fun u1 σ2 hf => ?_)
  refine g_istore (L' := [(4, .int u1), (0, .ref (adr C 35)), (1, .int v1), (2, .int v2), (3, .int v3)]) X dX3_cap_6 (by decide) rfl ?_
  refine g_aload_n X dX3_cap_8 1 rfl rfl ?_
  refine g_iload X dX3_cap_9 0 rfl ?_
  refine g_if_ne (tgt := 18) X dX3_cap_11 (by decide) hf (fun hf => ?_) (fun hf => ?_)
  · refine g_iload_n X dX3_cap_18 4 rfl rfl ?_
    refine g_iconst (v := (-1 : Int32)) X dX3_cap_19 (by decide) ?_
    refine g_bipush (v := (20 : Int32)) X dX3_cap_20 (by decide) ?_
    refine c_SI (vs := [.int v3, .int (-1 : Int32), .int (20 : Int32)]) (rest := [.ref (adr C 35)]) X (kX3_in (cL C) v3 (-1 : Int32) (20 : Int32) σ2) (fun s a hts => va_cwS 3 hts gX3_cap_X3_in rfl rfl rfl (by decide +kernel) ⟨Nat.le_of_ble_eq_true rfl, Nat.le_of_ble_eq_true rfl⟩) rfl rfl rfl (Nat.le_of_ble_eq_true rfl) dX3_cap_22 ⟨Nat.le_of_ble_eq_true rfl, Nat.le_of_ble_eq_true rfl⟩ hf (fun u3 σ4 hf => ?_)
    refine g_if_eq (tgt := 32) X dX3_cap_25 (by decide) hf (fun hf => ?_) (fun hf => ?_)
    · refine g_iconst (v := (2 : Int32)) X dX3_cap_32 (by decide) ?_
      refine g_sub [1, 2, 3, 4] (L' := [(0, .ref (adr C 35)), (1, .int v1), (2, .int v2), (3, .int v3)]) rfl ?_
      exact tX3_cap_33 X hq v1 v2 v3 (2 : Int32) σ4 hf
    · refine g_iconst (v := (0 : Int32)) X dX3_cap_28 (by decide) ?_
      refine g_goto (tgt := 33) X dX3_cap_29 (by decide) ?_
      refine g_sub [1, 2, 3, 4] (L' := [(0, .ref (adr C 35)), (1, .int v1), (2, .int v2), (3, .int v3)]) rfl ?_
      exact tX3_cap_33 X hq v1 v2 v3 (0 : Int32) σ4 hf
  · refine g_iconst (v := (1 : Int32)) X dX3_cap_14 (by decide) ?_
    refine g_goto (tgt := 33) X dX3_cap_15 (by decide) ?_
    refine g_sub [1, 2, 3, 4] (L' := [(0, .ref (adr C 35)), (1, .int v1), (2, .int v2), (3, .int v3)]) rfl ?_
    exact tX3_cap_33 X hq v1 v2 v3 (1 : Int32) σ2 hf
def fX3_cap (v1 : Int32) (v2 : Int32) (v3 : Int32) (σ : Mem) : Option (Int32 × Mem) := fX3_cap_e v1 v2 v3 σ
theorem kX3_cap (l : Launch) (v1 : Int32) (v2 : Int32) (v3 : Int32) (σ : Mem) : KI l yX3_cap wsX3_cap rmX3_cap (fun ad => [.ref (ad 35), .int v1, .int v2, .int v3]) σ (fX3_cap v1 v2 v3 σ) := fun r hr => kt_of (by decide +kernel) rfl (fun _ => Nat.le_of_ble_eq_true rfl) (fun C X hne hq => tX3_cap_e X hq v1 v2 v3 σ hr)
/-! ### X3_terms -/
abbrev rmX3_terms : Room := { frames := 1, cells := 0, slots := 0, locals := 30 }
theorem infX3_terms_X3 : ∀ w ∈ u_ws RX3 TX3 21, w ∈ wsX3_terms := by decide +kernel
def fX3_terms_28 (v1 : Int32) (v2 : Int32) (s0 : Int32) (σ : Mem) : Option (Int32 × Mem) :=
  bnd (fX3_goesWell s0 σ) fun u1 σ2 =>
  if u1 = 0 then (some ((0 : Int32), σ2))
  else (ltI (rI σ2 35 12) fun x3 =>
  ltM (wI σ2 35 12 v1) fun σ4 =>
  ltM (wI σ4 35 13 v2) fun σ5 =>
  some (x3, σ5))
set_option maxHeartbeats 4000000 in
set_option maxRecDepth 100000 in
theorem tX3_terms_28 {C : Ctx} (X : CX C cX3_terms 4 RX3 wsX3_terms rmX3_terms (some .int)) {r : Int32 × Mem} (hq : QI C r) (v1 : Int32) (v2 : Int32) (s0 : Int32) (σ : Mem) (hf : fX3_terms_28 v1 v2 s0 σ = some r) : G C 4 0 0 28 [(0, .ref (adr C 35)), (1, .int v1), (2, .int v2)] [.int s0, .ref (adr C 35)] σ := by
  unfold fX3_terms_28 at hf
  refine c_VI (q := 35) (vs := [.int s0]) (rest := []) X (kX3_goesWell (cL C) s0 σ) (fun s a hts => cwV 1 hts gX3_terms_X3_goesWell rfl rfl rfl (by decide +kernel) ⟨Nat.le_of_ble_eq_true rfl, Nat.le_of_ble_eq_true rfl⟩) obj_m (rfl : vwCl[3]? = some (RX3, TX3, 21)) rfl rfl rfl rfl (Nat.le_of_ble_eq_true rfl) dX3_terms_28 ⟨Nat.le_of_ble_eq_true rfl, Nat.le_of_ble_eq_true rfl⟩ hf (fun u1 σ2 hf => ?_)
  refine g_if_ne (tgt := 36) X dX3_terms_31 (by decide) hf (fun hf => ?_) (fun hf => ?_)
  · refine g_aload_n X dX3_terms_36 0 rfl rfl ?_
    refine g_get (q := 35) (kf := 12) (v := .int (rI σ2 35 12)) X obj_m rfl infX3_terms_X3 (by decide) (by decide +kernel) rfl dX3_terms_37 ?_
    refine s_istore_n (M := fun x3 => [(3, .int x3), (0, .ref (adr C 35)), (1, .int v1), (2, .int v2)]) X dX3_terms_40 rfl (by decide) (fun _ => rfl) hf (fun x3 hf => ?_)
    refine g_aload_n X dX3_terms_41 1 rfl rfl ?_
    refine g_iload_n X dX3_terms_42 2 rfl rfl ?_
    refine s_put (q := 35) (kf := 12) X obj_m rfl infX3_terms_X3 tyX3_ok nmX3 (by decide) (by decide +kernel) rfl rfl rfl rfl (fun _ _ => rfl) (fun _ _ => Nat.le_of_ble_eq_true rfl) dX3_terms_43 hf (fun σ4 hf => ?_)
    refine g_aload_n X dX3_terms_46 1 rfl rfl ?_
    refine g_iload_n X dX3_terms_47 3 rfl rfl ?_
    refine s_put (q := 35) (kf := 13) X obj_m rfl infX3_terms_X3 tyX3_ok nmX3 (by decide) (by decide +kernel) rfl rfl rfl rfl (fun _ _ => rfl) (fun _ _ => Nat.le_of_ble_eq_true rfl) dX3_terms_48 hf (fun σ5 hf => ?_)
    refine g_iload_n X dX3_terms_51 0 rfl rfl ?_
    exact r_iret X hq dX3_terms_52 hf
  · refine g_iconst (v := (0 : Int32)) X dX3_terms_34 (by decide) ?_
    exact r_iret X hq dX3_terms_35 hf
def fX3_terms_27 (v1 : Int32) (v2 : Int32) (σ : Mem) : Option (Int32 × Mem) :=
  fX3_terms_28 v1 v2 (1 : Int32) σ
set_option maxHeartbeats 4000000 in
set_option maxRecDepth 100000 in
theorem tX3_terms_27 {C : Ctx} (X : CX C cX3_terms 4 RX3 wsX3_terms rmX3_terms (some .int)) {r : Int32 × Mem} (hq : QI C r) (v1 : Int32) (v2 : Int32) (σ : Mem) (hf : fX3_terms_27 v1 v2 σ = some r) : G C 4 0 0 27 [(0, .ref (adr C 35)), (1, .int v1), (2, .int v2)] [.ref (adr C 35)] σ := by
  unfold fX3_terms_27 at hf
  refine g_iconst (v := (1 : Int32)) X dX3_terms_27 (by decide) ?_
  exact tX3_terms_28 X hq v1 v2 (1 : Int32) σ hf
def fX3_terms_e (v1 : Int32) (v2 : Int32) (σ : Mem) : Option (Int32 × Mem) :=
  bnd (fX3_in v1 (0 : Int32) (10000 : Int32) σ) fun u1 σ2 =>
  if u1 = 0 then (fX3_terms_27 v1 v2 σ2)
  else (bnd (fX3_in v2 (0 : Int32) (10000 : Int32) σ2) fun u3 σ4 =>
  if u3 = 0 then (fX3_terms_27 v1 v2 σ4)
  else (fX3_terms_28 v1 v2 (0 : Int32) σ4))
set_option maxHeartbeats 4000000 in
set_option maxRecDepth 100000 in
theorem tX3_terms_e {C : Ctx} (X : CX C cX3_terms 4 RX3 wsX3_terms rmX3_terms (some .int)) {r : Int32 × Mem} (hq : QI C r) (v1 : Int32) (v2 : Int32) (σ : Mem) (hf : fX3_terms_e v1 v2 σ = some r) : G C 4 0 0 0 [(0, .ref (adr C 35)), (1, .int v1), (2, .int v2)] [] σ := by
  unfold fX3_terms_e at hf
  refine g_aload_n X dX3_terms_0 0 rfl rfl ?_
  refine g_iload_n X dX3_terms_1 1 rfl rfl ?_
  refine g_iconst (v := (0 : Int32)) X dX3_terms_2 (by decide) ?_
  refine g_sipush (v := (10000 : Int32)) X dX3_terms_3 (by decide) ?_
  refine c_SI (vs := [.int v1, .int (0 : Int32), .int (10000 : Int32)]) (rest := [.ref (adr C 35)]) X (kX3_in (cL C) v1 (0 : Int32) (10000 : Int32) σ) (fun s a hts => va_cwS 3 hts gX3_terms_X3_in rfl rfl rfl (by decide +kernel) ⟨Nat.le_of_ble_eq_true rfl, Nat.le_of_ble_eq_true rfl⟩) rfl rfl rfl (Nat.le_of_ble_eq_true rfl) dX3_terms_6 ⟨Nat.le_of_ble_eq_true rfl, Nat.le_of_ble_eq_true rfl⟩ hf (fun u1 σ2 hf => ?_)
  refine g_if_eq (tgt := 27) X dX3_terms_9 (by decide) hf (fun hf => ?_) (fun hf => ?_)
  · exact tX3_terms_27 X hq v1 v2 σ2 hf
  · refine g_iload_n X dX3_terms_12 2 rfl rfl ?_
    refine g_iconst (v := (0 : Int32)) X dX3_terms_13 (by decide) ?_
    refine g_sipush (v := (10000 : Int32)) X dX3_terms_14 (by decide) ?_
    refine c_SI (vs := [.int v2, .int (0 : Int32), .int (10000 : Int32)]) (rest := [.ref (adr C 35)]) X (kX3_in (cL C) v2 (0 : Int32) (10000 : Int32) σ2) (fun s a hts => va_cwS 3 hts gX3_terms_X3_in rfl rfl rfl (by decide +kernel) ⟨Nat.le_of_ble_eq_true rfl, Nat.le_of_ble_eq_true rfl⟩) rfl rfl rfl (Nat.le_of_ble_eq_true rfl) dX3_terms_17 ⟨Nat.le_of_ble_eq_true rfl, Nat.le_of_ble_eq_true rfl⟩ hf (fun u3 σ4 hf => ?_)
    refine g_if_eq (tgt := 27) X dX3_terms_20 (by decide) hf (fun hf => ?_) (fun hf => ?_)
    · exact tX3_terms_27 X hq v1 v2 σ4 hf
    · refine g_iconst (v := (0 : Int32)) X dX3_terms_23 (by decide) ?_
      refine g_goto (tgt := 28) X dX3_terms_24 (by decide) ?_
      exact tX3_terms_28 X hq v1 v2 (0 : Int32) σ4 hf
def fX3_terms (v1 : Int32) (v2 : Int32) (σ : Mem) : Option (Int32 × Mem) := fX3_terms_e v1 v2 σ
theorem kX3_terms (l : Launch) (v1 : Int32) (v2 : Int32) (σ : Mem) : KI l yX3_terms wsX3_terms rmX3_terms (fun ad => [.ref (ad 35), .int v1, .int v2]) σ (fX3_terms v1 v2 σ) := fun r hr => kt_of (by decide +kernel) rfl (fun _ => Nat.le_of_ble_eq_true rfl) (fun C X hne hq => tX3_terms_e X hq v1 v2 σ hr)
/-! ### X3_apart -/
abbrev rmX3_apart : Room := { frames := 1, cells := 0, slots := 0, locals := 29 }
theorem infX3_apart_X3 : ∀ w ∈ u_ws RX3 TX3 21, w ∈ wsX3_apart := by decide +kernel
def fX3_apart_38 (s0 : Int32) (σ : Mem) : Option (Int32 × Mem) :=
  some (s0, σ)
set_option maxHeartbeats 4000000 in
set_option maxRecDepth 100000 in
theorem tX3_apart_38 {C : Ctx} (X : CX C cX3_apart 4 RX3 wsX3_apart rmX3_apart (some .int)) {r : Int32 × Mem} (hq : QI C r) (s0 : Int32) (σ : Mem) (hf : fX3_apart_38 s0 σ = some r) : G C 4 0 0 38 [] [.int s0] σ := by
  unfold fX3_apart_38 at hf
  exact r_iret X hq dX3_apart_38 hf
def fX3_apart_14 (s0 : Int32) (σ : Mem) : Option (Int32 × Mem) :=
  if (rI σ 35 7) = (2 : Int32) then (grd (decide ((rI σ 35 8) ≠ 0)) (grd (decide ((rI σ 35 8) ≠ 0)) (bnd (fX3_lesser (s0 - s0 / (rI σ 35 8) * (rI σ 35 8)) ((rI σ 35 8) - (s0 - s0 / (rI σ 35 8) * (rI σ 35 8))) σ) fun u1 σ2 =>
  some (u1, σ2))))
  else (if (rI σ 35 7) = (1 : Int32) then (fX3_apart_38 (s0 * s0) σ)
  else (fX3_apart_38 s0 σ))
set_option maxHeartbeats 4000000 in
set_option maxRecDepth 100000 in
theorem tX3_apart_14 {C : Ctx} (X : CX C cX3_apart 4 RX3 wsX3_apart rmX3_apart (some .int)) {r : Int32 × Mem} (hq : QI C r) (s0 : Int32) (σ : Mem) (hf : fX3_apart_14 s0 σ = some r) : G C 4 0 0 14 [(0, .ref (adr C 35))] [.int s0] σ := by
  unfold fX3_apart_14 at hf
  refine g_istore_n (L' := [(3, .int s0), (0, .ref (adr C 35))]) X dX3_apart_14 rfl (by decide) rfl ?_
  refine g_aload_n X dX3_apart_15 1 rfl rfl ?_
  refine g_get (q := 35) (kf := 7) (v := .int (rI σ 35 7)) X obj_m rfl infX3_apart_X3 (by decide) (by decide +kernel) rfl dX3_apart_16 ?_
  refine g_iconst (v := (2 : Int32)) X dX3_apart_19 (by decide) ?_
  refine g_icmp_eq (tgt := 39) X dX3_apart_20 (by decide) hf (fun hf => ?_) (fun hf => ?_)
  · refine g_iload_n X dX3_apart_39 0 rfl rfl ?_
    refine g_aload_n X dX3_apart_40 1 rfl rfl ?_
    refine g_get (q := 35) (kf := 8) (v := .int (rI σ 35 8)) X obj_m rfl infX3_apart_X3 (by decide) (by decide +kernel) rfl dX3_apart_41 ?_
    refine g_irem X dX3_apart_44 hf (fun hf => ?_)
    refine g_aload_n X dX3_apart_45 1 rfl rfl ?_
    refine g_get (q := 35) (kf := 8) (v := .int (rI σ 35 8)) X obj_m rfl infX3_apart_X3 (by decide) (by decide +kernel) rfl dX3_apart_46 ?_
    refine g_iload_n X dX3_apart_49 0 rfl rfl ?_
    refine g_aload_n X dX3_apart_50 1 rfl rfl ?_
    refine g_get (q := 35) (kf := 8) (v := .int (rI σ 35 8)) X obj_m rfl infX3_apart_X3 (by decide) (by decide +kernel) rfl dX3_apart_51 ?_
    refine g_irem X dX3_apart_54 hf (fun hf => ?_)
    refine g_isub X dX3_apart_55 ?_
    refine c_SI (vs := [.int (s0 - s0 / (rI σ 35 8) * (rI σ 35 8)), .int ((rI σ 35 8) - (s0 - s0 / (rI σ 35 8) * (rI σ 35 8)))]) (rest := []) X (kX3_lesser (cL C) (s0 - s0 / (rI σ 35 8) * (rI σ 35 8)) ((rI σ 35 8) - (s0 - s0 / (rI σ 35 8) * (rI σ 35 8))) σ) (fun s a hts => va_cwS 2 hts gX3_apart_X3_lesser rfl rfl rfl (by decide +kernel) ⟨Nat.le_of_ble_eq_true rfl, Nat.le_of_ble_eq_true rfl⟩) rfl rfl rfl (Nat.le_of_ble_eq_true rfl) dX3_apart_56 ⟨Nat.le_of_ble_eq_true rfl, Nat.le_of_ble_eq_true rfl⟩ hf (fun u1 σ2 hf => ?_)
    exact r_iret X hq dX3_apart_59 hf
  · refine g_aload_n X dX3_apart_23 1 rfl rfl ?_
    refine g_get (q := 35) (kf := 7) (v := .int (rI σ 35 7)) X obj_m rfl infX3_apart_X3 (by decide) (by decide +kernel) rfl dX3_apart_24 ?_
    refine g_iconst (v := (1 : Int32)) X dX3_apart_27 (by decide) ?_
    refine g_icmp_ne (tgt := 37) X dX3_apart_28 (by decide) hf (fun hf => ?_) (fun hf => ?_)
    · refine g_iload_n X dX3_apart_37 0 rfl rfl ?_
      refine g_sub [] (L' := []) rfl ?_
      exact tX3_apart_38 X hq s0 σ hf
    · refine g_iload_n X dX3_apart_31 0 rfl rfl ?_
      refine g_iload_n X dX3_apart_32 0 rfl rfl ?_
      refine g_imul X dX3_apart_33 ?_
      refine g_goto (tgt := 38) X dX3_apart_34 (by decide) ?_
      refine g_sub [] (L' := []) rfl ?_
      exact tX3_apart_38 X hq (s0 * s0) σ hf
def fX3_apart_e (v1 : Int32) (v2 : Int32) (σ : Mem) : Option (Int32 × Mem) :=
  if v2 ≤ v1 then (fX3_apart_14 (v1 - v2) σ)
  else (fX3_apart_14 (v2 - v1) σ)
set_option maxHeartbeats 4000000 in
set_option maxRecDepth 100000 in
theorem tX3_apart_e {C : Ctx} (X : CX C cX3_apart 4 RX3 wsX3_apart rmX3_apart (some .int)) {r : Int32 × Mem} (hq : QI C r) (v1 : Int32) (v2 : Int32) (σ : Mem) (hf : fX3_apart_e v1 v2 σ = some r) : G C 4 0 0 0 [(0, .ref (adr C 35)), (1, .int v1), (2, .int v2)] [] σ := by
  unfold fX3_apart_e at hf
  refine g_iload_n X dX3_apart_0 1 rfl rfl ?_
  refine g_iload_n X dX3_apart_1 2 rfl rfl ?_
  refine g_icmp_ge (tgt := 11) X dX3_apart_2 (by decide) hf (fun hf => ?_) (fun hf => ?_)
  · refine g_iload_n X dX3_apart_11 1 rfl rfl ?_
    refine g_iload_n X dX3_apart_12 2 rfl rfl ?_
    refine g_isub X dX3_apart_13 ?_
    refine g_sub [0] (L' := [(0, .ref (adr C 35))]) rfl ?_
    exact tX3_apart_14 X hq (v1 - v2) σ hf
  · refine g_iload_n X dX3_apart_5 2 rfl rfl ?_
    refine g_iload_n X dX3_apart_6 1 rfl rfl ?_
    refine g_isub X dX3_apart_7 ?_
    refine g_goto (tgt := 14) X dX3_apart_8 (by decide) ?_
    refine g_sub [0] (L' := [(0, .ref (adr C 35))]) rfl ?_
    exact tX3_apart_14 X hq (v2 - v1) σ hf
def fX3_apart (v1 : Int32) (v2 : Int32) (σ : Mem) : Option (Int32 × Mem) := fX3_apart_e v1 v2 σ
theorem kX3_apart (l : Launch) (v1 : Int32) (v2 : Int32) (σ : Mem) : KI l yX3_apart wsX3_apart rmX3_apart (fun ad => [.ref (ad 35), .int v1, .int v2]) σ (fX3_apart v1 v2 σ) := fun r hr => kt_of (by decide +kernel) rfl (fun _ => Nat.le_of_ble_eq_true rfl) (fun C X hne hq => tX3_apart_e X hq v1 v2 σ hr)
/-! ### X3_unitOf -/
abbrev rmX3_unitOf : Room := { frames := 2, cells := 0, slots := 0, locals := 52 }
theorem infX3_unitOf_X3 : ∀ w ∈ u_ws RX3 TX3 21, w ∈ wsX3_unitOf := by decide +kernel
def fX3_unitOf_43 (s0 : Int32) (σ : Mem) : Option (Int32 × Mem) :=
  some (s0, σ)
set_option maxHeartbeats 4000000 in
set_option maxRecDepth 100000 in
theorem tX3_unitOf_43 {C : Ctx} (X : CX C cX3_unitOf 3 RX3 wsX3_unitOf rmX3_unitOf (some .int)) {r : Int32 × Mem} (hq : QI C r) (s0 : Int32) (σ : Mem) (hf : fX3_unitOf_43 s0 σ = some r) : G C 3 0 0 43 [] [.int s0] σ := by
  unfold fX3_unitOf_43 at hf
  exact r_iret X hq dX3_unitOf_43 hf
def fX3_unitOf_e (v1 : Int32) (v2 : Int32) (σ : Mem) : Option (Int32 × Mem) :=
  grd (inb (((5 : Int32) * v1) + v2) 25) (if (rI σ 40 (ix (((5 : Int32) * v1) + v2))) = (-1 : Int32) then (grd (inb v1 5) (grd (inb v2 5) (bnd (fX3_apart (rI σ 36 (ix v1)) (rI σ 38 (ix v2)) σ) fun u1 σ2 =>
  fX3_unitOf_43 u1 σ2)))
  else (grd (inb (((5 : Int32) * v1) + v2) 25) (fX3_unitOf_43 (rI σ 40 (ix (((5 : Int32) * v1) + v2))) σ)))
set_option maxHeartbeats 4000000 in
set_option maxRecDepth 100000 in
theorem tX3_unitOf_e {C : Ctx} (X : CX C cX3_unitOf 3 RX3 wsX3_unitOf rmX3_unitOf (some .int)) {r : Int32 × Mem} (hq : QI C r) (v1 : Int32) (v2 : Int32) (σ : Mem) (hf : fX3_unitOf_e v1 v2 σ = some r) : G C 3 0 0 0 [(0, .ref (adr C 35)), (1, .int v1), (2, .int v2)] [] σ := by
  unfold fX3_unitOf_e at hf
  refine g_aload_n X dX3_unitOf_0 0 rfl rfl ?_
  refine g_get (q := 35) (kf := 9) (v := .ref (adr C 40)) X obj_m rfl infX3_unitOf_X3 (by decide) (by decide +kernel) rfl dX3_unitOf_1 ?_
  refine g_iconst (v := (5 : Int32)) X dX3_unitOf_4 (by decide) ?_
  refine g_iload_n X dX3_unitOf_5 1 rfl rfl ?_
  refine g_imul X dX3_unitOf_6 ?_
  refine g_iload_n X dX3_unitOf_7 2 rfl rfl ?_
  refine g_iadd X dX3_unitOf_8 ?_
  refine g_iald (q := 40) (n := 25) X rfl rfl dX3_unitOf_9 hf (fun hf => ?_)
  refine g_iconst (v := (-1 : Int32)) X dX3_unitOf_10 (by decide) ?_
  refine g_icmp_ne (tgt := 33) X dX3_unitOf_11 (by decide) hf (fun hf => ?_) (fun hf => ?_)
  · refine g_aload_n X dX3_unitOf_33 0 rfl rfl ?_
    refine g_get (q := 35) (kf := 9) (v := .ref (adr C 40)) X obj_m rfl infX3_unitOf_X3 (by decide) (by decide +kernel) rfl dX3_unitOf_34 ?_
    refine g_iconst (v := (5 : Int32)) X dX3_unitOf_37 (by decide) ?_
    refine g_iload_n X dX3_unitOf_38 1 rfl rfl ?_
    refine g_imul X dX3_unitOf_39 ?_
    refine g_iload_n X dX3_unitOf_40 2 rfl rfl ?_
    refine g_iadd X dX3_unitOf_41 ?_
    refine g_iald (q := 40) (n := 25) X rfl rfl dX3_unitOf_42 hf (fun hf => ?_)
    refine g_sub [] (L' := []) rfl ?_
    exact tX3_unitOf_43 X hq (rI σ 40 (ix (((5 : Int32) * v1) + v2))) σ hf
  · refine g_aload_n X dX3_unitOf_14 0 rfl rfl ?_
    refine g_aload_n X dX3_unitOf_15 0 rfl rfl ?_
    refine g_get (q := 35) (kf := 3) (v := .ref (adr C 36)) X obj_m rfl infX3_unitOf_X3 (by decide) (by decide +kernel) rfl dX3_unitOf_16 ?_
    refine g_iload_n X dX3_unitOf_19 1 rfl rfl ?_
    refine g_iald (q := 36) (n := 5) X rfl rfl dX3_unitOf_20 hf (fun hf => ?_)
    refine g_aload_n X dX3_unitOf_21 0 rfl rfl ?_
    refine g_get (q := 35) (kf := 5) (v := .ref (adr C 38)) X obj_m rfl infX3_unitOf_X3 (by decide) (by decide +kernel) rfl dX3_unitOf_22 ?_
    refine g_iload_n X dX3_unitOf_25 2 rfl rfl ?_
    refine g_iald (q := 38) (n := 5) X rfl rfl dX3_unitOf_26 hf (fun hf => ?_)
    refine c_VI (q := 35) (vs := [.int (rI σ 36 (ix v1)), .int (rI σ 38 (ix v2))]) (rest := []) X (kX3_apart (cL C) (rI σ 36 (ix v1)) (rI σ 38 (ix v2)) σ) (fun s a hts => cwV 2 hts gX3_unitOf_X3_apart rfl rfl rfl (by decide +kernel) ⟨Nat.le_of_ble_eq_true rfl, Nat.le_of_ble_eq_true rfl⟩) obj_m (rfl : vwCl[3]? = some (RX3, TX3, 21)) rfl rfl rfl rfl (Nat.le_of_ble_eq_true rfl) dX3_unitOf_27 ⟨Nat.le_of_ble_eq_true rfl, Nat.le_of_ble_eq_true rfl⟩ hf (fun u1 σ2 hf => ?_)
    refine g_goto (tgt := 43) X dX3_unitOf_30 (by decide) ?_
    refine g_sub [] (L' := []) rfl ?_
    exact tX3_unitOf_43 X hq u1 σ2 hf
def fX3_unitOf (v1 : Int32) (v2 : Int32) (σ : Mem) : Option (Int32 × Mem) := fX3_unitOf_e v1 v2 σ
theorem kX3_unitOf (l : Launch) (v1 : Int32) (v2 : Int32) (σ : Mem) : KI l yX3_unitOf wsX3_unitOf rmX3_unitOf (fun ad => [.ref (ad 35), .int v1, .int v2]) σ (fX3_unitOf v1 v2 σ) := fun r hr => kt_of (by decide +kernel) rfl (fun _ => Nat.le_of_ble_eq_true rfl) (fun C X hne hq => tX3_unitOf_e X hq v1 v2 σ hr)
/-! ### X3_unit -/
abbrev rmX3_unit : Room := { frames := 3, cells := 0, slots := 0, locals := 74 }
def fX3_unit_31 (s0 : Int32) (σ : Mem) : Option (Int32 × Mem) :=
  some (s0, σ)
set_option maxHeartbeats 4000000 in
set_option maxRecDepth 100000 in
theorem tX3_unit_31 {C : Ctx} (X : CX C cX3_unit 3 RX3 wsX3_unit rmX3_unit (some .int)) {r : Int32 × Mem} (hq : QI C r) (s0 : Int32) (σ : Mem) (hf : fX3_unit_31 s0 σ = some r) : G C 3 0 0 31 [] [.int s0] σ := by
  unfold fX3_unit_31 at hf
  exact r_iret X hq dX3_unit_31 hf
def fX3_unit_15 (v1 : Int32) (v2 : Int32) (s0 : Int32) (σ : Mem) : Option (Int32 × Mem) :=
  bnd (fX3_goesWell s0 σ) fun u1 σ2 =>
  if u1 = 0 then (fX3_unit_31 (0 : Int32) σ2)
  else (bnd (fX3_unitOf v1 v2 σ2) fun u3 σ4 =>
  fX3_unit_31 u3 σ4)
set_option maxHeartbeats 4000000 in
set_option maxRecDepth 100000 in
theorem tX3_unit_15 {C : Ctx} (X : CX C cX3_unit 3 RX3 wsX3_unit rmX3_unit (some .int)) {r : Int32 × Mem} (hq : QI C r) (v1 : Int32) (v2 : Int32) (s0 : Int32) (σ : Mem) (hf : fX3_unit_15 v1 v2 s0 σ = some r) : G C 3 0 0 15 [(0, .ref (adr C 35)), (1, .int v1), (2, .int v2)] [.int s0, .ref (adr C 35)] σ := by
  unfold fX3_unit_15 at hf
  refine c_VI (q := 35) (vs := [.int s0]) (rest := []) X (kX3_goesWell (cL C) s0 σ) (fun s a hts => cwV 1 hts gX3_unit_X3_goesWell rfl rfl rfl (by decide +kernel) ⟨Nat.le_of_ble_eq_true rfl, Nat.le_of_ble_eq_true rfl⟩) obj_m (rfl : vwCl[3]? = some (RX3, TX3, 21)) rfl rfl rfl rfl (Nat.le_of_ble_eq_true rfl) dX3_unit_15 ⟨Nat.le_of_ble_eq_true rfl, Nat.le_of_ble_eq_true rfl⟩ hf (fun u1 σ2 hf => ?_)
  refine g_if_eq (tgt := 30) X dX3_unit_18 (by decide) hf (fun hf => ?_) (fun hf => ?_)
  · refine g_iconst (v := (0 : Int32)) X dX3_unit_30 (by decide) ?_
    refine g_sub [] (L' := []) rfl ?_
    exact tX3_unit_31 X hq (0 : Int32) σ2 hf
  · refine g_aload_n X dX3_unit_21 0 rfl rfl ?_
    refine g_iload_n X dX3_unit_22 1 rfl rfl ?_
    refine g_iload_n X dX3_unit_23 2 rfl rfl ?_
    refine c_VI (q := 35) (vs := [.int v1, .int v2]) (rest := []) X (kX3_unitOf (cL C) v1 v2 σ2) (fun s a hts => cwV 2 hts gX3_unit_X3_unitOf rfl rfl rfl (by decide +kernel) ⟨Nat.le_of_ble_eq_true rfl, Nat.le_of_ble_eq_true rfl⟩) obj_m (rfl : vwCl[3]? = some (RX3, TX3, 21)) rfl rfl rfl rfl (Nat.le_of_ble_eq_true rfl) dX3_unit_24 ⟨Nat.le_of_ble_eq_true rfl, Nat.le_of_ble_eq_true rfl⟩ hf (fun u3 σ4 hf => ?_)
    refine g_goto (tgt := 31) X dX3_unit_27 (by decide) ?_
    refine g_sub [] (L' := []) rfl ?_
    exact tX3_unit_31 X hq u3 σ4 hf
def fX3_unit_e (v1 : Int32) (v2 : Int32) (σ : Mem) : Option (Int32 × Mem) :=
  bnd (fX3_isWay v1 v2 σ) fun u1 σ2 =>
  if u1 = 0 then (fX3_unit_15 v1 v2 (1 : Int32) σ2)
  else (fX3_unit_15 v1 v2 (0 : Int32) σ2)
set_option maxHeartbeats 4000000 in
set_option maxRecDepth 100000 in
theorem tX3_unit_e {C : Ctx} (X : CX C cX3_unit 3 RX3 wsX3_unit rmX3_unit (some .int)) {r : Int32 × Mem} (hq : QI C r) (v1 : Int32) (v2 : Int32) (σ : Mem) (hf : fX3_unit_e v1 v2 σ = some r) : G C 3 0 0 0 [(0, .ref (adr C 35)), (1, .int v1), (2, .int v2)] [] σ := by
  unfold fX3_unit_e at hf
  refine g_aload_n X dX3_unit_0 0 rfl rfl ?_
  refine g_aload_n X dX3_unit_1 0 rfl rfl ?_
  refine g_iload_n X dX3_unit_2 1 rfl rfl ?_
  refine g_iload_n X dX3_unit_3 2 rfl rfl ?_
  refine c_VI (q := 35) (vs := [.int v1, .int v2]) (rest := [.ref (adr C 35)]) X (kX3_isWay (cL C) v1 v2 σ) (fun s a hts => cwV 2 hts gX3_unit_X3_isWay rfl rfl rfl (by decide +kernel) ⟨Nat.le_of_ble_eq_true rfl, Nat.le_of_ble_eq_true rfl⟩) obj_m (rfl : vwCl[3]? = some (RX3, TX3, 21)) rfl rfl rfl rfl (Nat.le_of_ble_eq_true rfl) dX3_unit_4 ⟨Nat.le_of_ble_eq_true rfl, Nat.le_of_ble_eq_true rfl⟩ hf (fun u1 σ2 hf => ?_)
  refine g_if_eq (tgt := 14) X dX3_unit_7 (by decide) hf (fun hf => ?_) (fun hf => ?_)
  · refine g_iconst (v := (1 : Int32)) X dX3_unit_14 (by decide) ?_
    exact tX3_unit_15 X hq v1 v2 (1 : Int32) σ2 hf
  · refine g_iconst (v := (0 : Int32)) X dX3_unit_10 (by decide) ?_
    refine g_goto (tgt := 15) X dX3_unit_11 (by decide) ?_
    exact tX3_unit_15 X hq v1 v2 (0 : Int32) σ2 hf
def fX3_unit (v1 : Int32) (v2 : Int32) (σ : Mem) : Option (Int32 × Mem) := fX3_unit_e v1 v2 σ
theorem kX3_unit (l : Launch) (v1 : Int32) (v2 : Int32) (σ : Mem) : KI l yX3_unit wsX3_unit rmX3_unit (fun ad => [.ref (ad 35), .int v1, .int v2]) σ (fX3_unit v1 v2 σ) := fun r hr => kt_of (by decide +kernel) rfl (fun _ => Nat.le_of_ble_eq_true rfl) (fun C X hne hq => tX3_unit_e X hq v1 v2 σ hr)
/-! ### X3_layOut -/
abbrev rmX3_layOut : Room := { frames := 0, cells := 0, slots := 0, locals := 8 }
theorem infX3_layOut_X3 : ∀ w ∈ u_ws RX3 TX3 21, w ∈ wsX3_layOut := by decide +kernel
def fX3_layOut_95 (r63 : Int32 → Mem → Option (Int32 × Mem)) (v1 : Int32) (s0 : Int32) (s1 : Int32) (σ : Mem) : Option (Int32 × Mem) :=
  grd (inb s1 25) (ltM (wI σ 45 (ix s1) s0) fun σ1 =>
  r63 (v1 + 1) σ1)
set_option maxHeartbeats 4000000 in
set_option maxRecDepth 100000 in
theorem tX3_layOut_95 {C : Ctx} (X : CX C cX3_layOut 2 RX3 wsX3_layOut rmX3_layOut none) {r : Int32 × Mem} (hq : QV C r) (r63 : Int32 → Mem → Option (Int32 × Mem)) (ih63 : ∀ (v1 : Int32) (σ : Mem), r63 v1 σ = some r → G C 2 0 0 63 [(0, .ref (adr C 35)), (1, .int v1)] [] σ) (v1 : Int32) (s0 : Int32) (s1 : Int32) (σ : Mem) (hf : fX3_layOut_95 r63 v1 s0 s1 σ = some r) : G C 2 0 0 95 [(0, .ref (adr C 35)), (1, .int v1)] [.int s0, .int s1, .ref (adr C 45)] σ := by
  unfold fX3_layOut_95 at hf
  refine s_iast (q := 45) (n := 25) X rfl rfl dX3_layOut_95 hf (fun σ1 hf => ?_)
  refine g_iinc (v := (v1 + 1)) (L' := [(1, .int (v1 + 1)), (0, .ref (adr C 35))]) X dX3_layOut_96 1 rfl rfl (by decide) rfl ?_
  refine g_goto (tgt := 63) X dX3_layOut_99 (by decide) ?_
  refine g_sub [1, 0] (L' := [(0, .ref (adr C 35)), (1, .int (v1 + 1))]) rfl ?_
  exact ih63 (v1 + 1) σ1 hf
def fX3_layOut_63b (r63 : Int32 → Mem → Option (Int32 × Mem)) (v1 : Int32) (σ : Mem) : Option (Int32 × Mem) :=
  if (25 : Int32) ≤ v1 then (some ((0 : Int32), σ))
  else (grd (inb v1 25) (if (rI σ 41 (ix v1)) = (-1 : Int32) then (fX3_layOut_95 r63 v1 (40 : Int32) v1 σ)
  else (grd (inb v1 25) (fX3_layOut_95 r63 v1 (rI σ 41 (ix v1)) v1 σ))))
def fX3_layOut_63 : Nat → Int32 → Mem → Option (Int32 × Mem)
  | 0 => fun _ _ => none
  | n + 1 => fX3_layOut_63b (fX3_layOut_63 n)
set_option maxHeartbeats 4000000 in
set_option maxRecDepth 100000 in
theorem tX3_layOut_63b {C : Ctx} (X : CX C cX3_layOut 2 RX3 wsX3_layOut rmX3_layOut none) {r : Int32 × Mem} (hq : QV C r) (r63 : Int32 → Mem → Option (Int32 × Mem)) (ih63 : ∀ (v1 : Int32) (σ : Mem), r63 v1 σ = some r → G C 2 0 0 63 [(0, .ref (adr C 35)), (1, .int v1)] [] σ) (v1 : Int32) (σ : Mem) (hf : fX3_layOut_63b r63 v1 σ = some r) : G C 2 0 0 63 [(0, .ref (adr C 35)), (1, .int v1)] [] σ := by
  unfold fX3_layOut_63b at hf
  refine g_iload_n X dX3_layOut_63 1 rfl rfl ?_
  refine g_bipush (v := (25 : Int32)) X dX3_layOut_64 (by decide) ?_
  refine g_icmp_ge (tgt := 102) X dX3_layOut_66 (by decide) hf (fun hf => ?_) (fun hf => ?_)
  · exact r_vret X hq dX3_layOut_102 hf
  · refine g_aload_n X dX3_layOut_69 0 rfl rfl ?_
    refine g_get (q := 35) (kf := 16) (v := .ref (adr C 45)) X obj_m rfl infX3_layOut_X3 (by decide) (by decide +kernel) rfl dX3_layOut_70 ?_
    refine g_iload_n X dX3_layOut_73 1 rfl rfl ?_
    refine g_aload_n X dX3_layOut_74 0 rfl rfl ?_
    refine g_get (q := 35) (kf := 10) (v := .ref (adr C 41)) X obj_m rfl infX3_layOut_X3 (by decide) (by decide +kernel) rfl dX3_layOut_75 ?_
    refine g_iload_n X dX3_layOut_78 1 rfl rfl ?_
    refine g_iald (q := 41) (n := 25) X rfl rfl dX3_layOut_79 hf (fun hf => ?_)
    refine g_iconst (v := (-1 : Int32)) X dX3_layOut_80 (by decide) ?_
    refine g_icmp_ne (tgt := 89) X dX3_layOut_81 (by decide) hf (fun hf => ?_) (fun hf => ?_)
    · refine g_aload_n X dX3_layOut_89 0 rfl rfl ?_
      refine g_get (q := 35) (kf := 10) (v := .ref (adr C 41)) X obj_m rfl infX3_layOut_X3 (by decide) (by decide +kernel) rfl dX3_layOut_90 ?_
      refine g_iload_n X dX3_layOut_93 1 rfl rfl ?_
      refine g_iald (q := 41) (n := 25) X rfl rfl dX3_layOut_94 hf (fun hf => ?_)
      exact tX3_layOut_95 X hq r63 ih63 v1 (rI σ 41 (ix v1)) v1 σ hf
    · refine g_bipush (v := (40 : Int32)) X dX3_layOut_84 (by decide) ?_
      refine g_goto (tgt := 95) X dX3_layOut_86 (by decide) ?_
      exact tX3_layOut_95 X hq r63 ih63 v1 (40 : Int32) v1 σ hf
set_option maxHeartbeats 4000000 in
set_option maxRecDepth 100000 in
theorem tX3_layOut_63 {C : Ctx} (X : CX C cX3_layOut 2 RX3 wsX3_layOut rmX3_layOut none) {r : Int32 × Mem} (hq : QV C r) : ∀ (n : Nat) (v1 : Int32) (σ : Mem) (hf : fX3_layOut_63 n v1 σ = some r), G C 2 0 0 63 [(0, .ref (adr C 35)), (1, .int v1)] [] σ := by
  intro n
  induction n with
  | zero => intros; rename_i hf; exact absurd (show (none : Option (Int32 × Mem)) = some r from hf) (by simp)
  | succ n ih =>
    intro v1 σ hf
    exact tX3_layOut_63b X hq (fX3_layOut_63 n) (fun v1 σ hf => ih v1 σ hf) v1 σ hf
def fX3_layOut_54 (r2 : Int32 → Mem → Option (Int32 × Mem)) (v1 : Int32) (s0 : Int32) (s1 : Int32) (σ : Mem) : Option (Int32 × Mem) :=
  grd (inb s1 5) (ltM (wI σ 44 (ix s1) s0) fun σ1 =>
  r2 (v1 + 1) σ1)
set_option maxHeartbeats 4000000 in
set_option maxRecDepth 100000 in
theorem tX3_layOut_54 {C : Ctx} (X : CX C cX3_layOut 2 RX3 wsX3_layOut rmX3_layOut none) {r : Int32 × Mem} (hq : QV C r) (r2 : Int32 → Mem → Option (Int32 × Mem)) (ih2 : ∀ (v1 : Int32) (σ : Mem), r2 v1 σ = some r → G C 2 0 0 2 [(0, .ref (adr C 35)), (1, .int v1)] [] σ) (v1 : Int32) (s0 : Int32) (s1 : Int32) (σ : Mem) (hf : fX3_layOut_54 r2 v1 s0 s1 σ = some r) : G C 2 0 0 54 [(0, .ref (adr C 35)), (1, .int v1)] [.int s0, .int s1, .ref (adr C 44)] σ := by
  unfold fX3_layOut_54 at hf
  refine s_iast (q := 44) (n := 5) X rfl rfl dX3_layOut_54 hf (fun σ1 hf => ?_)
  refine g_iinc (v := (v1 + 1)) (L' := [(1, .int (v1 + 1)), (0, .ref (adr C 35))]) X dX3_layOut_55 1 rfl rfl (by decide) rfl ?_
  refine g_goto (tgt := 2) X dX3_layOut_58 (by decide) ?_
  refine g_sub [1, 0] (L' := [(0, .ref (adr C 35)), (1, .int (v1 + 1))]) rfl ?_
  exact ih2 (v1 + 1) σ1 hf
def fX3_layOut_30 (r2 : Int32 → Mem → Option (Int32 × Mem)) (v1 : Int32) (s0 : Int32) (s1 : Int32) (σ : Mem) : Option (Int32 × Mem) :=
  grd (inb s1 5) (ltM (wI σ 43 (ix s1) s0) fun σ1 =>
  if (rI σ1 35 2) ≤ v1 then (fX3_layOut_54 r2 v1 (0 : Int32) v1 σ1)
  else (grd (inb v1 5) (fX3_layOut_54 r2 v1 (rI σ1 39 (ix v1)) v1 σ1)))
set_option maxHeartbeats 4000000 in
set_option maxRecDepth 100000 in
theorem tX3_layOut_30 {C : Ctx} (X : CX C cX3_layOut 2 RX3 wsX3_layOut rmX3_layOut none) {r : Int32 × Mem} (hq : QV C r) (r2 : Int32 → Mem → Option (Int32 × Mem)) (ih2 : ∀ (v1 : Int32) (σ : Mem), r2 v1 σ = some r → G C 2 0 0 2 [(0, .ref (adr C 35)), (1, .int v1)] [] σ) (v1 : Int32) (s0 : Int32) (s1 : Int32) (σ : Mem) (hf : fX3_layOut_30 r2 v1 s0 s1 σ = some r) : G C 2 0 0 30 [(0, .ref (adr C 35)), (1, .int v1)] [.int s0, .int s1, .ref (adr C 43)] σ := by
  unfold fX3_layOut_30 at hf
  refine s_iast (q := 43) (n := 5) X rfl rfl dX3_layOut_30 hf (fun σ1 hf => ?_)
  refine g_aload_n X dX3_layOut_31 0 rfl rfl ?_
  refine g_get (q := 35) (kf := 15) (v := .ref (adr C 44)) X obj_m rfl infX3_layOut_X3 (by decide) (by decide +kernel) rfl dX3_layOut_32 ?_
  refine g_iload_n X dX3_layOut_35 1 rfl rfl ?_
  refine g_iload_n X dX3_layOut_36 1 rfl rfl ?_
  refine g_aload_n X dX3_layOut_37 0 rfl rfl ?_
  refine g_get (q := 35) (kf := 2) (v := .int (rI σ1 35 2)) X obj_m rfl infX3_layOut_X3 (by decide) (by decide +kernel) rfl dX3_layOut_38 ?_
  refine g_icmp_ge (tgt := 53) X dX3_layOut_41 (by decide) hf (fun hf => ?_) (fun hf => ?_)
  · refine g_iconst (v := (0 : Int32)) X dX3_layOut_53 (by decide) ?_
    exact tX3_layOut_54 X hq r2 ih2 v1 (0 : Int32) v1 σ1 hf
  · refine g_aload_n X dX3_layOut_44 0 rfl rfl ?_
    refine g_get (q := 35) (kf := 6) (v := .ref (adr C 39)) X obj_m rfl infX3_layOut_X3 (by decide) (by decide +kernel) rfl dX3_layOut_45 ?_
    refine g_iload_n X dX3_layOut_48 1 rfl rfl ?_
    refine g_iald (q := 39) (n := 5) X rfl rfl dX3_layOut_49 hf (fun hf => ?_)
    refine g_goto (tgt := 54) X dX3_layOut_50 (by decide) ?_
    exact tX3_layOut_54 X hq r2 ih2 v1 (rI σ1 39 (ix v1)) v1 σ1 hf
def fX3_layOut_2b (r2 : Int32 → Mem → Option (Int32 × Mem)) (v1 : Int32) (σ : Mem) : Option (Int32 × Mem) :=
  if (5 : Int32) ≤ v1 then (fX3_layOut_63 FU (0 : Int32) σ)
  else (if (rI σ 35 1) ≤ v1 then (fX3_layOut_30 r2 v1 (0 : Int32) v1 σ)
  else (grd (inb v1 5) (fX3_layOut_30 r2 v1 (rI σ 37 (ix v1)) v1 σ)))
def fX3_layOut_2 : Nat → Int32 → Mem → Option (Int32 × Mem)
  | 0 => fun _ _ => none
  | n + 1 => fX3_layOut_2b (fX3_layOut_2 n)
set_option maxHeartbeats 4000000 in
set_option maxRecDepth 100000 in
theorem tX3_layOut_2b {C : Ctx} (X : CX C cX3_layOut 2 RX3 wsX3_layOut rmX3_layOut none) {r : Int32 × Mem} (hq : QV C r) (r2 : Int32 → Mem → Option (Int32 × Mem)) (ih2 : ∀ (v1 : Int32) (σ : Mem), r2 v1 σ = some r → G C 2 0 0 2 [(0, .ref (adr C 35)), (1, .int v1)] [] σ) (v1 : Int32) (σ : Mem) (hf : fX3_layOut_2b r2 v1 σ = some r) : G C 2 0 0 2 [(0, .ref (adr C 35)), (1, .int v1)] [] σ := by
  unfold fX3_layOut_2b at hf
  refine g_iload_n X dX3_layOut_2 1 rfl rfl ?_
  refine g_iconst (v := (5 : Int32)) X dX3_layOut_3 (by decide) ?_
  refine g_icmp_ge (tgt := 61) X dX3_layOut_4 (by decide) hf (fun hf => ?_) (fun hf => ?_)
  · refine g_iconst (v := (0 : Int32)) X dX3_layOut_61 (by decide) ?_
    refine g_istore_n (L' := [(1, .int (0 : Int32)), (0, .ref (adr C 35))]) X dX3_layOut_62 rfl (by decide) rfl ?_
    refine g_sub [1, 0] (L' := [(0, .ref (adr C 35)), (1, .int (0 : Int32))]) rfl ?_
    exact tX3_layOut_63 X hq FU (0 : Int32) σ hf
  · refine g_aload_n X dX3_layOut_7 0 rfl rfl ?_
    refine g_get (q := 35) (kf := 14) (v := .ref (adr C 43)) X obj_m rfl infX3_layOut_X3 (by decide) (by decide +kernel) rfl dX3_layOut_8 ?_
    refine g_iload_n X dX3_layOut_11 1 rfl rfl ?_
    refine g_iload_n X dX3_layOut_12 1 rfl rfl ?_
    refine g_aload_n X dX3_layOut_13 0 rfl rfl ?_
    refine g_get (q := 35) (kf := 1) (v := .int (rI σ 35 1)) X obj_m rfl infX3_layOut_X3 (by decide) (by decide +kernel) rfl dX3_layOut_14 ?_
    refine g_icmp_ge (tgt := 29) X dX3_layOut_17 (by decide) hf (fun hf => ?_) (fun hf => ?_)
    · refine g_iconst (v := (0 : Int32)) X dX3_layOut_29 (by decide) ?_
      exact tX3_layOut_30 X hq r2 ih2 v1 (0 : Int32) v1 σ hf
    · refine g_aload_n X dX3_layOut_20 0 rfl rfl ?_
      refine g_get (q := 35) (kf := 4) (v := .ref (adr C 37)) X obj_m rfl infX3_layOut_X3 (by decide) (by decide +kernel) rfl dX3_layOut_21 ?_
      refine g_iload_n X dX3_layOut_24 1 rfl rfl ?_
      refine g_iald (q := 37) (n := 5) X rfl rfl dX3_layOut_25 hf (fun hf => ?_)
      refine g_goto (tgt := 30) X dX3_layOut_26 (by decide) ?_
      exact tX3_layOut_30 X hq r2 ih2 v1 (rI σ 37 (ix v1)) v1 σ hf
set_option maxHeartbeats 4000000 in
set_option maxRecDepth 100000 in
theorem tX3_layOut_2 {C : Ctx} (X : CX C cX3_layOut 2 RX3 wsX3_layOut rmX3_layOut none) {r : Int32 × Mem} (hq : QV C r) : ∀ (n : Nat) (v1 : Int32) (σ : Mem) (hf : fX3_layOut_2 n v1 σ = some r), G C 2 0 0 2 [(0, .ref (adr C 35)), (1, .int v1)] [] σ := by
  intro n
  induction n with
  | zero => intros; rename_i hf; exact absurd (show (none : Option (Int32 × Mem)) = some r from hf) (by simp)
  | succ n ih =>
    intro v1 σ hf
    exact tX3_layOut_2b X hq (fX3_layOut_2 n) (fun v1 σ hf => ih v1 σ hf) v1 σ hf
def fX3_layOut_e (σ : Mem) : Option (Int32 × Mem) :=
  fX3_layOut_2 FU (0 : Int32) σ
set_option maxHeartbeats 4000000 in
set_option maxRecDepth 100000 in
theorem tX3_layOut_e {C : Ctx} (X : CX C cX3_layOut 2 RX3 wsX3_layOut rmX3_layOut none) {r : Int32 × Mem} (hq : QV C r) (σ : Mem) (hf : fX3_layOut_e σ = some r) : G C 2 0 0 0 [(0, .ref (adr C 35))] [] σ := by
  unfold fX3_layOut_e at hf
  refine g_iconst (v := (0 : Int32)) X dX3_layOut_0 (by decide) ?_
  refine g_istore_n (L' := [(1, .int (0 : Int32)), (0, .ref (adr C 35))]) X dX3_layOut_1 rfl (by decide) rfl ?_
  refine g_sub [1, 0] (L' := [(0, .ref (adr C 35)), (1, .int (0 : Int32))]) rfl ?_
  exact tX3_layOut_2 X hq FU (0 : Int32) σ hf
def fX3_layOut (σ : Mem) : Option (Int32 × Mem) := fX3_layOut_e σ
theorem kX3_layOut (l : Launch) (σ : Mem) : KV l yX3_layOut wsX3_layOut rmX3_layOut (fun ad => [.ref (ad 35)]) σ (fX3_layOut σ) := fun r hr => kt_of (by decide +kernel) rfl (fun _ => Nat.le_of_ble_eq_true rfl) (fun C X hne hq => tX3_layOut_e X hq σ hr)
/-! ### X3_given -/
abbrev rmX3_given : Room := { frames := 0, cells := 0, slots := 0, locals := 8 }
theorem infX3_given_X3 : ∀ w ∈ u_ws RX3 TX3 21, w ∈ wsX3_given := by decide +kernel
def fX3_given_4b (r4 : Int32 → Int32 → Int32 → Mem → Option (Int32 × Mem)) (v1 : Int32) (v2 : Int32) (v3 : Int32) (σ : Mem) : Option (Int32 × Mem) :=
  if (5 : Int32) ≤ v3 then (some (v2, σ))
  else (grd (inb (((5 : Int32) * v1) + v3) 25) (ltI (v2 + (rI σ 46 (ix (((5 : Int32) * v1) + v3)))) fun x1 =>
  r4 v1 x1 (v3 + 1) σ))
def fX3_given_4 : Nat → Int32 → Int32 → Int32 → Mem → Option (Int32 × Mem)
  | 0 => fun _ _ _ _ => none
  | n + 1 => fX3_given_4b (fX3_given_4 n)
set_option maxHeartbeats 4000000 in
set_option maxRecDepth 100000 in
theorem tX3_given_4b {C : Ctx} (X : CX C cX3_given 4 RX3 wsX3_given rmX3_given (some .int)) {r : Int32 × Mem} (hq : QI C r) (r4 : Int32 → Int32 → Int32 → Mem → Option (Int32 × Mem)) (ih4 : ∀ (v1 : Int32) (v2 : Int32) (v3 : Int32) (σ : Mem), r4 v1 v2 v3 σ = some r → G C 4 0 0 4 [(0, .ref (adr C 35)), (1, .int v1), (2, .int v2), (3, .int v3)] [] σ) (v1 : Int32) (v2 : Int32) (v3 : Int32) (σ : Mem) (hf : fX3_given_4b r4 v1 v2 v3 σ = some r) : G C 4 0 0 4 [(0, .ref (adr C 35)), (1, .int v1), (2, .int v2), (3, .int v3)] [] σ := by
  unfold fX3_given_4b at hf
  refine g_iload_n X dX3_given_4 3 rfl rfl ?_
  refine g_iconst (v := (5 : Int32)) X dX3_given_5 (by decide) ?_
  refine g_icmp_ge (tgt := 28) X dX3_given_6 (by decide) hf (fun hf => ?_) (fun hf => ?_)
  · refine g_iload_n X dX3_given_28 2 rfl rfl ?_
    exact r_iret X hq dX3_given_29 hf
  · refine g_iload_n X dX3_given_9 2 rfl rfl ?_
    refine g_aload_n X dX3_given_10 0 rfl rfl ?_
    refine g_get (q := 35) (kf := 17) (v := .ref (adr C 46)) X obj_m rfl infX3_given_X3 (by decide) (by decide +kernel) rfl dX3_given_11 ?_
    refine g_iconst (v := (5 : Int32)) X dX3_given_14 (by decide) ?_
    refine g_iload_n X dX3_given_15 1 rfl rfl ?_
    refine g_imul X dX3_given_16 ?_
    refine g_iload_n X dX3_given_17 3 rfl rfl ?_
    refine g_iadd X dX3_given_18 ?_
    refine g_iald (q := 46) (n := 25) X rfl rfl dX3_given_19 hf (fun hf => ?_)
    refine g_iadd X dX3_given_20 ?_
    refine s_istore_n (M := fun x1 => [(2, .int x1), (0, .ref (adr C 35)), (1, .int v1), (3, .int v3)]) X dX3_given_21 rfl (by decide) (fun _ => rfl) hf (fun x1 hf => ?_)
    refine g_iinc (v := (v3 + 1)) (L' := [(3, .int (v3 + 1)), (2, .int x1), (0, .ref (adr C 35)), (1, .int v1)]) X dX3_given_22 3 rfl rfl (by decide) rfl ?_
    refine g_goto (tgt := 4) X dX3_given_25 (by decide) ?_
    refine g_sub [2, 3, 1, 0] (L' := [(0, .ref (adr C 35)), (1, .int v1), (2, .int x1), (3, .int (v3 + 1))]) rfl ?_
    exact ih4 v1 x1 (v3 + 1) σ hf
set_option maxHeartbeats 4000000 in
set_option maxRecDepth 100000 in
theorem tX3_given_4 {C : Ctx} (X : CX C cX3_given 4 RX3 wsX3_given rmX3_given (some .int)) {r : Int32 × Mem} (hq : QI C r) : ∀ (n : Nat) (v1 : Int32) (v2 : Int32) (v3 : Int32) (σ : Mem) (hf : fX3_given_4 n v1 v2 v3 σ = some r), G C 4 0 0 4 [(0, .ref (adr C 35)), (1, .int v1), (2, .int v2), (3, .int v3)] [] σ := by
  intro n
  induction n with
  | zero => intros; rename_i hf; exact absurd (show (none : Option (Int32 × Mem)) = some r from hf) (by simp)
  | succ n ih =>
    intro v1 v2 v3 σ hf
    exact tX3_given_4b X hq (fX3_given_4 n) (fun v1 v2 v3 σ hf => ih v1 v2 v3 σ hf) v1 v2 v3 σ hf
def fX3_given_e (v1 : Int32) (σ : Mem) : Option (Int32 × Mem) :=
  fX3_given_4 FU v1 (0 : Int32) (0 : Int32) σ
set_option maxHeartbeats 4000000 in
set_option maxRecDepth 100000 in
theorem tX3_given_e {C : Ctx} (X : CX C cX3_given 4 RX3 wsX3_given rmX3_given (some .int)) {r : Int32 × Mem} (hq : QI C r) (v1 : Int32) (σ : Mem) (hf : fX3_given_e v1 σ = some r) : G C 4 0 0 0 [(0, .ref (adr C 35)), (1, .int v1)] [] σ := by
  unfold fX3_given_e at hf
  refine g_iconst (v := (0 : Int32)) X dX3_given_0 (by decide) ?_
  refine g_istore_n (L' := [(2, .int (0 : Int32)), (0, .ref (adr C 35)), (1, .int v1)]) X dX3_given_1 rfl (by decide) rfl ?_
  refine g_iconst (v := (0 : Int32)) X dX3_given_2 (by decide) ?_
  refine g_istore_n (L' := [(3, .int (0 : Int32)), (2, .int (0 : Int32)), (0, .ref (adr C 35)), (1, .int v1)]) X dX3_given_3 rfl (by decide) rfl ?_
  refine g_sub [2, 3, 1, 0] (L' := [(0, .ref (adr C 35)), (1, .int v1), (2, .int (0 : Int32)), (3, .int (0 : Int32))]) rfl ?_
  exact tX3_given_4 X hq FU v1 (0 : Int32) (0 : Int32) σ hf
def fX3_given (v1 : Int32) (σ : Mem) : Option (Int32 × Mem) := fX3_given_e v1 σ
theorem kX3_given (l : Launch) (v1 : Int32) (σ : Mem) : KI l yX3_given wsX3_given rmX3_given (fun ad => [.ref (ad 35), .int v1]) σ (fX3_given v1 σ) := fun r hr => kt_of (by decide +kernel) rfl (fun _ => Nat.le_of_ble_eq_true rfl) (fun C X hne hq => tX3_given_e X hq v1 σ hr)
/-! ### X3_got -/
abbrev rmX3_got : Room := { frames := 0, cells := 0, slots := 0, locals := 8 }
theorem infX3_got_X3 : ∀ w ∈ u_ws RX3 TX3 21, w ∈ wsX3_got := by decide +kernel
def fX3_got_4b (r4 : Int32 → Int32 → Int32 → Mem → Option (Int32 × Mem)) (v1 : Int32) (v2 : Int32) (v3 : Int32) (σ : Mem) : Option (Int32 × Mem) :=
  if (5 : Int32) ≤ v3 then (some (v2, σ))
  else (grd (inb (((5 : Int32) * v3) + v1) 25) (ltI (v2 + (rI σ 46 (ix (((5 : Int32) * v3) + v1)))) fun x1 =>
  r4 v1 x1 (v3 + 1) σ))
def fX3_got_4 : Nat → Int32 → Int32 → Int32 → Mem → Option (Int32 × Mem)
  | 0 => fun _ _ _ _ => none
  | n + 1 => fX3_got_4b (fX3_got_4 n)
set_option maxHeartbeats 4000000 in
set_option maxRecDepth 100000 in
theorem tX3_got_4b {C : Ctx} (X : CX C cX3_got 4 RX3 wsX3_got rmX3_got (some .int)) {r : Int32 × Mem} (hq : QI C r) (r4 : Int32 → Int32 → Int32 → Mem → Option (Int32 × Mem)) (ih4 : ∀ (v1 : Int32) (v2 : Int32) (v3 : Int32) (σ : Mem), r4 v1 v2 v3 σ = some r → G C 4 0 0 4 [(0, .ref (adr C 35)), (1, .int v1), (2, .int v2), (3, .int v3)] [] σ) (v1 : Int32) (v2 : Int32) (v3 : Int32) (σ : Mem) (hf : fX3_got_4b r4 v1 v2 v3 σ = some r) : G C 4 0 0 4 [(0, .ref (adr C 35)), (1, .int v1), (2, .int v2), (3, .int v3)] [] σ := by
  unfold fX3_got_4b at hf
  refine g_iload_n X dX3_got_4 3 rfl rfl ?_
  refine g_iconst (v := (5 : Int32)) X dX3_got_5 (by decide) ?_
  refine g_icmp_ge (tgt := 28) X dX3_got_6 (by decide) hf (fun hf => ?_) (fun hf => ?_)
  · refine g_iload_n X dX3_got_28 2 rfl rfl ?_
    exact r_iret X hq dX3_got_29 hf
  · refine g_iload_n X dX3_got_9 2 rfl rfl ?_
    refine g_aload_n X dX3_got_10 0 rfl rfl ?_
    refine g_get (q := 35) (kf := 17) (v := .ref (adr C 46)) X obj_m rfl infX3_got_X3 (by decide) (by decide +kernel) rfl dX3_got_11 ?_
    refine g_iconst (v := (5 : Int32)) X dX3_got_14 (by decide) ?_
    refine g_iload_n X dX3_got_15 3 rfl rfl ?_
    refine g_imul X dX3_got_16 ?_
    refine g_iload_n X dX3_got_17 1 rfl rfl ?_
    refine g_iadd X dX3_got_18 ?_
    refine g_iald (q := 46) (n := 25) X rfl rfl dX3_got_19 hf (fun hf => ?_)
    refine g_iadd X dX3_got_20 ?_
    refine s_istore_n (M := fun x1 => [(2, .int x1), (0, .ref (adr C 35)), (1, .int v1), (3, .int v3)]) X dX3_got_21 rfl (by decide) (fun _ => rfl) hf (fun x1 hf => ?_)
    refine g_iinc (v := (v3 + 1)) (L' := [(3, .int (v3 + 1)), (2, .int x1), (0, .ref (adr C 35)), (1, .int v1)]) X dX3_got_22 3 rfl rfl (by decide) rfl ?_
    refine g_goto (tgt := 4) X dX3_got_25 (by decide) ?_
    refine g_sub [2, 3, 1, 0] (L' := [(0, .ref (adr C 35)), (1, .int v1), (2, .int x1), (3, .int (v3 + 1))]) rfl ?_
    exact ih4 v1 x1 (v3 + 1) σ hf
set_option maxHeartbeats 4000000 in
set_option maxRecDepth 100000 in
theorem tX3_got_4 {C : Ctx} (X : CX C cX3_got 4 RX3 wsX3_got rmX3_got (some .int)) {r : Int32 × Mem} (hq : QI C r) : ∀ (n : Nat) (v1 : Int32) (v2 : Int32) (v3 : Int32) (σ : Mem) (hf : fX3_got_4 n v1 v2 v3 σ = some r), G C 4 0 0 4 [(0, .ref (adr C 35)), (1, .int v1), (2, .int v2), (3, .int v3)] [] σ := by
  intro n
  induction n with
  | zero => intros; rename_i hf; exact absurd (show (none : Option (Int32 × Mem)) = some r from hf) (by simp)
  | succ n ih =>
    intro v1 v2 v3 σ hf
    exact tX3_got_4b X hq (fX3_got_4 n) (fun v1 v2 v3 σ hf => ih v1 v2 v3 σ hf) v1 v2 v3 σ hf
def fX3_got_e (v1 : Int32) (σ : Mem) : Option (Int32 × Mem) :=
  fX3_got_4 FU v1 (0 : Int32) (0 : Int32) σ
set_option maxHeartbeats 4000000 in
set_option maxRecDepth 100000 in
theorem tX3_got_e {C : Ctx} (X : CX C cX3_got 4 RX3 wsX3_got rmX3_got (some .int)) {r : Int32 × Mem} (hq : QI C r) (v1 : Int32) (σ : Mem) (hf : fX3_got_e v1 σ = some r) : G C 4 0 0 0 [(0, .ref (adr C 35)), (1, .int v1)] [] σ := by
  unfold fX3_got_e at hf
  refine g_iconst (v := (0 : Int32)) X dX3_got_0 (by decide) ?_
  refine g_istore_n (L' := [(2, .int (0 : Int32)), (0, .ref (adr C 35)), (1, .int v1)]) X dX3_got_1 rfl (by decide) rfl ?_
  refine g_iconst (v := (0 : Int32)) X dX3_got_2 (by decide) ?_
  refine g_istore_n (L' := [(3, .int (0 : Int32)), (2, .int (0 : Int32)), (0, .ref (adr C 35)), (1, .int v1)]) X dX3_got_3 rfl (by decide) rfl ?_
  refine g_sub [2, 3, 1, 0] (L' := [(0, .ref (adr C 35)), (1, .int v1), (2, .int (0 : Int32)), (3, .int (0 : Int32))]) rfl ?_
  exact tX3_got_4 X hq FU v1 (0 : Int32) (0 : Int32) σ hf
def fX3_got (v1 : Int32) (σ : Mem) : Option (Int32 × Mem) := fX3_got_e v1 σ
theorem kX3_got (l : Launch) (v1 : Int32) (σ : Mem) : KI l yX3_got wsX3_got rmX3_got (fun ad => [.ref (ad 35), .int v1]) σ (fX3_got v1 σ) := fun r hr => kt_of (by decide +kernel) rfl (fun _ => Nat.le_of_ble_eq_true rfl) (fun C X hne hq => tX3_got_e X hq v1 σ hr)
/-! ### X3_gain -/
abbrev rmX3_gain : Room := { frames := 3, cells := 0, slots := 0, locals := 74 }
theorem infX3_gain_X3 : ∀ w ∈ u_ws RX3 TX3 21, w ∈ wsX3_gain := by decide +kernel
def fX3_gain_e (v1 : Int32) (σ : Mem) : Option (Int32 × Mem) :=
  bnd (fX3_unitOf (v1 / (5 : Int32)) (v1 - v1 / (5 : Int32) * (5 : Int32)) σ) fun u1 σ2 =>
  some (((u1 - (rI σ2 35 12)) - (rI σ2 35 13)), σ2)
set_option maxHeartbeats 4000000 in
set_option maxRecDepth 100000 in
theorem tX3_gain_e {C : Ctx} (X : CX C cX3_gain 2 RX3 wsX3_gain rmX3_gain (some .int)) {r : Int32 × Mem} (hq : QI C r) (v1 : Int32) (σ : Mem) (hf : fX3_gain_e v1 σ = some r) : G C 2 0 0 0 [(0, .ref (adr C 35)), (1, .int v1)] [] σ := by
  unfold fX3_gain_e at hf
  refine g_aload_n X dX3_gain_0 0 rfl rfl ?_
  refine g_iload_n X dX3_gain_1 1 rfl rfl ?_
  refine g_iconst (v := (5 : Int32)) X dX3_gain_2 (by decide) ?_
  refine g_idivC X dX3_gain_3 (by decide) ?_
  refine g_iload_n X dX3_gain_4 1 rfl rfl ?_
  refine g_iconst (v := (5 : Int32)) X dX3_gain_5 (by decide) ?_
  refine g_iremC X dX3_gain_6 (by decide) ?_
  refine c_VI (q := 35) (vs := [.int (v1 / (5 : Int32)), .int (v1 - v1 / (5 : Int32) * (5 : Int32))]) (rest := []) X (kX3_unitOf (cL C) (v1 / (5 : Int32)) (v1 - v1 / (5 : Int32) * (5 : Int32)) σ) (fun s a hts => cwV 2 hts gX3_gain_X3_unitOf rfl rfl rfl (by decide +kernel) ⟨Nat.le_of_ble_eq_true rfl, Nat.le_of_ble_eq_true rfl⟩) obj_m (rfl : vwCl[3]? = some (RX3, TX3, 21)) rfl rfl rfl rfl (Nat.le_of_ble_eq_true rfl) dX3_gain_7 ⟨Nat.le_of_ble_eq_true rfl, Nat.le_of_ble_eq_true rfl⟩ hf (fun u1 σ2 hf => ?_)
  refine g_aload_n X dX3_gain_10 0 rfl rfl ?_
  refine g_get (q := 35) (kf := 12) (v := .int (rI σ2 35 12)) X obj_m rfl infX3_gain_X3 (by decide) (by decide +kernel) rfl dX3_gain_11 ?_
  refine g_isub X dX3_gain_14 ?_
  refine g_aload_n X dX3_gain_15 0 rfl rfl ?_
  refine g_get (q := 35) (kf := 13) (v := .int (rI σ2 35 13)) X obj_m rfl infX3_gain_X3 (by decide) (by decide +kernel) rfl dX3_gain_16 ?_
  refine g_isub X dX3_gain_19 ?_
  exact r_iret X hq dX3_gain_20 hf
def fX3_gain (v1 : Int32) (σ : Mem) : Option (Int32 × Mem) := fX3_gain_e v1 σ
theorem kX3_gain (l : Launch) (v1 : Int32) (σ : Mem) : KI l yX3_gain wsX3_gain rmX3_gain (fun ad => [.ref (ad 35), .int v1]) σ (fX3_gain v1 σ) := fun r hr => kt_of (by decide +kernel) rfl (fun _ => Nat.le_of_ble_eq_true rfl) (fun C X hne hq => tX3_gain_e X hq v1 σ hr)
/-! ### X3_goAlong -/
abbrev rmX3_goAlong : Room := { frames := 4, cells := 0, slots := 0, locals := 95 }
theorem infX3_goAlong_X3 : ∀ w ∈ u_ws RX3 TX3 21, w ∈ wsX3_goAlong := by decide +kernel
def fX3_goAlong_177 (v4 : Int32) (σ : Mem) : Option (Int32 × Mem) :=
  grd (decide (v4 = 0 ∨ v4 = 1)) (some (v4, σ))
set_option maxHeartbeats 4000000 in
set_option maxRecDepth 100000 in
theorem tX3_goAlong_177 {C : Ctx} (X : CX C cX3_goAlong 5 RX3 wsX3_goAlong rmX3_goAlong (some .boolean)) {r : Int32 × Mem} (hq : QI C r) (v4 : Int32) (σ : Mem) (hf : fX3_goAlong_177 v4 σ = some r) : G C 5 0 0 177 [(4, .int v4)] [] σ := by
  unfold fX3_goAlong_177 at hf
  refine g_iload X dX3_goAlong_177 0 rfl ?_
  exact r_zret X hq dX3_goAlong_179 hf
def fX3_goAlong_108 (v1 : Int32) (v2 : Int32) (v3 : Int32) (v4 : Int32) (σ : Mem) : Option (Int32 × Mem) :=
  grd (inb v1 25) (if (rI σ 46 (ix v1)) ≤ 0 then (fX3_goAlong_177 v4 σ)
  else (grd (inb v3 10) (if (268435456 : Int32) ≤ (rI σ 47 (ix v3)) then (fX3_goAlong_177 v4 σ)
  else (grd (inb v3 10) (bnd (fX3_gain v1 σ) fun u1 σ2 =>
  grd (inb v2 10) (if (rI σ2 47 (ix v2)) ≤ ((rI σ 47 (ix v3)) - u1) then (fX3_goAlong_177 v4 σ2)
  else (grd (inb v3 10) (bnd (fX3_gain v1 σ2) fun u3 σ4 =>
  grd (inb v2 10) (ltM (wI σ4 47 (ix v2) ((rI σ2 47 (ix v3)) - u3)) fun σ5 =>
  grd (inb v2 10) (ltM (wI σ5 48 (ix v2) v3) fun σ6 =>
  fX3_goAlong_177 (1 : Int32) σ6))))))))))
set_option maxHeartbeats 4000000 in
set_option maxRecDepth 100000 in
theorem tX3_goAlong_108 {C : Ctx} (X : CX C cX3_goAlong 5 RX3 wsX3_goAlong rmX3_goAlong (some .boolean)) {r : Int32 × Mem} (hq : QI C r) (v1 : Int32) (v2 : Int32) (v3 : Int32) (v4 : Int32) (σ : Mem) (hf : fX3_goAlong_108 v1 v2 v3 v4 σ = some r) : G C 5 0 0 108 [(0, .ref (adr C 35)), (1, .int v1), (2, .int v2), (3, .int v3), (4, .int v4)] [] σ := by
  unfold fX3_goAlong_108 at hf
  refine g_aload_n X dX3_goAlong_108 0 rfl rfl ?_
  refine g_get (q := 35) (kf := 17) (v := .ref (adr C 46)) X obj_m rfl infX3_goAlong_X3 (by decide) (by decide +kernel) rfl dX3_goAlong_109 ?_
  refine g_iload_n X dX3_goAlong_112 1 rfl rfl ?_
  refine g_iald (q := 46) (n := 25) X rfl rfl dX3_goAlong_113 hf (fun hf => ?_)
  refine g_if_le (tgt := 177) X dX3_goAlong_114 (by decide) hf (fun hf => ?_) (fun hf => ?_)
  · refine g_sub [4] (L' := [(4, .int v4)]) rfl ?_
    exact tX3_goAlong_177 X hq v4 σ hf
  · refine g_aload_n X dX3_goAlong_117 0 rfl rfl ?_
    refine g_get (q := 35) (kf := 18) (v := .ref (adr C 47)) X obj_m rfl infX3_goAlong_X3 (by decide) (by decide +kernel) rfl dX3_goAlong_118 ?_
    refine g_iload_n X dX3_goAlong_121 3 rfl rfl ?_
    refine g_iald (q := 47) (n := 10) X rfl rfl dX3_goAlong_122 hf (fun hf => ?_)
    refine g_ldc (v := (268435456 : Int32)) X (by decide +kernel) dX3_goAlong_123 ?_
    refine g_icmp_ge (tgt := 177) X dX3_goAlong_125 (by decide) hf (fun hf => ?_) (fun hf => ?_)
    · refine g_sub [4] (L' := [(4, .int v4)]) rfl ?_
      exact tX3_goAlong_177 X hq v4 σ hf
    · refine g_aload_n X dX3_goAlong_128 0 rfl rfl ?_
      refine g_get (q := 35) (kf := 18) (v := .ref (adr C 47)) X obj_m rfl infX3_goAlong_X3 (by decide) (by decide +kernel) rfl dX3_goAlong_129 ?_
      refine g_iload_n X dX3_goAlong_132 3 rfl rfl ?_
      refine g_iald (q := 47) (n := 10) X rfl rfl dX3_goAlong_133 hf (fun hf => ?_)
      refine g_aload_n X dX3_goAlong_134 0 rfl rfl ?_
      refine g_iload_n X dX3_goAlong_135 1 rfl rfl ?_
      refine c_VI (q := 35) (vs := [.int v1]) (rest := [.int (rI σ 47 (ix v3))]) X (kX3_gain (cL C) v1 σ) (fun s a hts => cwV 1 hts gX3_goAlong_X3_gain rfl rfl rfl (by decide +kernel) ⟨Nat.le_of_ble_eq_true rfl, Nat.le_of_ble_eq_true rfl⟩) obj_m (rfl : vwCl[3]? = some (RX3, TX3, 21)) rfl rfl rfl rfl (Nat.le_of_ble_eq_true rfl) dX3_goAlong_136 ⟨Nat.le_of_ble_eq_true rfl, Nat.le_of_ble_eq_true rfl⟩ hf (fun u1 σ2 hf => ?_)
      refine g_isub X dX3_goAlong_139 ?_
      refine g_aload_n X dX3_goAlong_140 0 rfl rfl ?_
      refine g_get (q := 35) (kf := 18) (v := .ref (adr C 47)) X obj_m rfl infX3_goAlong_X3 (by decide) (by decide +kernel) rfl dX3_goAlong_141 ?_
      refine g_iload_n X dX3_goAlong_144 2 rfl rfl ?_
      refine g_iald (q := 47) (n := 10) X rfl rfl dX3_goAlong_145 hf (fun hf => ?_)
      refine g_icmp_ge (tgt := 177) X dX3_goAlong_146 (by decide) hf (fun hf => ?_) (fun hf => ?_)
      · refine g_sub [4] (L' := [(4, .int v4)]) rfl ?_
        exact tX3_goAlong_177 X hq v4 σ2 hf
      · refine g_aload_n X dX3_goAlong_149 0 rfl rfl ?_
        refine g_get (q := 35) (kf := 18) (v := .ref (adr C 47)) X obj_m rfl infX3_goAlong_X3 (by decide) (by decide +kernel) rfl dX3_goAlong_150 ?_
        refine g_iload_n X dX3_goAlong_153 2 rfl rfl ?_
        refine g_aload_n X dX3_goAlong_154 0 rfl rfl ?_
        refine g_get (q := 35) (kf := 18) (v := .ref (adr C 47)) X obj_m rfl infX3_goAlong_X3 (by decide) (by decide +kernel) rfl dX3_goAlong_155 ?_
        refine g_iload_n X dX3_goAlong_158 3 rfl rfl ?_
        refine g_iald (q := 47) (n := 10) X rfl rfl dX3_goAlong_159 hf (fun hf => ?_)
        refine g_aload_n X dX3_goAlong_160 0 rfl rfl ?_
        refine g_iload_n X dX3_goAlong_161 1 rfl rfl ?_
        refine c_VI (q := 35) (vs := [.int v1]) (rest := [.int (rI σ2 47 (ix v3)), .int v2, .ref (adr C 47)]) X (kX3_gain (cL C) v1 σ2) (fun s a hts => cwV 1 hts gX3_goAlong_X3_gain rfl rfl rfl (by decide +kernel) ⟨Nat.le_of_ble_eq_true rfl, Nat.le_of_ble_eq_true rfl⟩) obj_m (rfl : vwCl[3]? = some (RX3, TX3, 21)) rfl rfl rfl rfl (Nat.le_of_ble_eq_true rfl) dX3_goAlong_162 ⟨Nat.le_of_ble_eq_true rfl, Nat.le_of_ble_eq_true rfl⟩ hf (fun u3 σ4 hf => ?_)
        refine g_isub X dX3_goAlong_165 ?_
        refine s_iast (q := 47) (n := 10) X rfl rfl dX3_goAlong_166 hf (fun σ5 hf => ?_)
        refine g_aload_n X dX3_goAlong_167 0 rfl rfl ?_
        refine g_get (q := 35) (kf := 19) (v := .ref (adr C 48)) X obj_m rfl infX3_goAlong_X3 (by decide) (by decide +kernel) rfl dX3_goAlong_168 ?_
        refine g_iload_n X dX3_goAlong_171 2 rfl rfl ?_
        refine g_iload_n X dX3_goAlong_172 3 rfl rfl ?_
        refine s_iast (q := 48) (n := 10) X rfl rfl dX3_goAlong_173 hf (fun σ6 hf => ?_)
        refine g_iconst (v := (1 : Int32)) X dX3_goAlong_174 (by decide) ?_
        refine g_istore (L' := [(4, .int (1 : Int32)), (0, .ref (adr C 35)), (1, .int v1), (2, .int v2), (3, .int v3)]) X dX3_goAlong_175 (by decide) rfl ?_
        refine g_sub [0] (L' := [(4, .int (1 : Int32))]) rfl ?_
        exact tX3_goAlong_177 X hq (1 : Int32) σ6 hf
def fX3_goAlong_28 (σ : Mem) : Option (Int32 × Mem) :=
  grd (decide ((0 : Int32) = 0 ∨ (0 : Int32) = 1)) (some ((0 : Int32), σ))
set_option maxHeartbeats 4000000 in
set_option maxRecDepth 100000 in
theorem tX3_goAlong_28 {C : Ctx} (X : CX C cX3_goAlong 5 RX3 wsX3_goAlong rmX3_goAlong (some .boolean)) {r : Int32 × Mem} (hq : QI C r) (σ : Mem) (hf : fX3_goAlong_28 σ = some r) : G C 5 0 0 28 [] [] σ := by
  unfold fX3_goAlong_28 at hf
  refine g_iconst (v := (0 : Int32)) X dX3_goAlong_28 (by decide) ?_
  exact r_zret X hq dX3_goAlong_29 hf
def fX3_goAlong_e (v1 : Int32) (σ : Mem) : Option (Int32 × Mem) :=
  ltI (v1 / (5 : Int32)) fun x1 =>
  ltI ((5 : Int32) + (v1 - v1 / (5 : Int32) * (5 : Int32))) fun x2 =>
  if (rI σ 35 1) ≤ x1 then (fX3_goAlong_28 σ)
  else (if (v1 - v1 / (5 : Int32) * (5 : Int32)) < (rI σ 35 2) then (grd (inb v1 25) (grd (inb v1 25) (if (rI σ 45 (ix v1)) ≤ (rI σ 46 (ix v1)) then (fX3_goAlong_108 v1 x1 x2 (0 : Int32) σ)
  else (grd (inb x1 10) (if (268435456 : Int32) ≤ (rI σ 47 (ix x1)) then (fX3_goAlong_108 v1 x1 x2 (0 : Int32) σ)
  else (grd (inb x1 10) (bnd (fX3_gain v1 σ) fun u3 σ4 =>
  grd (inb x2 10) (if (rI σ4 47 (ix x2)) ≤ ((rI σ 47 (ix x1)) + u3) then (fX3_goAlong_108 v1 x1 x2 (0 : Int32) σ4)
  else (grd (inb x1 10) (bnd (fX3_gain v1 σ4) fun u5 σ6 =>
  grd (inb x2 10) (ltM (wI σ6 47 (ix x2) ((rI σ4 47 (ix x1)) + u5)) fun σ7 =>
  grd (inb x2 10) (ltM (wI σ7 48 (ix x2) x1) fun σ8 =>
  fX3_goAlong_108 v1 x1 x2 (1 : Int32) σ8))))))))))))
  else (fX3_goAlong_28 σ))
set_option maxHeartbeats 4000000 in
set_option maxRecDepth 100000 in
theorem tX3_goAlong_e {C : Ctx} (X : CX C cX3_goAlong 5 RX3 wsX3_goAlong rmX3_goAlong (some .boolean)) {r : Int32 × Mem} (hq : QI C r) (v1 : Int32) (σ : Mem) (hf : fX3_goAlong_e v1 σ = some r) : G C 5 0 0 0 [(0, .ref (adr C 35)), (1, .int v1)] [] σ := by
  unfold fX3_goAlong_e at hf
  refine g_iload_n X dX3_goAlong_0 1 rfl rfl ?_
  refine g_iconst (v := (5 : Int32)) X dX3_goAlong_1 (by decide) ?_
  refine g_idivC X dX3_goAlong_2 (by decide) ?_
  refine s_istore_n (M := fun x1 => [(2, .int x1), (0, .ref (adr C 35)), (1, .int v1)]) X dX3_goAlong_3 rfl (by decide) (fun _ => rfl) hf (fun x1 hf => ?_)
  refine g_iconst (v := (5 : Int32)) X dX3_goAlong_4 (by decide) ?_
  refine g_iload_n X dX3_goAlong_5 2 rfl rfl ?_
  refine g_iconst (v := (5 : Int32)) X dX3_goAlong_6 (by decide) ?_
  refine g_iremC X dX3_goAlong_7 (by decide) ?_
  refine g_iadd X dX3_goAlong_8 ?_
  refine s_istore_n (M := fun x2 => [(3, .int x2), (2, .int x1), (0, .ref (adr C 35)), (1, .int v1)]) X dX3_goAlong_9 rfl (by decide) (fun _ => rfl) hf (fun x2 hf => ?_)
  refine g_iload_n X dX3_goAlong_10 1 rfl rfl ?_
  refine g_aload_n X dX3_goAlong_11 2 rfl rfl ?_
  refine g_get (q := 35) (kf := 1) (v := .int (rI σ 35 1)) X obj_m rfl infX3_goAlong_X3 (by decide) (by decide +kernel) rfl dX3_goAlong_12 ?_
  refine g_icmp_ge (tgt := 28) X dX3_goAlong_15 (by decide) hf (fun hf => ?_) (fun hf => ?_)
  · refine g_sub [] (L' := []) rfl ?_
    exact tX3_goAlong_28 X hq σ hf
  · refine g_iload_n X dX3_goAlong_18 3 rfl rfl ?_
    refine g_iconst (v := (5 : Int32)) X dX3_goAlong_19 (by decide) ?_
    refine g_iremC X dX3_goAlong_20 (by decide) ?_
    refine g_aload_n X dX3_goAlong_21 2 rfl rfl ?_
    refine g_get (q := 35) (kf := 2) (v := .int (rI σ 35 2)) X obj_m rfl infX3_goAlong_X3 (by decide) (by decide +kernel) rfl dX3_goAlong_22 ?_
    refine g_icmp_lt (tgt := 30) X dX3_goAlong_25 (by decide) hf (fun hf => ?_) (fun hf => ?_)
    · refine g_iconst (v := (0 : Int32)) X dX3_goAlong_30 (by decide) ?_
      refine g_istore (L' := [(4, .int (0 : Int32)), (3, .int x2), (2, .int x1), (0, .ref (adr C 35)), (1, .int v1)]) X dX3_goAlong_31 (by decide) rfl ?_
      refine g_aload_n X dX3_goAlong_33 3 rfl rfl ?_
      refine g_get (q := 35) (kf := 17) (v := .ref (adr C 46)) X obj_m rfl infX3_goAlong_X3 (by decide) (by decide +kernel) rfl dX3_goAlong_34 ?_
      refine g_iload_n X dX3_goAlong_37 4 rfl rfl ?_
      refine g_iald (q := 46) (n := 25) X rfl rfl dX3_goAlong_38 hf (fun hf => ?_)
      refine g_aload_n X dX3_goAlong_39 3 rfl rfl ?_
      refine g_get (q := 35) (kf := 16) (v := .ref (adr C 45)) X obj_m rfl infX3_goAlong_X3 (by decide) (by decide +kernel) rfl dX3_goAlong_40 ?_
      refine g_iload_n X dX3_goAlong_43 4 rfl rfl ?_
      refine g_iald (q := 45) (n := 25) X rfl rfl dX3_goAlong_44 hf (fun hf => ?_)
      refine g_icmp_ge (tgt := 108) X dX3_goAlong_45 (by decide) hf (fun hf => ?_) (fun hf => ?_)
      · refine g_sub [3, 4, 2, 1, 0] (L' := [(0, .ref (adr C 35)), (1, .int v1), (2, .int x1), (3, .int x2), (4, .int (0 : Int32))]) rfl ?_
        exact tX3_goAlong_108 X hq v1 x1 x2 (0 : Int32) σ hf
      · refine g_aload_n X dX3_goAlong_48 3 rfl rfl ?_
        refine g_get (q := 35) (kf := 18) (v := .ref (adr C 47)) X obj_m rfl infX3_goAlong_X3 (by decide) (by decide +kernel) rfl dX3_goAlong_49 ?_
        refine g_iload_n X dX3_goAlong_52 2 rfl rfl ?_
        refine g_iald (q := 47) (n := 10) X rfl rfl dX3_goAlong_53 hf (fun hf => ?_)
        refine g_ldc (v := (268435456 : Int32)) X (by decide +kernel) dX3_goAlong_54 ?_
        refine g_icmp_ge (tgt := 108) X dX3_goAlong_56 (by decide) hf (fun hf => ?_) (fun hf => ?_)
        · refine g_sub [3, 4, 2, 1, 0] (L' := [(0, .ref (adr C 35)), (1, .int v1), (2, .int x1), (3, .int x2), (4, .int (0 : Int32))]) rfl ?_
          exact tX3_goAlong_108 X hq v1 x1 x2 (0 : Int32) σ hf
        · refine g_aload_n X dX3_goAlong_59 3 rfl rfl ?_
          refine g_get (q := 35) (kf := 18) (v := .ref (adr C 47)) X obj_m rfl infX3_goAlong_X3 (by decide) (by decide +kernel) rfl dX3_goAlong_60 ?_
          refine g_iload_n X dX3_goAlong_63 2 rfl rfl ?_
          refine g_iald (q := 47) (n := 10) X rfl rfl dX3_goAlong_64 hf (fun hf => ?_)
          refine g_aload_n X dX3_goAlong_65 3 rfl rfl ?_
          refine g_iload_n X dX3_goAlong_66 4 rfl rfl ?_
          refine c_VI (q := 35) (vs := [.int v1]) (rest := [.int (rI σ 47 (ix x1))]) X (kX3_gain (cL C) v1 σ) (fun s a hts => cwV 1 hts gX3_goAlong_X3_gain rfl rfl rfl (by decide +kernel) ⟨Nat.le_of_ble_eq_true rfl, Nat.le_of_ble_eq_true rfl⟩) obj_m (rfl : vwCl[3]? = some (RX3, TX3, 21)) rfl rfl rfl rfl (Nat.le_of_ble_eq_true rfl) dX3_goAlong_67 ⟨Nat.le_of_ble_eq_true rfl, Nat.le_of_ble_eq_true rfl⟩ hf (fun u3 σ4 hf => ?_)
          refine g_iadd X dX3_goAlong_70 ?_
          refine g_aload_n X dX3_goAlong_71 3 rfl rfl ?_
          refine g_get (q := 35) (kf := 18) (v := .ref (adr C 47)) X obj_m rfl infX3_goAlong_X3 (by decide) (by decide +kernel) rfl dX3_goAlong_72 ?_
          refine g_iload_n X dX3_goAlong_75 1 rfl rfl ?_
          refine g_iald (q := 47) (n := 10) X rfl rfl dX3_goAlong_76 hf (fun hf => ?_)
          refine g_icmp_ge (tgt := 108) X dX3_goAlong_77 (by decide) hf (fun hf => ?_) (fun hf => ?_)
          · refine g_sub [3, 4, 2, 1, 0] (L' := [(0, .ref (adr C 35)), (1, .int v1), (2, .int x1), (3, .int x2), (4, .int (0 : Int32))]) rfl ?_
            exact tX3_goAlong_108 X hq v1 x1 x2 (0 : Int32) σ4 hf
          · refine g_aload_n X dX3_goAlong_80 3 rfl rfl ?_
            refine g_get (q := 35) (kf := 18) (v := .ref (adr C 47)) X obj_m rfl infX3_goAlong_X3 (by decide) (by decide +kernel) rfl dX3_goAlong_81 ?_
            refine g_iload_n X dX3_goAlong_84 1 rfl rfl ?_
            refine g_aload_n X dX3_goAlong_85 3 rfl rfl ?_
            refine g_get (q := 35) (kf := 18) (v := .ref (adr C 47)) X obj_m rfl infX3_goAlong_X3 (by decide) (by decide +kernel) rfl dX3_goAlong_86 ?_
            refine g_iload_n X dX3_goAlong_89 2 rfl rfl ?_
            refine g_iald (q := 47) (n := 10) X rfl rfl dX3_goAlong_90 hf (fun hf => ?_)
            refine g_aload_n X dX3_goAlong_91 3 rfl rfl ?_
            refine g_iload_n X dX3_goAlong_92 4 rfl rfl ?_
            refine c_VI (q := 35) (vs := [.int v1]) (rest := [.int (rI σ4 47 (ix x1)), .int x2, .ref (adr C 47)]) X (kX3_gain (cL C) v1 σ4) (fun s a hts => cwV 1 hts gX3_goAlong_X3_gain rfl rfl rfl (by decide +kernel) ⟨Nat.le_of_ble_eq_true rfl, Nat.le_of_ble_eq_true rfl⟩) obj_m (rfl : vwCl[3]? = some (RX3, TX3, 21)) rfl rfl rfl rfl (Nat.le_of_ble_eq_true rfl) dX3_goAlong_93 ⟨Nat.le_of_ble_eq_true rfl, Nat.le_of_ble_eq_true rfl⟩ hf (fun u5 σ6 hf => ?_)
            refine g_iadd X dX3_goAlong_96 ?_
            refine s_iast (q := 47) (n := 10) X rfl rfl dX3_goAlong_97 hf (fun σ7 hf => ?_)
            refine g_aload_n X dX3_goAlong_98 3 rfl rfl ?_
            refine g_get (q := 35) (kf := 19) (v := .ref (adr C 48)) X obj_m rfl infX3_goAlong_X3 (by decide) (by decide +kernel) rfl dX3_goAlong_99 ?_
            refine g_iload_n X dX3_goAlong_102 1 rfl rfl ?_
            refine g_iload_n X dX3_goAlong_103 2 rfl rfl ?_
            refine s_iast (q := 48) (n := 10) X rfl rfl dX3_goAlong_104 hf (fun σ8 hf => ?_)
            refine g_iconst (v := (1 : Int32)) X dX3_goAlong_105 (by decide) ?_
            refine g_istore (L' := [(4, .int (1 : Int32)), (3, .int x2), (2, .int x1), (0, .ref (adr C 35)), (1, .int v1)]) X dX3_goAlong_106 (by decide) rfl ?_
            refine g_sub [3, 4, 2, 1, 0] (L' := [(0, .ref (adr C 35)), (1, .int v1), (2, .int x1), (3, .int x2), (4, .int (1 : Int32))]) rfl ?_
            exact tX3_goAlong_108 X hq v1 x1 x2 (1 : Int32) σ8 hf
    · refine g_sub [] (L' := []) rfl ?_
      exact tX3_goAlong_28 X hq σ hf
def fX3_goAlong (v1 : Int32) (σ : Mem) : Option (Int32 × Mem) := fX3_goAlong_e v1 σ
theorem kX3_goAlong (l : Launch) (v1 : Int32) (σ : Mem) : KI l yX3_goAlong wsX3_goAlong rmX3_goAlong (fun ad => [.ref (ad 35), .int v1]) σ (fX3_goAlong v1 σ) := fun r hr => kt_of (by decide +kernel) rfl (fun _ => Nat.le_of_ble_eq_true rfl) (fun C X hne hq => tX3_goAlong_e X hq v1 σ hr)
/-! ### X3_carryOne -/
abbrev rmX3_carryOne : Room := { frames := 5, cells := 0, slots := 0, locals := 119 }
theorem infX3_carryOne_X3 : ∀ w ∈ u_ws RX3 TX3 21, w ∈ wsX3_carryOne := by decide +kernel
def fX3_carryOne_286 (s0 : Int32) (σ : Mem) : Option (Int32 × Mem) :=
  grd (decide (s0 = 0 ∨ s0 = 1)) (some (s0, σ))
set_option maxHeartbeats 4000000 in
set_option maxRecDepth 100000 in
theorem tX3_carryOne_286 {C : Ctx} (X : CX C cX3_carryOne 5 RX3 wsX3_carryOne rmX3_carryOne (some .boolean)) {r : Int32 × Mem} (hq : QI C r) (s0 : Int32) (σ : Mem) (hf : fX3_carryOne_286 s0 σ = some r) : G C 5 0 0 286 [] [.int s0] σ := by
  unfold fX3_carryOne_286 at hf
  exact r_zret X hq dX3_carryOne_286 hf
def fX3_carryOne_276 (v2 : Int32) (σ : Mem) : Option (Int32 × Mem) :=
  if v2 = (-1 : Int32) then (fX3_carryOne_286 (0 : Int32) σ)
  else (fX3_carryOne_286 (1 : Int32) σ)
set_option maxHeartbeats 4000000 in
set_option maxRecDepth 100000 in
theorem tX3_carryOne_276 {C : Ctx} (X : CX C cX3_carryOne 5 RX3 wsX3_carryOne rmX3_carryOne (some .boolean)) {r : Int32 × Mem} (hq : QI C r) (v2 : Int32) (σ : Mem) (hf : fX3_carryOne_276 v2 σ = some r) : G C 5 0 0 276 [(2, .int v2)] [] σ := by
  unfold fX3_carryOne_276 at hf
  refine g_iload_n X dX3_carryOne_276 0 rfl rfl ?_
  refine g_iconst (v := (-1 : Int32)) X dX3_carryOne_277 (by decide) ?_
  refine g_icmp_eq (tgt := 285) X dX3_carryOne_278 (by decide) hf (fun hf => ?_) (fun hf => ?_)
  · refine g_iconst (v := (0 : Int32)) X dX3_carryOne_285 (by decide) ?_
    refine g_sub [] (L' := []) rfl ?_
    exact tX3_carryOne_286 X hq (0 : Int32) σ hf
  · refine g_iconst (v := (1 : Int32)) X dX3_carryOne_281 (by decide) ?_
    refine g_goto (tgt := 286) X dX3_carryOne_282 (by decide) ?_
    refine g_sub [] (L' := []) rfl ?_
    exact tX3_carryOne_286 X hq (1 : Int32) σ hf
def fX3_carryOne_268 (r205 : Int32 → Int32 → Mem → Option (Int32 × Mem)) (v2 : Int32) (v4 : Int32) (s0 : Int32) (s1 : Int32) (s2 : Int32) (σ : Mem) : Option (Int32 × Mem) :=
  grd (inb s2 25) (ltM (wI σ 46 (ix s2) (s1 + s0)) fun σ1 =>
  r205 v2 v4 σ1)
set_option maxHeartbeats 4000000 in
set_option maxRecDepth 100000 in
theorem tX3_carryOne_268 {C : Ctx} (X : CX C cX3_carryOne 5 RX3 wsX3_carryOne rmX3_carryOne (some .boolean)) {r : Int32 × Mem} (hq : QI C r) (r205 : Int32 → Int32 → Mem → Option (Int32 × Mem)) (ih205 : ∀ (v2 : Int32) (v3 : Int32) (σ : Mem), r205 v2 v3 σ = some r → G C 5 0 0 205 [(0, .ref (adr C 35)), (2, .int v2), (3, .int v3)] [] σ) (v2 : Int32) (v4 : Int32) (s0 : Int32) (s1 : Int32) (s2 : Int32) (σ : Mem) (hf : fX3_carryOne_268 r205 v2 v4 s0 s1 s2 σ = some r) : G C 5 0 0 268 [(0, .ref (adr C 35)), (2, .int v2), (4, .int v4)] [.int s0, .int s1, .int s2, .ref (adr C 46)] σ := by
  unfold fX3_carryOne_268 at hf
  refine g_iadd X dX3_carryOne_268 ?_
  refine s_iast (q := 46) (n := 25) X rfl rfl dX3_carryOne_269 hf (fun σ1 hf => ?_)
  refine g_iload X dX3_carryOne_270 2 rfl ?_
  refine g_istore_n (L' := [(3, .int v4), (0, .ref (adr C 35)), (2, .int v2), (4, .int v4)]) X dX3_carryOne_272 rfl (by decide) rfl ?_
  refine g_goto (tgt := 205) X dX3_carryOne_273 (by decide) ?_
  refine g_sub [1, 2, 0] (L' := [(0, .ref (adr C 35)), (2, .int v2), (3, .int v4)]) rfl ?_
  exact ih205 v2 v4 σ1 hf
def fX3_carryOne_256 (r205 : Int32 → Int32 → Mem → Option (Int32 × Mem)) (v2 : Int32) (v3 : Int32) (v4 : Int32) (s0 : Int32) (σ : Mem) : Option (Int32 × Mem) :=
  grd (inb s0 25) (if v3 < (5 : Int32) then (fX3_carryOne_268 r205 v2 v4 (-1 : Int32) (rI σ 46 (ix s0)) s0 σ)
  else (fX3_carryOne_268 r205 v2 v4 (1 : Int32) (rI σ 46 (ix s0)) s0 σ))
set_option maxHeartbeats 4000000 in
set_option maxRecDepth 100000 in
theorem tX3_carryOne_256 {C : Ctx} (X : CX C cX3_carryOne 5 RX3 wsX3_carryOne rmX3_carryOne (some .boolean)) {r : Int32 × Mem} (hq : QI C r) (r205 : Int32 → Int32 → Mem → Option (Int32 × Mem)) (ih205 : ∀ (v2 : Int32) (v3 : Int32) (σ : Mem), r205 v2 v3 σ = some r → G C 5 0 0 205 [(0, .ref (adr C 35)), (2, .int v2), (3, .int v3)] [] σ) (v2 : Int32) (v3 : Int32) (v4 : Int32) (s0 : Int32) (σ : Mem) (hf : fX3_carryOne_256 r205 v2 v3 v4 s0 σ = some r) : G C 5 0 0 256 [(0, .ref (adr C 35)), (2, .int v2), (3, .int v3), (4, .int v4)] [.int s0, .ref (adr C 46)] σ := by
  unfold fX3_carryOne_256 at hf
  refine g_dup2 X dX3_carryOne_256 rfl rfl ?_
  refine g_iald (q := 46) (n := 25) X rfl rfl dX3_carryOne_257 hf (fun hf => ?_)
  refine g_iload_n X dX3_carryOne_258 2 rfl rfl ?_
  refine g_iconst (v := (5 : Int32)) X dX3_carryOne_259 (by decide) ?_
  refine g_icmp_lt (tgt := 267) X dX3_carryOne_260 (by decide) hf (fun hf => ?_) (fun hf => ?_)
  · refine g_iconst (v := (-1 : Int32)) X dX3_carryOne_267 (by decide) ?_
    refine g_sub [0, 1, 3] (L' := [(0, .ref (adr C 35)), (2, .int v2), (4, .int v4)]) rfl ?_
    exact tX3_carryOne_268 X hq r205 ih205 v2 v4 (-1 : Int32) (rI σ 46 (ix s0)) s0 σ hf
  · refine g_iconst (v := (1 : Int32)) X dX3_carryOne_263 (by decide) ?_
    refine g_goto (tgt := 268) X dX3_carryOne_264 (by decide) ?_
    refine g_sub [0, 1, 3] (L' := [(0, .ref (adr C 35)), (2, .int v2), (4, .int v4)]) rfl ?_
    exact tX3_carryOne_268 X hq r205 ih205 v2 v4 (1 : Int32) (rI σ 46 (ix s0)) s0 σ hf
def fX3_carryOne_205b (r205 : Int32 → Int32 → Mem → Option (Int32 × Mem)) (v2 : Int32) (v3 : Int32) (σ : Mem) : Option (Int32 × Mem) :=
  if v3 = (-1 : Int32) then (fX3_carryOne_276 v2 σ)
  else (grd (inb v3 10) (if (rI σ 48 (ix v3)) = (-1 : Int32) then (fX3_carryOne_276 v2 σ)
  else (grd (inb v3 10) (ltI (rI σ 48 (ix v3)) fun x1 =>
  if v3 < (5 : Int32) then (fX3_carryOne_256 r205 v2 v3 x1 ((((5 : Int32) * v3) + x1) - (5 : Int32)) σ)
  else (fX3_carryOne_256 r205 v2 v3 x1 ((((5 : Int32) * x1) + v3) - (5 : Int32)) σ)))))
def fX3_carryOne_205 : Nat → Int32 → Int32 → Mem → Option (Int32 × Mem)
  | 0 => fun _ _ _ => none
  | n + 1 => fX3_carryOne_205b (fX3_carryOne_205 n)
set_option maxHeartbeats 4000000 in
set_option maxRecDepth 100000 in
theorem tX3_carryOne_205b {C : Ctx} (X : CX C cX3_carryOne 5 RX3 wsX3_carryOne rmX3_carryOne (some .boolean)) {r : Int32 × Mem} (hq : QI C r) (r205 : Int32 → Int32 → Mem → Option (Int32 × Mem)) (ih205 : ∀ (v2 : Int32) (v3 : Int32) (σ : Mem), r205 v2 v3 σ = some r → G C 5 0 0 205 [(0, .ref (adr C 35)), (2, .int v2), (3, .int v3)] [] σ) (v2 : Int32) (v3 : Int32) (σ : Mem) (hf : fX3_carryOne_205b r205 v2 v3 σ = some r) : G C 5 0 0 205 [(0, .ref (adr C 35)), (2, .int v2), (3, .int v3)] [] σ := by
  unfold fX3_carryOne_205b at hf
  refine g_iload_n X dX3_carryOne_205 2 rfl rfl ?_
  refine g_iconst (v := (-1 : Int32)) X dX3_carryOne_206 (by decide) ?_
  refine g_icmp_eq (tgt := 276) X dX3_carryOne_207 (by decide) hf (fun hf => ?_) (fun hf => ?_)
  · refine g_sub [1] (L' := [(2, .int v2)]) rfl ?_
    exact tX3_carryOne_276 X hq v2 σ hf
  · refine g_aload_n X dX3_carryOne_210 0 rfl rfl ?_
    refine g_get (q := 35) (kf := 19) (v := .ref (adr C 48)) X obj_m rfl infX3_carryOne_X3 (by decide) (by decide +kernel) rfl dX3_carryOne_211 ?_
    refine g_iload_n X dX3_carryOne_214 2 rfl rfl ?_
    refine g_iald (q := 48) (n := 10) X rfl rfl dX3_carryOne_215 hf (fun hf => ?_)
    refine g_iconst (v := (-1 : Int32)) X dX3_carryOne_216 (by decide) ?_
    refine g_icmp_eq (tgt := 276) X dX3_carryOne_217 (by decide) hf (fun hf => ?_) (fun hf => ?_)
    · refine g_sub [1] (L' := [(2, .int v2)]) rfl ?_
      exact tX3_carryOne_276 X hq v2 σ hf
    · refine g_aload_n X dX3_carryOne_220 0 rfl rfl ?_
      refine g_get (q := 35) (kf := 19) (v := .ref (adr C 48)) X obj_m rfl infX3_carryOne_X3 (by decide) (by decide +kernel) rfl dX3_carryOne_221 ?_
      refine g_iload_n X dX3_carryOne_224 2 rfl rfl ?_
      refine g_iald (q := 48) (n := 10) X rfl rfl dX3_carryOne_225 hf (fun hf => ?_)
      refine s_istore (M := fun x1 => [(4, .int x1), (0, .ref (adr C 35)), (2, .int v2), (3, .int v3)]) X dX3_carryOne_226 (by decide) (fun _ => rfl) hf (fun x1 hf => ?_)
      refine g_aload_n X dX3_carryOne_228 1 rfl rfl ?_
      refine g_get (q := 35) (kf := 17) (v := .ref (adr C 46)) X obj_m rfl infX3_carryOne_X3 (by decide) (by decide +kernel) rfl dX3_carryOne_229 ?_
      refine g_iload_n X dX3_carryOne_232 3 rfl rfl ?_
      refine g_iconst (v := (5 : Int32)) X dX3_carryOne_233 (by decide) ?_
      refine g_icmp_lt (tgt := 248) X dX3_carryOne_234 (by decide) hf (fun hf => ?_) (fun hf => ?_)
      · refine g_iconst (v := (5 : Int32)) X dX3_carryOne_248 (by decide) ?_
        refine g_iload_n X dX3_carryOne_249 3 rfl rfl ?_
        refine g_imul X dX3_carryOne_250 ?_
        refine g_iload X dX3_carryOne_251 0 rfl ?_
        refine g_iadd X dX3_carryOne_253 ?_
        refine g_iconst (v := (5 : Int32)) X dX3_carryOne_254 (by decide) ?_
        refine g_isub X dX3_carryOne_255 ?_
        refine g_sub [1, 2, 3, 0] (L' := [(0, .ref (adr C 35)), (2, .int v2), (3, .int v3), (4, .int x1)]) rfl ?_
        exact tX3_carryOne_256 X hq r205 ih205 v2 v3 x1 ((((5 : Int32) * v3) + x1) - (5 : Int32)) σ hf
      · refine g_iconst (v := (5 : Int32)) X dX3_carryOne_237 (by decide) ?_
        refine g_iload X dX3_carryOne_238 0 rfl ?_
        refine g_imul X dX3_carryOne_240 ?_
        refine g_iload_n X dX3_carryOne_241 3 rfl rfl ?_
        refine g_iadd X dX3_carryOne_242 ?_
        refine g_iconst (v := (5 : Int32)) X dX3_carryOne_243 (by decide) ?_
        refine g_isub X dX3_carryOne_244 ?_
        refine g_goto (tgt := 256) X dX3_carryOne_245 (by decide) ?_
        refine g_sub [1, 2, 3, 0] (L' := [(0, .ref (adr C 35)), (2, .int v2), (3, .int v3), (4, .int x1)]) rfl ?_
        exact tX3_carryOne_256 X hq r205 ih205 v2 v3 x1 ((((5 : Int32) * x1) + v3) - (5 : Int32)) σ hf
set_option maxHeartbeats 4000000 in
set_option maxRecDepth 100000 in
theorem tX3_carryOne_205 {C : Ctx} (X : CX C cX3_carryOne 5 RX3 wsX3_carryOne rmX3_carryOne (some .boolean)) {r : Int32 × Mem} (hq : QI C r) : ∀ (n : Nat) (v2 : Int32) (v3 : Int32) (σ : Mem) (hf : fX3_carryOne_205 n v2 v3 σ = some r), G C 5 0 0 205 [(0, .ref (adr C 35)), (2, .int v2), (3, .int v3)] [] σ := by
  intro n
  induction n with
  | zero => intros; rename_i hf; exact absurd (show (none : Option (Int32 × Mem)) = some r from hf) (by simp)
  | succ n ih =>
    intro v2 v3 σ hf
    exact tX3_carryOne_205b X hq (fX3_carryOne_205 n) (fun v2 v3 σ hf => ih v2 v3 σ hf) v2 v3 σ hf
def fX3_carryOne_204 (v2 : Int32) (s0 : Int32) (σ : Mem) : Option (Int32 × Mem) :=
  fX3_carryOne_205 FU v2 s0 σ
set_option maxHeartbeats 4000000 in
set_option maxRecDepth 100000 in
theorem tX3_carryOne_204 {C : Ctx} (X : CX C cX3_carryOne 5 RX3 wsX3_carryOne rmX3_carryOne (some .boolean)) {r : Int32 × Mem} (hq : QI C r) (v2 : Int32) (s0 : Int32) (σ : Mem) (hf : fX3_carryOne_204 v2 s0 σ = some r) : G C 5 0 0 204 [(0, .ref (adr C 35)), (2, .int v2)] [.int s0] σ := by
  unfold fX3_carryOne_204 at hf
  refine g_istore_n (L' := [(3, .int s0), (0, .ref (adr C 35)), (2, .int v2)]) X dX3_carryOne_204 rfl (by decide) rfl ?_
  refine g_sub [1, 2, 0] (L' := [(0, .ref (adr C 35)), (2, .int v2), (3, .int s0)]) rfl ?_
  exact tX3_carryOne_205 X hq FU v2 s0 σ hf
def fX3_carryOne_185 (r111 : Int32 → Int32 → Mem → Option (Int32 × Mem)) (v3 : Int32) (s0 : Int32) (σ : Mem) : Option (Int32 × Mem) :=
  r111 s0 (v3 + 1) σ
set_option maxHeartbeats 4000000 in
set_option maxRecDepth 100000 in
theorem tX3_carryOne_185 {C : Ctx} (X : CX C cX3_carryOne 5 RX3 wsX3_carryOne rmX3_carryOne (some .boolean)) {r : Int32 × Mem} (hq : QI C r) (r111 : Int32 → Int32 → Mem → Option (Int32 × Mem)) (ih111 : ∀ (v2 : Int32) (v3 : Int32) (σ : Mem), r111 v2 v3 σ = some r → G C 5 0 0 111 [(0, .ref (adr C 35)), (2, .int v2), (3, .int v3)] [] σ) (v3 : Int32) (s0 : Int32) (σ : Mem) (hf : fX3_carryOne_185 r111 v3 s0 σ = some r) : G C 5 0 0 185 [(0, .ref (adr C 35)), (3, .int v3)] [.int s0] σ := by
  unfold fX3_carryOne_185 at hf
  refine g_istore_n (L' := [(2, .int s0), (0, .ref (adr C 35)), (3, .int v3)]) X dX3_carryOne_185 rfl (by decide) rfl ?_
  refine g_iinc (v := (v3 + 1)) (L' := [(3, .int (v3 + 1)), (2, .int s0), (0, .ref (adr C 35))]) X dX3_carryOne_186 2 rfl rfl (by decide) rfl ?_
  refine g_goto (tgt := 111) X dX3_carryOne_189 (by decide) ?_
  refine g_sub [2, 1, 0] (L' := [(0, .ref (adr C 35)), (2, .int s0), (3, .int (v3 + 1))]) rfl ?_
  exact ih111 s0 (v3 + 1) σ hf
def fX3_carryOne_184 (r111 : Int32 → Int32 → Mem → Option (Int32 × Mem)) (v2 : Int32) (v3 : Int32) (σ : Mem) : Option (Int32 × Mem) :=
  fX3_carryOne_185 r111 v3 v2 σ
set_option maxHeartbeats 4000000 in
set_option maxRecDepth 100000 in
theorem tX3_carryOne_184 {C : Ctx} (X : CX C cX3_carryOne 5 RX3 wsX3_carryOne rmX3_carryOne (some .boolean)) {r : Int32 × Mem} (hq : QI C r) (r111 : Int32 → Int32 → Mem → Option (Int32 × Mem)) (ih111 : ∀ (v2 : Int32) (v3 : Int32) (σ : Mem), r111 v2 v3 σ = some r → G C 5 0 0 111 [(0, .ref (adr C 35)), (2, .int v2), (3, .int v3)] [] σ) (v2 : Int32) (v3 : Int32) (σ : Mem) (hf : fX3_carryOne_184 r111 v2 v3 σ = some r) : G C 5 0 0 184 [(0, .ref (adr C 35)), (2, .int v2), (3, .int v3)] [] σ := by
  unfold fX3_carryOne_184 at hf
  refine g_iload_n X dX3_carryOne_184 1 rfl rfl ?_
  refine g_sub [0, 2] (L' := [(0, .ref (adr C 35)), (3, .int v3)]) rfl ?_
  exact tX3_carryOne_185 X hq r111 ih111 v3 v2 σ hf
def fX3_carryOne_180 (r111 : Int32 → Int32 → Mem → Option (Int32 × Mem)) (v3 : Int32) (σ : Mem) : Option (Int32 × Mem) :=
  fX3_carryOne_185 r111 v3 v3 σ
set_option maxHeartbeats 4000000 in
set_option maxRecDepth 100000 in
theorem tX3_carryOne_180 {C : Ctx} (X : CX C cX3_carryOne 5 RX3 wsX3_carryOne rmX3_carryOne (some .boolean)) {r : Int32 × Mem} (hq : QI C r) (r111 : Int32 → Int32 → Mem → Option (Int32 × Mem)) (ih111 : ∀ (v2 : Int32) (v3 : Int32) (σ : Mem), r111 v2 v3 σ = some r → G C 5 0 0 111 [(0, .ref (adr C 35)), (2, .int v2), (3, .int v3)] [] σ) (v3 : Int32) (σ : Mem) (hf : fX3_carryOne_180 r111 v3 σ = some r) : G C 5 0 0 180 [(0, .ref (adr C 35)), (3, .int v3)] [] σ := by
  unfold fX3_carryOne_180 at hf
  refine g_iload_n X dX3_carryOne_180 1 rfl rfl ?_
  refine g_goto (tgt := 185) X dX3_carryOne_181 (by decide) ?_
  exact tX3_carryOne_185 X hq r111 ih111 v3 v3 σ hf
def fX3_carryOne_149 (r111 : Int32 → Int32 → Mem → Option (Int32 × Mem)) (v2 : Int32) (v3 : Int32) (s0 : Int32) (σ : Mem) : Option (Int32 × Mem) :=
  if s0 = 0 then (fX3_carryOne_184 r111 v2 v3 σ)
  else (if v2 = (-1 : Int32) then (fX3_carryOne_180 r111 v3 σ)
  else (grd (inb ((5 : Int32) + v3) 10) (grd (inb ((5 : Int32) + v2) 10) (if (rI σ 47 (ix ((5 : Int32) + v2))) ≤ (rI σ 47 (ix ((5 : Int32) + v3))) then (fX3_carryOne_184 r111 v2 v3 σ)
  else (fX3_carryOne_180 r111 v3 σ)))))
set_option maxHeartbeats 4000000 in
set_option maxRecDepth 100000 in
theorem tX3_carryOne_149 {C : Ctx} (X : CX C cX3_carryOne 5 RX3 wsX3_carryOne rmX3_carryOne (some .boolean)) {r : Int32 × Mem} (hq : QI C r) (r111 : Int32 → Int32 → Mem → Option (Int32 × Mem)) (ih111 : ∀ (v2 : Int32) (v3 : Int32) (σ : Mem), r111 v2 v3 σ = some r → G C 5 0 0 111 [(0, .ref (adr C 35)), (2, .int v2), (3, .int v3)] [] σ) (v2 : Int32) (v3 : Int32) (s0 : Int32) (σ : Mem) (hf : fX3_carryOne_149 r111 v2 v3 s0 σ = some r) : G C 5 0 0 149 [(0, .ref (adr C 35)), (2, .int v2), (3, .int v3)] [.int s0] σ := by
  unfold fX3_carryOne_149 at hf
  refine g_istore (L' := [(4, .int s0), (0, .ref (adr C 35)), (2, .int v2), (3, .int v3)]) X dX3_carryOne_149 (by decide) rfl ?_
  refine g_iload X dX3_carryOne_151 0 rfl ?_
  refine g_if_eq (tgt := 184) X dX3_carryOne_153 (by decide) hf (fun hf => ?_) (fun hf => ?_)
  · refine g_sub [1, 2, 3] (L' := [(0, .ref (adr C 35)), (2, .int v2), (3, .int v3)]) rfl ?_
    exact tX3_carryOne_184 X hq r111 ih111 v2 v3 σ hf
  · refine g_iload_n X dX3_carryOne_156 2 rfl rfl ?_
    refine g_iconst (v := (-1 : Int32)) X dX3_carryOne_157 (by decide) ?_
    refine g_icmp_eq (tgt := 180) X dX3_carryOne_158 (by decide) hf (fun hf => ?_) (fun hf => ?_)
    · refine g_sub [1, 3] (L' := [(0, .ref (adr C 35)), (3, .int v3)]) rfl ?_
      exact tX3_carryOne_180 X hq r111 ih111 v3 σ hf
    · refine g_aload_n X dX3_carryOne_161 1 rfl rfl ?_
      refine g_get (q := 35) (kf := 18) (v := .ref (adr C 47)) X obj_m rfl infX3_carryOne_X3 (by decide) (by decide +kernel) rfl dX3_carryOne_162 ?_
      refine g_iconst (v := (5 : Int32)) X dX3_carryOne_165 (by decide) ?_
      refine g_iload_n X dX3_carryOne_166 3 rfl rfl ?_
      refine g_iadd X dX3_carryOne_167 ?_
      refine g_iald (q := 47) (n := 10) X rfl rfl dX3_carryOne_168 hf (fun hf => ?_)
      refine g_aload_n X dX3_carryOne_169 1 rfl rfl ?_
      refine g_get (q := 35) (kf := 18) (v := .ref (adr C 47)) X obj_m rfl infX3_carryOne_X3 (by decide) (by decide +kernel) rfl dX3_carryOne_170 ?_
      refine g_iconst (v := (5 : Int32)) X dX3_carryOne_173 (by decide) ?_
      refine g_iload_n X dX3_carryOne_174 2 rfl rfl ?_
      refine g_iadd X dX3_carryOne_175 ?_
      refine g_iald (q := 47) (n := 10) X rfl rfl dX3_carryOne_176 hf (fun hf => ?_)
      refine g_icmp_ge (tgt := 184) X dX3_carryOne_177 (by decide) hf (fun hf => ?_) (fun hf => ?_)
      · refine g_sub [1, 2, 3] (L' := [(0, .ref (adr C 35)), (2, .int v2), (3, .int v3)]) rfl ?_
        exact tX3_carryOne_184 X hq r111 ih111 v2 v3 σ hf
      · refine g_sub [1, 3] (L' := [(0, .ref (adr C 35)), (3, .int v3)]) rfl ?_
        exact tX3_carryOne_180 X hq r111 ih111 v3 σ hf
def fX3_carryOne_148 (r111 : Int32 → Int32 → Mem → Option (Int32 × Mem)) (v2 : Int32) (v3 : Int32) (σ : Mem) : Option (Int32 × Mem) :=
  fX3_carryOne_149 r111 v2 v3 (0 : Int32) σ
set_option maxHeartbeats 4000000 in
set_option maxRecDepth 100000 in
theorem tX3_carryOne_148 {C : Ctx} (X : CX C cX3_carryOne 5 RX3 wsX3_carryOne rmX3_carryOne (some .boolean)) {r : Int32 × Mem} (hq : QI C r) (r111 : Int32 → Int32 → Mem → Option (Int32 × Mem)) (ih111 : ∀ (v2 : Int32) (v3 : Int32) (σ : Mem), r111 v2 v3 σ = some r → G C 5 0 0 111 [(0, .ref (adr C 35)), (2, .int v2), (3, .int v3)] [] σ) (v2 : Int32) (v3 : Int32) (σ : Mem) (hf : fX3_carryOne_148 r111 v2 v3 σ = some r) : G C 5 0 0 148 [(0, .ref (adr C 35)), (2, .int v2), (3, .int v3)] [] σ := by
  unfold fX3_carryOne_148 at hf
  refine g_iconst (v := (0 : Int32)) X dX3_carryOne_148 (by decide) ?_
  exact tX3_carryOne_149 X hq r111 ih111 v2 v3 (0 : Int32) σ hf
def fX3_carryOne_111b (r111 : Int32 → Int32 → Mem → Option (Int32 × Mem)) (v2 : Int32) (v3 : Int32) (σ : Mem) : Option (Int32 × Mem) :=
  if (rI σ 35 2) ≤ v3 then (if v2 = (-1 : Int32) then (fX3_carryOne_204 v2 (-1 : Int32) σ)
  else (fX3_carryOne_204 v2 ((5 : Int32) + v2) σ))
  else (bnd (fX3_got v3 σ) fun u1 σ2 =>
  grd (inb v3 5) (if (rI σ2 44 (ix v3)) ≤ u1 then (fX3_carryOne_148 r111 v2 v3 σ2)
  else (grd (inb ((5 : Int32) + v3) 10) (if 0 ≤ (rI σ2 47 (ix ((5 : Int32) + v3))) then (fX3_carryOne_148 r111 v2 v3 σ2)
  else (fX3_carryOne_149 r111 v2 v3 (1 : Int32) σ2)))))
def fX3_carryOne_111 : Nat → Int32 → Int32 → Mem → Option (Int32 × Mem)
  | 0 => fun _ _ _ => none
  | n + 1 => fX3_carryOne_111b (fX3_carryOne_111 n)
set_option maxHeartbeats 4000000 in
set_option maxRecDepth 100000 in
theorem tX3_carryOne_111b {C : Ctx} (X : CX C cX3_carryOne 5 RX3 wsX3_carryOne rmX3_carryOne (some .boolean)) {r : Int32 × Mem} (hq : QI C r) (r111 : Int32 → Int32 → Mem → Option (Int32 × Mem)) (ih111 : ∀ (v2 : Int32) (v3 : Int32) (σ : Mem), r111 v2 v3 σ = some r → G C 5 0 0 111 [(0, .ref (adr C 35)), (2, .int v2), (3, .int v3)] [] σ) (v2 : Int32) (v3 : Int32) (σ : Mem) (hf : fX3_carryOne_111b r111 v2 v3 σ = some r) : G C 5 0 0 111 [(0, .ref (adr C 35)), (2, .int v2), (3, .int v3)] [] σ := by
  unfold fX3_carryOne_111b at hf
  refine g_iload_n X dX3_carryOne_111 2 rfl rfl ?_
  refine g_aload_n X dX3_carryOne_112 0 rfl rfl ?_
  refine g_get (q := 35) (kf := 2) (v := .int (rI σ 35 2)) X obj_m rfl infX3_carryOne_X3 (by decide) (by decide +kernel) rfl dX3_carryOne_113 ?_
  refine g_icmp_ge (tgt := 192) X dX3_carryOne_116 (by decide) hf (fun hf => ?_) (fun hf => ?_)
  · refine g_iload_n X dX3_carryOne_192 1 rfl rfl ?_
    refine g_iconst (v := (-1 : Int32)) X dX3_carryOne_193 (by decide) ?_
    refine g_icmp_ne (tgt := 201) X dX3_carryOne_194 (by decide) hf (fun hf => ?_) (fun hf => ?_)
    · refine g_iconst (v := (5 : Int32)) X dX3_carryOne_201 (by decide) ?_
      refine g_iload_n X dX3_carryOne_202 1 rfl rfl ?_
      refine g_iadd X dX3_carryOne_203 ?_
      refine g_sub [0, 1] (L' := [(0, .ref (adr C 35)), (2, .int v2)]) rfl ?_
      exact tX3_carryOne_204 X hq v2 ((5 : Int32) + v2) σ hf
    · refine g_iconst (v := (-1 : Int32)) X dX3_carryOne_197 (by decide) ?_
      refine g_goto (tgt := 204) X dX3_carryOne_198 (by decide) ?_
      refine g_sub [0, 1] (L' := [(0, .ref (adr C 35)), (2, .int v2)]) rfl ?_
      exact tX3_carryOne_204 X hq v2 (-1 : Int32) σ hf
  · refine g_aload_n X dX3_carryOne_119 0 rfl rfl ?_
    refine g_iload_n X dX3_carryOne_120 2 rfl rfl ?_
    refine c_VI (q := 35) (vs := [.int v3]) (rest := []) X (kX3_got (cL C) v3 σ) (fun s a hts => cwV 1 hts gX3_carryOne_X3_got rfl rfl rfl (by decide +kernel) ⟨Nat.le_of_ble_eq_true rfl, Nat.le_of_ble_eq_true rfl⟩) obj_m (rfl : vwCl[3]? = some (RX3, TX3, 21)) rfl rfl rfl rfl (Nat.le_of_ble_eq_true rfl) dX3_carryOne_121 ⟨Nat.le_of_ble_eq_true rfl, Nat.le_of_ble_eq_true rfl⟩ hf (fun u1 σ2 hf => ?_)
    refine g_aload_n X dX3_carryOne_124 0 rfl rfl ?_
    refine g_get (q := 35) (kf := 15) (v := .ref (adr C 44)) X obj_m rfl infX3_carryOne_X3 (by decide) (by decide +kernel) rfl dX3_carryOne_125 ?_
    refine g_iload_n X dX3_carryOne_128 2 rfl rfl ?_
    refine g_iald (q := 44) (n := 5) X rfl rfl dX3_carryOne_129 hf (fun hf => ?_)
    refine g_icmp_ge (tgt := 148) X dX3_carryOne_130 (by decide) hf (fun hf => ?_) (fun hf => ?_)
    · exact tX3_carryOne_148 X hq r111 ih111 v2 v3 σ2 hf
    · refine g_aload_n X dX3_carryOne_133 0 rfl rfl ?_
      refine g_get (q := 35) (kf := 18) (v := .ref (adr C 47)) X obj_m rfl infX3_carryOne_X3 (by decide) (by decide +kernel) rfl dX3_carryOne_134 ?_
      refine g_iconst (v := (5 : Int32)) X dX3_carryOne_137 (by decide) ?_
      refine g_iload_n X dX3_carryOne_138 2 rfl rfl ?_
      refine g_iadd X dX3_carryOne_139 ?_
      refine g_iald (q := 47) (n := 10) X rfl rfl dX3_carryOne_140 hf (fun hf => ?_)
      refine g_if_ge (tgt := 148) X dX3_carryOne_141 (by decide) hf (fun hf => ?_) (fun hf => ?_)
      · exact tX3_carryOne_148 X hq r111 ih111 v2 v3 σ2 hf
      · refine g_iconst (v := (1 : Int32)) X dX3_carryOne_144 (by decide) ?_
        refine g_goto (tgt := 149) X dX3_carryOne_145 (by decide) ?_
        exact tX3_carryOne_149 X hq r111 ih111 v2 v3 (1 : Int32) σ2 hf
set_option maxHeartbeats 4000000 in
set_option maxRecDepth 100000 in
theorem tX3_carryOne_111 {C : Ctx} (X : CX C cX3_carryOne 5 RX3 wsX3_carryOne rmX3_carryOne (some .boolean)) {r : Int32 × Mem} (hq : QI C r) : ∀ (n : Nat) (v2 : Int32) (v3 : Int32) (σ : Mem) (hf : fX3_carryOne_111 n v2 v3 σ = some r), G C 5 0 0 111 [(0, .ref (adr C 35)), (2, .int v2), (3, .int v3)] [] σ := by
  intro n
  induction n with
  | zero => intros; rename_i hf; exact absurd (show (none : Option (Int32 × Mem)) = some r from hf) (by simp)
  | succ n ih =>
    intro v2 v3 σ hf
    exact tX3_carryOne_111b X hq (fX3_carryOne_111 n) (fun v2 v3 σ hf => ih v2 v3 σ hf) v2 v3 σ hf
def fX3_carryOne_97 (r66 : Int32 → Mem → Option (Int32 × Mem)) (r74 : Int32 → Int32 → Mem → Option (Int32 × Mem)) (v2 : Int32) (s0 : Int32) (σ : Mem) : Option (Int32 × Mem) :=
  r74 s0 (v2 + 1) σ
set_option maxHeartbeats 4000000 in
set_option maxRecDepth 100000 in
theorem tX3_carryOne_97 {C : Ctx} (X : CX C cX3_carryOne 5 RX3 wsX3_carryOne rmX3_carryOne (some .boolean)) {r : Int32 × Mem} (hq : QI C r) (r66 : Int32 → Mem → Option (Int32 × Mem)) (r74 : Int32 → Int32 → Mem → Option (Int32 × Mem)) (ih66 : ∀ (v1 : Int32) (σ : Mem), r66 v1 σ = some r → G C 5 0 0 66 [(0, .ref (adr C 35)), (1, .int v1)] [] σ) (ih74 : ∀ (v1 : Int32) (v2 : Int32) (σ : Mem), r74 v1 v2 σ = some r → G C 5 0 0 74 [(0, .ref (adr C 35)), (1, .int v1), (2, .int v2)] [] σ) (v2 : Int32) (s0 : Int32) (σ : Mem) (hf : fX3_carryOne_97 r66 r74 v2 s0 σ = some r) : G C 5 0 0 97 [(0, .ref (adr C 35)), (2, .int v2)] [.int s0] σ := by
  unfold fX3_carryOne_97 at hf
  refine g_istore_n (L' := [(1, .int s0), (0, .ref (adr C 35)), (2, .int v2)]) X dX3_carryOne_97 rfl (by decide) rfl ?_
  refine g_iinc (v := (v2 + 1)) (L' := [(2, .int (v2 + 1)), (1, .int s0), (0, .ref (adr C 35))]) X dX3_carryOne_98 2 rfl rfl (by decide) rfl ?_
  refine g_goto (tgt := 74) X dX3_carryOne_101 (by decide) ?_
  refine g_sub [2, 1, 0] (L' := [(0, .ref (adr C 35)), (1, .int s0), (2, .int (v2 + 1))]) rfl ?_
  exact ih74 s0 (v2 + 1) σ hf
def fX3_carryOne_92 (r66 : Int32 → Mem → Option (Int32 × Mem)) (r74 : Int32 → Int32 → Mem → Option (Int32 × Mem)) (v2 : Int32) (σ : Mem) : Option (Int32 × Mem) :=
  fX3_carryOne_97 r66 r74 v2 (1 : Int32) σ
set_option maxHeartbeats 4000000 in
set_option maxRecDepth 100000 in
theorem tX3_carryOne_92 {C : Ctx} (X : CX C cX3_carryOne 5 RX3 wsX3_carryOne rmX3_carryOne (some .boolean)) {r : Int32 × Mem} (hq : QI C r) (r66 : Int32 → Mem → Option (Int32 × Mem)) (r74 : Int32 → Int32 → Mem → Option (Int32 × Mem)) (ih66 : ∀ (v1 : Int32) (σ : Mem), r66 v1 σ = some r → G C 5 0 0 66 [(0, .ref (adr C 35)), (1, .int v1)] [] σ) (ih74 : ∀ (v1 : Int32) (v2 : Int32) (σ : Mem), r74 v1 v2 σ = some r → G C 5 0 0 74 [(0, .ref (adr C 35)), (1, .int v1), (2, .int v2)] [] σ) (v2 : Int32) (σ : Mem) (hf : fX3_carryOne_92 r66 r74 v2 σ = some r) : G C 5 0 0 92 [(0, .ref (adr C 35)), (2, .int v2)] [] σ := by
  unfold fX3_carryOne_92 at hf
  refine g_iconst (v := (1 : Int32)) X dX3_carryOne_92 (by decide) ?_
  refine g_goto (tgt := 97) X dX3_carryOne_93 (by decide) ?_
  exact tX3_carryOne_97 X hq r66 r74 ih66 ih74 v2 (1 : Int32) σ hf
def fX3_carryOne_74b (r66 : Int32 → Mem → Option (Int32 × Mem)) (r74 : Int32 → Int32 → Mem → Option (Int32 × Mem)) (v1 : Int32) (v2 : Int32) (σ : Mem) : Option (Int32 × Mem) :=
  if (25 : Int32) ≤ v2 then (r66 v1 σ)
  else (bnd (fX3_goAlong v2 σ) fun u1 σ2 =>
  if u1 = 0 then (if v1 = 0 then (fX3_carryOne_97 r66 r74 v2 (0 : Int32) σ2)
  else (fX3_carryOne_92 r66 r74 v2 σ2))
  else (fX3_carryOne_92 r66 r74 v2 σ2))
def fX3_carryOne_74 (r66 : Int32 → Mem → Option (Int32 × Mem)) : Nat → Int32 → Int32 → Mem → Option (Int32 × Mem)
  | 0 => fun _ _ _ => none
  | n + 1 => fX3_carryOne_74b r66 (fX3_carryOne_74 r66 n)
set_option maxHeartbeats 4000000 in
set_option maxRecDepth 100000 in
theorem tX3_carryOne_74b {C : Ctx} (X : CX C cX3_carryOne 5 RX3 wsX3_carryOne rmX3_carryOne (some .boolean)) {r : Int32 × Mem} (hq : QI C r) (r66 : Int32 → Mem → Option (Int32 × Mem)) (ih66 : ∀ (v1 : Int32) (σ : Mem), r66 v1 σ = some r → G C 5 0 0 66 [(0, .ref (adr C 35)), (1, .int v1)] [] σ) (r74 : Int32 → Int32 → Mem → Option (Int32 × Mem)) (ih74 : ∀ (v1 : Int32) (v2 : Int32) (σ : Mem), r74 v1 v2 σ = some r → G C 5 0 0 74 [(0, .ref (adr C 35)), (1, .int v1), (2, .int v2)] [] σ) (v1 : Int32) (v2 : Int32) (σ : Mem) (hf : fX3_carryOne_74b r66 r74 v1 v2 σ = some r) : G C 5 0 0 74 [(0, .ref (adr C 35)), (1, .int v1), (2, .int v2)] [] σ := by
  unfold fX3_carryOne_74b at hf
  refine g_iload_n X dX3_carryOne_74 2 rfl rfl ?_
  refine g_bipush (v := (25 : Int32)) X dX3_carryOne_75 (by decide) ?_
  refine g_icmp_ge (tgt := 104) X dX3_carryOne_77 (by decide) hf (fun hf => ?_) (fun hf => ?_)
  · refine g_goto (tgt := 66) X dX3_carryOne_104 (by decide) ?_
    refine g_sub [0, 1] (L' := [(0, .ref (adr C 35)), (1, .int v1)]) rfl ?_
    exact ih66 v1 σ hf
  · refine g_aload_n X dX3_carryOne_80 0 rfl rfl ?_
    refine g_iload_n X dX3_carryOne_81 2 rfl rfl ?_
    refine c_VI (q := 35) (vs := [.int v2]) (rest := []) X (kX3_goAlong (cL C) v2 σ) (fun s a hts => cwV 1 hts gX3_carryOne_X3_goAlong rfl rfl rfl (by decide +kernel) ⟨Nat.le_of_ble_eq_true rfl, Nat.le_of_ble_eq_true rfl⟩) obj_m (rfl : vwCl[3]? = some (RX3, TX3, 21)) rfl rfl rfl rfl (Nat.le_of_ble_eq_true rfl) dX3_carryOne_82 ⟨Nat.le_of_ble_eq_true rfl, Nat.le_of_ble_eq_true rfl⟩ hf (fun u1 σ2 hf => ?_)
    refine g_if_ne (tgt := 92) X dX3_carryOne_85 (by decide) hf (fun hf => ?_) (fun hf => ?_)
    · refine g_sub [0, 2] (L' := [(0, .ref (adr C 35)), (2, .int v2)]) rfl ?_
      exact tX3_carryOne_92 X hq r66 r74 ih66 ih74 v2 σ2 hf
    · refine g_iload_n X dX3_carryOne_88 1 rfl rfl ?_
      refine g_if_eq (tgt := 96) X dX3_carryOne_89 (by decide) hf (fun hf => ?_) (fun hf => ?_)
      · refine g_iconst (v := (0 : Int32)) X dX3_carryOne_96 (by decide) ?_
        refine g_sub [0, 2] (L' := [(0, .ref (adr C 35)), (2, .int v2)]) rfl ?_
        exact tX3_carryOne_97 X hq r66 r74 ih66 ih74 v2 (0 : Int32) σ2 hf
      · refine g_sub [0, 2] (L' := [(0, .ref (adr C 35)), (2, .int v2)]) rfl ?_
        exact tX3_carryOne_92 X hq r66 r74 ih66 ih74 v2 σ2 hf
set_option maxHeartbeats 4000000 in
set_option maxRecDepth 100000 in
theorem tX3_carryOne_74 {C : Ctx} (X : CX C cX3_carryOne 5 RX3 wsX3_carryOne rmX3_carryOne (some .boolean)) {r : Int32 × Mem} (hq : QI C r) (r66 : Int32 → Mem → Option (Int32 × Mem)) (ih66 : ∀ (v1 : Int32) (σ : Mem), r66 v1 σ = some r → G C 5 0 0 66 [(0, .ref (adr C 35)), (1, .int v1)] [] σ) : ∀ (n : Nat) (v1 : Int32) (v2 : Int32) (σ : Mem) (hf : fX3_carryOne_74 r66 n v1 v2 σ = some r), G C 5 0 0 74 [(0, .ref (adr C 35)), (1, .int v1), (2, .int v2)] [] σ := by
  intro n
  induction n with
  | zero => intros; rename_i hf; exact absurd (show (none : Option (Int32 × Mem)) = some r from hf) (by simp)
  | succ n ih =>
    intro v1 v2 σ hf
    exact tX3_carryOne_74b X hq r66 ih66 (fX3_carryOne_74 r66 n) (fun v1 v2 σ hf => ih v1 v2 σ hf) v1 v2 σ hf
def fX3_carryOne_66b (r66 : Int32 → Mem → Option (Int32 × Mem)) (v1 : Int32) (σ : Mem) : Option (Int32 × Mem) :=
  if v1 = 0 then (fX3_carryOne_111 FU (-1 : Int32) (0 : Int32) σ)
  else (fX3_carryOne_74 r66 FU (0 : Int32) (0 : Int32) σ)
def fX3_carryOne_66 : Nat → Int32 → Mem → Option (Int32 × Mem)
  | 0 => fun _ _ => none
  | n + 1 => fX3_carryOne_66b (fX3_carryOne_66 n)
set_option maxHeartbeats 4000000 in
set_option maxRecDepth 100000 in
theorem tX3_carryOne_66b {C : Ctx} (X : CX C cX3_carryOne 5 RX3 wsX3_carryOne rmX3_carryOne (some .boolean)) {r : Int32 × Mem} (hq : QI C r) (r66 : Int32 → Mem → Option (Int32 × Mem)) (ih66 : ∀ (v1 : Int32) (σ : Mem), r66 v1 σ = some r → G C 5 0 0 66 [(0, .ref (adr C 35)), (1, .int v1)] [] σ) (v1 : Int32) (σ : Mem) (hf : fX3_carryOne_66b r66 v1 σ = some r) : G C 5 0 0 66 [(0, .ref (adr C 35)), (1, .int v1)] [] σ := by
  unfold fX3_carryOne_66b at hf
  refine g_iload_n X dX3_carryOne_66 1 rfl rfl ?_
  refine g_if_eq (tgt := 107) X dX3_carryOne_67 (by decide) hf (fun hf => ?_) (fun hf => ?_)
  · refine g_iconst (v := (-1 : Int32)) X dX3_carryOne_107 (by decide) ?_
    refine g_istore_n (L' := [(2, .int (-1 : Int32)), (0, .ref (adr C 35)), (1, .int v1)]) X dX3_carryOne_108 rfl (by decide) rfl ?_
    refine g_iconst (v := (0 : Int32)) X dX3_carryOne_109 (by decide) ?_
    refine g_istore_n (L' := [(3, .int (0 : Int32)), (2, .int (-1 : Int32)), (0, .ref (adr C 35)), (1, .int v1)]) X dX3_carryOne_110 rfl (by decide) rfl ?_
    refine g_sub [2, 1, 0] (L' := [(0, .ref (adr C 35)), (2, .int (-1 : Int32)), (3, .int (0 : Int32))]) rfl ?_
    exact tX3_carryOne_111 X hq FU (-1 : Int32) (0 : Int32) σ hf
  · refine g_iconst (v := (0 : Int32)) X dX3_carryOne_70 (by decide) ?_
    refine g_istore_n (L' := [(1, .int (0 : Int32)), (0, .ref (adr C 35))]) X dX3_carryOne_71 rfl (by decide) rfl ?_
    refine g_iconst (v := (0 : Int32)) X dX3_carryOne_72 (by decide) ?_
    refine g_istore_n (L' := [(2, .int (0 : Int32)), (1, .int (0 : Int32)), (0, .ref (adr C 35))]) X dX3_carryOne_73 rfl (by decide) rfl ?_
    refine g_sub [2, 1, 0] (L' := [(0, .ref (adr C 35)), (1, .int (0 : Int32)), (2, .int (0 : Int32))]) rfl ?_
    exact tX3_carryOne_74 X hq r66 ih66 FU (0 : Int32) (0 : Int32) σ hf
set_option maxHeartbeats 4000000 in
set_option maxRecDepth 100000 in
theorem tX3_carryOne_66 {C : Ctx} (X : CX C cX3_carryOne 5 RX3 wsX3_carryOne rmX3_carryOne (some .boolean)) {r : Int32 × Mem} (hq : QI C r) : ∀ (n : Nat) (v1 : Int32) (σ : Mem) (hf : fX3_carryOne_66 n v1 σ = some r), G C 5 0 0 66 [(0, .ref (adr C 35)), (1, .int v1)] [] σ := by
  intro n
  induction n with
  | zero => intros; rename_i hf; exact absurd (show (none : Option (Int32 × Mem)) = some r from hf) (by simp)
  | succ n ih =>
    intro v1 σ hf
    exact tX3_carryOne_66b X hq (fX3_carryOne_66 n) (fun v1 σ hf => ih v1 σ hf) v1 σ hf
def fX3_carryOne_40 (r2 : Int32 → Mem → Option (Int32 × Mem)) (v1 : Int32) (s0 : Int32) (s1 : Int32) (σ : Mem) : Option (Int32 × Mem) :=
  grd (inb s1 10) (ltM (wI σ 47 (ix s1) s0) fun σ1 =>
  grd (inb ((5 : Int32) + v1) 10) (ltM (wI σ1 47 (ix ((5 : Int32) + v1)) (268435456 : Int32)) fun σ2 =>
  grd (inb v1 10) (ltM (wI σ2 48 (ix v1) (-1 : Int32)) fun σ3 =>
  r2 (v1 + 1) σ3)))
set_option maxHeartbeats 4000000 in
set_option maxRecDepth 100000 in
theorem tX3_carryOne_40 {C : Ctx} (X : CX C cX3_carryOne 5 RX3 wsX3_carryOne rmX3_carryOne (some .boolean)) {r : Int32 × Mem} (hq : QI C r) (r2 : Int32 → Mem → Option (Int32 × Mem)) (ih2 : ∀ (v1 : Int32) (σ : Mem), r2 v1 σ = some r → G C 5 0 0 2 [(0, .ref (adr C 35)), (1, .int v1)] [] σ) (v1 : Int32) (s0 : Int32) (s1 : Int32) (σ : Mem) (hf : fX3_carryOne_40 r2 v1 s0 s1 σ = some r) : G C 5 0 0 40 [(0, .ref (adr C 35)), (1, .int v1)] [.int s0, .int s1, .ref (adr C 47)] σ := by
  unfold fX3_carryOne_40 at hf
  refine s_iast (q := 47) (n := 10) X rfl rfl dX3_carryOne_40 hf (fun σ1 hf => ?_)
  refine g_aload_n X dX3_carryOne_41 0 rfl rfl ?_
  refine g_get (q := 35) (kf := 18) (v := .ref (adr C 47)) X obj_m rfl infX3_carryOne_X3 (by decide) (by decide +kernel) rfl dX3_carryOne_42 ?_
  refine g_iconst (v := (5 : Int32)) X dX3_carryOne_45 (by decide) ?_
  refine g_iload_n X dX3_carryOne_46 1 rfl rfl ?_
  refine g_iadd X dX3_carryOne_47 ?_
  refine g_ldc (v := (268435456 : Int32)) X (by decide +kernel) dX3_carryOne_48 ?_
  refine s_iast (q := 47) (n := 10) X rfl rfl dX3_carryOne_50 hf (fun σ2 hf => ?_)
  refine g_aload_n X dX3_carryOne_51 0 rfl rfl ?_
  refine g_get (q := 35) (kf := 19) (v := .ref (adr C 48)) X obj_m rfl infX3_carryOne_X3 (by decide) (by decide +kernel) rfl dX3_carryOne_52 ?_
  refine g_iload_n X dX3_carryOne_55 1 rfl rfl ?_
  refine g_iconst (v := (-1 : Int32)) X dX3_carryOne_56 (by decide) ?_
  refine s_iast (q := 48) (n := 10) X rfl rfl dX3_carryOne_57 hf (fun σ3 hf => ?_)
  refine g_iinc (v := (v1 + 1)) (L' := [(1, .int (v1 + 1)), (0, .ref (adr C 35))]) X dX3_carryOne_58 1 rfl rfl (by decide) rfl ?_
  refine g_goto (tgt := 2) X dX3_carryOne_61 (by decide) ?_
  refine g_sub [1, 0] (L' := [(0, .ref (adr C 35)), (1, .int (v1 + 1))]) rfl ?_
  exact ih2 (v1 + 1) σ3 hf
def fX3_carryOne_38 (r2 : Int32 → Mem → Option (Int32 × Mem)) (v1 : Int32) (s0 : Int32) (σ : Mem) : Option (Int32 × Mem) :=
  fX3_carryOne_40 r2 v1 (268435456 : Int32) s0 σ
set_option maxHeartbeats 4000000 in
set_option maxRecDepth 100000 in
theorem tX3_carryOne_38 {C : Ctx} (X : CX C cX3_carryOne 5 RX3 wsX3_carryOne rmX3_carryOne (some .boolean)) {r : Int32 × Mem} (hq : QI C r) (r2 : Int32 → Mem → Option (Int32 × Mem)) (ih2 : ∀ (v1 : Int32) (σ : Mem), r2 v1 σ = some r → G C 5 0 0 2 [(0, .ref (adr C 35)), (1, .int v1)] [] σ) (v1 : Int32) (s0 : Int32) (σ : Mem) (hf : fX3_carryOne_38 r2 v1 s0 σ = some r) : G C 5 0 0 38 [(0, .ref (adr C 35)), (1, .int v1)] [.int s0, .ref (adr C 47)] σ := by
  unfold fX3_carryOne_38 at hf
  refine g_ldc (v := (268435456 : Int32)) X (by decide +kernel) dX3_carryOne_38 ?_
  exact tX3_carryOne_40 X hq r2 ih2 v1 (268435456 : Int32) s0 σ hf
def fX3_carryOne_2b (r2 : Int32 → Mem → Option (Int32 × Mem)) (v1 : Int32) (σ : Mem) : Option (Int32 × Mem) :=
  if (5 : Int32) ≤ v1 then (fX3_carryOne_66 FU (1 : Int32) σ)
  else (if (rI σ 35 1) ≤ v1 then (fX3_carryOne_38 r2 v1 v1 σ)
  else (bnd (fX3_given v1 σ) fun u1 σ2 =>
  grd (inb v1 5) (if (rI σ2 43 (ix v1)) ≤ u1 then (fX3_carryOne_38 r2 v1 v1 σ2)
  else (fX3_carryOne_40 r2 v1 (0 : Int32) v1 σ2))))
def fX3_carryOne_2 : Nat → Int32 → Mem → Option (Int32 × Mem)
  | 0 => fun _ _ => none
  | n + 1 => fX3_carryOne_2b (fX3_carryOne_2 n)
set_option maxHeartbeats 4000000 in
set_option maxRecDepth 100000 in
theorem tX3_carryOne_2b {C : Ctx} (X : CX C cX3_carryOne 5 RX3 wsX3_carryOne rmX3_carryOne (some .boolean)) {r : Int32 × Mem} (hq : QI C r) (r2 : Int32 → Mem → Option (Int32 × Mem)) (ih2 : ∀ (v1 : Int32) (σ : Mem), r2 v1 σ = some r → G C 5 0 0 2 [(0, .ref (adr C 35)), (1, .int v1)] [] σ) (v1 : Int32) (σ : Mem) (hf : fX3_carryOne_2b r2 v1 σ = some r) : G C 5 0 0 2 [(0, .ref (adr C 35)), (1, .int v1)] [] σ := by
  unfold fX3_carryOne_2b at hf
  refine g_iload_n X dX3_carryOne_2 1 rfl rfl ?_
  refine g_iconst (v := (5 : Int32)) X dX3_carryOne_3 (by decide) ?_
  refine g_icmp_ge (tgt := 64) X dX3_carryOne_4 (by decide) hf (fun hf => ?_) (fun hf => ?_)
  · refine g_iconst (v := (1 : Int32)) X dX3_carryOne_64 (by decide) ?_
    refine g_istore_n (L' := [(1, .int (1 : Int32)), (0, .ref (adr C 35))]) X dX3_carryOne_65 rfl (by decide) rfl ?_
    refine g_sub [1, 0] (L' := [(0, .ref (adr C 35)), (1, .int (1 : Int32))]) rfl ?_
    exact tX3_carryOne_66 X hq FU (1 : Int32) σ hf
  · refine g_aload_n X dX3_carryOne_7 0 rfl rfl ?_
    refine g_get (q := 35) (kf := 18) (v := .ref (adr C 47)) X obj_m rfl infX3_carryOne_X3 (by decide) (by decide +kernel) rfl dX3_carryOne_8 ?_
    refine g_iload_n X dX3_carryOne_11 1 rfl rfl ?_
    refine g_iload_n X dX3_carryOne_12 1 rfl rfl ?_
    refine g_aload_n X dX3_carryOne_13 0 rfl rfl ?_
    refine g_get (q := 35) (kf := 1) (v := .int (rI σ 35 1)) X obj_m rfl infX3_carryOne_X3 (by decide) (by decide +kernel) rfl dX3_carryOne_14 ?_
    refine g_icmp_ge (tgt := 38) X dX3_carryOne_17 (by decide) hf (fun hf => ?_) (fun hf => ?_)
    · exact tX3_carryOne_38 X hq r2 ih2 v1 v1 σ hf
    · refine g_aload_n X dX3_carryOne_20 0 rfl rfl ?_
      refine g_iload_n X dX3_carryOne_21 1 rfl rfl ?_
      refine c_VI (q := 35) (vs := [.int v1]) (rest := [.int v1, .ref (adr C 47)]) X (kX3_given (cL C) v1 σ) (fun s a hts => cwV 1 hts gX3_carryOne_X3_given rfl rfl rfl (by decide +kernel) ⟨Nat.le_of_ble_eq_true rfl, Nat.le_of_ble_eq_true rfl⟩) obj_m (rfl : vwCl[3]? = some (RX3, TX3, 21)) rfl rfl rfl rfl (Nat.le_of_ble_eq_true rfl) dX3_carryOne_22 ⟨Nat.le_of_ble_eq_true rfl, Nat.le_of_ble_eq_true rfl⟩ hf (fun u1 σ2 hf => ?_)
      refine g_aload_n X dX3_carryOne_25 0 rfl rfl ?_
      refine g_get (q := 35) (kf := 14) (v := .ref (adr C 43)) X obj_m rfl infX3_carryOne_X3 (by decide) (by decide +kernel) rfl dX3_carryOne_26 ?_
      refine g_iload_n X dX3_carryOne_29 1 rfl rfl ?_
      refine g_iald (q := 43) (n := 5) X rfl rfl dX3_carryOne_30 hf (fun hf => ?_)
      refine g_icmp_ge (tgt := 38) X dX3_carryOne_31 (by decide) hf (fun hf => ?_) (fun hf => ?_)
      · exact tX3_carryOne_38 X hq r2 ih2 v1 v1 σ2 hf
      · refine g_iconst (v := (0 : Int32)) X dX3_carryOne_34 (by decide) ?_
        refine g_goto (tgt := 40) X dX3_carryOne_35 (by decide) ?_
        exact tX3_carryOne_40 X hq r2 ih2 v1 (0 : Int32) v1 σ2 hf
set_option maxHeartbeats 4000000 in
set_option maxRecDepth 100000 in
theorem tX3_carryOne_2 {C : Ctx} (X : CX C cX3_carryOne 5 RX3 wsX3_carryOne rmX3_carryOne (some .boolean)) {r : Int32 × Mem} (hq : QI C r) : ∀ (n : Nat) (v1 : Int32) (σ : Mem) (hf : fX3_carryOne_2 n v1 σ = some r), G C 5 0 0 2 [(0, .ref (adr C 35)), (1, .int v1)] [] σ := by
  intro n
  induction n with
  | zero => intros; rename_i hf; exact absurd (show (none : Option (Int32 × Mem)) = some r from hf) (by simp)
  | succ n ih =>
    intro v1 σ hf
    exact tX3_carryOne_2b X hq (fX3_carryOne_2 n) (fun v1 σ hf => ih v1 σ hf) v1 σ hf
def fX3_carryOne_e (σ : Mem) : Option (Int32 × Mem) :=
  fX3_carryOne_2 FU (0 : Int32) σ
set_option maxHeartbeats 4000000 in
set_option maxRecDepth 100000 in
theorem tX3_carryOne_e {C : Ctx} (X : CX C cX3_carryOne 5 RX3 wsX3_carryOne rmX3_carryOne (some .boolean)) {r : Int32 × Mem} (hq : QI C r) (σ : Mem) (hf : fX3_carryOne_e σ = some r) : G C 5 0 0 0 [(0, .ref (adr C 35))] [] σ := by
  unfold fX3_carryOne_e at hf
  refine g_iconst (v := (0 : Int32)) X dX3_carryOne_0 (by decide) ?_
  refine g_istore_n (L' := [(1, .int (0 : Int32)), (0, .ref (adr C 35))]) X dX3_carryOne_1 rfl (by decide) rfl ?_
  refine g_sub [1, 0] (L' := [(0, .ref (adr C 35)), (1, .int (0 : Int32))]) rfl ?_
  exact tX3_carryOne_2 X hq FU (0 : Int32) σ hf
def fX3_carryOne (σ : Mem) : Option (Int32 × Mem) := fX3_carryOne_e σ
theorem kX3_carryOne (l : Launch) (σ : Mem) : KI l yX3_carryOne wsX3_carryOne rmX3_carryOne (fun ad => [.ref (ad 35)]) σ (fX3_carryOne σ) := fun r hr => kt_of (by decide +kernel) rfl (fun _ => Nat.le_of_ble_eq_true rfl) (fun C X hne hq => tX3_carryOne_e X hq σ hr)
/-! ### X3_solve -/
abbrev rmX3_solve : Room := { frames := 6, cells := 0, slots := 0, locals := 143 }
theorem infX3_solve_X3 : ∀ w ∈ u_ws RX3 TX3 21, w ∈ wsX3_solve := by decide +kernel
def fX3_solve_127 (r90 : Int32 → Int32 → Mem → Option (Int32 × Mem)) (v3 : Int32) (s0 : Int32) (s1 : Int32) (σ : Mem) : Option (Int32 × Mem) :=
  ltI (s1 + s0) fun x1 =>
  r90 x1 (v3 + 1) σ
set_option maxHeartbeats 4000000 in
set_option maxRecDepth 100000 in
theorem tX3_solve_127 {C : Ctx} (X : CX C cX3_solve 4 RX3 wsX3_solve rmX3_solve (some .int)) {r : Int32 × Mem} (hq : QI C r) (r90 : Int32 → Int32 → Mem → Option (Int32 × Mem)) (ih90 : ∀ (v2 : Int32) (v3 : Int32) (σ : Mem), r90 v2 v3 σ = some r → G C 4 0 0 90 [(0, .ref (adr C 35)), (2, .int v2), (3, .int v3)] [] σ) (v3 : Int32) (s0 : Int32) (s1 : Int32) (σ : Mem) (hf : fX3_solve_127 r90 v3 s0 s1 σ = some r) : G C 4 0 0 127 [(0, .ref (adr C 35)), (3, .int v3)] [.int s0, .int s1] σ := by
  unfold fX3_solve_127 at hf
  refine g_iadd X dX3_solve_127 ?_
  refine s_istore_n (M := fun x1 => [(2, .int x1), (0, .ref (adr C 35)), (3, .int v3)]) X dX3_solve_128 rfl (by decide) (fun _ => rfl) hf (fun x1 hf => ?_)
  refine g_iinc (v := (v3 + 1)) (L' := [(3, .int (v3 + 1)), (2, .int x1), (0, .ref (adr C 35))]) X dX3_solve_129 2 rfl rfl (by decide) rfl ?_
  refine g_goto (tgt := 90) X dX3_solve_132 (by decide) ?_
  refine g_sub [2, 1, 0] (L' := [(0, .ref (adr C 35)), (2, .int x1), (3, .int (v3 + 1))]) rfl ?_
  exact ih90 x1 (v3 + 1) σ hf
def fX3_solve_90b (r90 : Int32 → Int32 → Mem → Option (Int32 × Mem)) (v2 : Int32) (v3 : Int32) (σ : Mem) : Option (Int32 × Mem) :=
  if (25 : Int32) ≤ v3 then (some (v2, σ))
  else (grd (inb v3 25) (if (rI σ 46 (ix v3)) ≤ 0 then (fX3_solve_127 r90 v3 (0 : Int32) v2 σ)
  else (grd (inb v3 25) (bnd (fX3_unitOf (v3 / (5 : Int32)) (v3 - v3 / (5 : Int32) * (5 : Int32)) σ) fun u1 σ2 =>
  fX3_solve_127 r90 v3 ((rI σ 46 (ix v3)) * u1) v2 σ2))))
def fX3_solve_90 : Nat → Int32 → Int32 → Mem → Option (Int32 × Mem)
  | 0 => fun _ _ _ => none
  | n + 1 => fX3_solve_90b (fX3_solve_90 n)
set_option maxHeartbeats 4000000 in
set_option maxRecDepth 100000 in
theorem tX3_solve_90b {C : Ctx} (X : CX C cX3_solve 4 RX3 wsX3_solve rmX3_solve (some .int)) {r : Int32 × Mem} (hq : QI C r) (r90 : Int32 → Int32 → Mem → Option (Int32 × Mem)) (ih90 : ∀ (v2 : Int32) (v3 : Int32) (σ : Mem), r90 v2 v3 σ = some r → G C 4 0 0 90 [(0, .ref (adr C 35)), (2, .int v2), (3, .int v3)] [] σ) (v2 : Int32) (v3 : Int32) (σ : Mem) (hf : fX3_solve_90b r90 v2 v3 σ = some r) : G C 4 0 0 90 [(0, .ref (adr C 35)), (2, .int v2), (3, .int v3)] [] σ := by
  unfold fX3_solve_90b at hf
  refine g_iload_n X dX3_solve_90 2 rfl rfl ?_
  refine g_bipush (v := (25 : Int32)) X dX3_solve_91 (by decide) ?_
  refine g_icmp_ge (tgt := 135) X dX3_solve_93 (by decide) hf (fun hf => ?_) (fun hf => ?_)
  · refine g_iload_n X dX3_solve_135 1 rfl rfl ?_
    exact r_iret X hq dX3_solve_136 hf
  · refine g_iload_n X dX3_solve_96 1 rfl rfl ?_
    refine g_aload_n X dX3_solve_97 0 rfl rfl ?_
    refine g_get (q := 35) (kf := 17) (v := .ref (adr C 46)) X obj_m rfl infX3_solve_X3 (by decide) (by decide +kernel) rfl dX3_solve_98 ?_
    refine g_iload_n X dX3_solve_101 2 rfl rfl ?_
    refine g_iald (q := 46) (n := 25) X rfl rfl dX3_solve_102 hf (fun hf => ?_)
    refine g_if_le (tgt := 126) X dX3_solve_103 (by decide) hf (fun hf => ?_) (fun hf => ?_)
    · refine g_iconst (v := (0 : Int32)) X dX3_solve_126 (by decide) ?_
      refine g_sub [0, 2] (L' := [(0, .ref (adr C 35)), (3, .int v3)]) rfl ?_
      exact tX3_solve_127 X hq r90 ih90 v3 (0 : Int32) v2 σ hf
    · refine g_aload_n X dX3_solve_106 0 rfl rfl ?_
      refine g_get (q := 35) (kf := 17) (v := .ref (adr C 46)) X obj_m rfl infX3_solve_X3 (by decide) (by decide +kernel) rfl dX3_solve_107 ?_
      refine g_iload_n X dX3_solve_110 2 rfl rfl ?_
      refine g_iald (q := 46) (n := 25) X rfl rfl dX3_solve_111 hf (fun hf => ?_)
      refine g_aload_n X dX3_solve_112 0 rfl rfl ?_
      refine g_iload_n X dX3_solve_113 2 rfl rfl ?_
      refine g_iconst (v := (5 : Int32)) X dX3_solve_114 (by decide) ?_
      refine g_idivC X dX3_solve_115 (by decide) ?_
      refine g_iload_n X dX3_solve_116 2 rfl rfl ?_
      refine g_iconst (v := (5 : Int32)) X dX3_solve_117 (by decide) ?_
      refine g_iremC X dX3_solve_118 (by decide) ?_
      refine c_VI (q := 35) (vs := [.int (v3 / (5 : Int32)), .int (v3 - v3 / (5 : Int32) * (5 : Int32))]) (rest := [.int (rI σ 46 (ix v3)), .int v2]) X (kX3_unitOf (cL C) (v3 / (5 : Int32)) (v3 - v3 / (5 : Int32) * (5 : Int32)) σ) (fun s a hts => cwV 2 hts gX3_solve_X3_unitOf rfl rfl rfl (by decide +kernel) ⟨Nat.le_of_ble_eq_true rfl, Nat.le_of_ble_eq_true rfl⟩) obj_m (rfl : vwCl[3]? = some (RX3, TX3, 21)) rfl rfl rfl rfl (Nat.le_of_ble_eq_true rfl) dX3_solve_119 ⟨Nat.le_of_ble_eq_true rfl, Nat.le_of_ble_eq_true rfl⟩ hf (fun u1 σ2 hf => ?_)
      refine g_imul X dX3_solve_122 ?_
      refine g_goto (tgt := 127) X dX3_solve_123 (by decide) ?_
      refine g_sub [0, 2] (L' := [(0, .ref (adr C 35)), (3, .int v3)]) rfl ?_
      exact tX3_solve_127 X hq r90 ih90 v3 ((rI σ 46 (ix v3)) * u1) v2 σ2 hf
set_option maxHeartbeats 4000000 in
set_option maxRecDepth 100000 in
theorem tX3_solve_90 {C : Ctx} (X : CX C cX3_solve 4 RX3 wsX3_solve rmX3_solve (some .int)) {r : Int32 × Mem} (hq : QI C r) : ∀ (n : Nat) (v2 : Int32) (v3 : Int32) (σ : Mem) (hf : fX3_solve_90 n v2 v3 σ = some r), G C 4 0 0 90 [(0, .ref (adr C 35)), (2, .int v2), (3, .int v3)] [] σ := by
  intro n
  induction n with
  | zero => intros; rename_i hf; exact absurd (show (none : Option (Int32 × Mem)) = some r from hf) (by simp)
  | succ n ih =>
    intro v2 v3 σ hf
    exact tX3_solve_90b X hq (fX3_solve_90 n) (fun v2 v3 σ hf => ih v2 v3 σ hf) v2 v3 σ hf
def fX3_solve_39b (r39 : Int32 → Int32 → Mem → Option (Int32 × Mem)) (v2 : Int32) (v3 : Int32) (σ : Mem) : Option (Int32 × Mem) :=
  if (5 : Int32) ≤ v3 then (fX3_solve_90 FU v2 (0 : Int32) σ)
  else (grd (inb v3 5) (bnd (fX3_given v3 σ) fun u1 σ2 =>
  grd (inb v3 5) (bnd (fX3_got v3 σ2) fun u3 σ4 =>
  ltI (v2 + (((rI σ 35 12) * ((rI σ 43 (ix v3)) - u1)) + ((rI σ2 35 13) * ((rI σ2 44 (ix v3)) - u3)))) fun x5 =>
  r39 x5 (v3 + 1) σ4)))
def fX3_solve_39 : Nat → Int32 → Int32 → Mem → Option (Int32 × Mem)
  | 0 => fun _ _ _ => none
  | n + 1 => fX3_solve_39b (fX3_solve_39 n)
set_option maxHeartbeats 4000000 in
set_option maxRecDepth 100000 in
theorem tX3_solve_39b {C : Ctx} (X : CX C cX3_solve 4 RX3 wsX3_solve rmX3_solve (some .int)) {r : Int32 × Mem} (hq : QI C r) (r39 : Int32 → Int32 → Mem → Option (Int32 × Mem)) (ih39 : ∀ (v2 : Int32) (v3 : Int32) (σ : Mem), r39 v2 v3 σ = some r → G C 4 0 0 39 [(0, .ref (adr C 35)), (2, .int v2), (3, .int v3)] [] σ) (v2 : Int32) (v3 : Int32) (σ : Mem) (hf : fX3_solve_39b r39 v2 v3 σ = some r) : G C 4 0 0 39 [(0, .ref (adr C 35)), (2, .int v2), (3, .int v3)] [] σ := by
  unfold fX3_solve_39b at hf
  refine g_iload_n X dX3_solve_39 2 rfl rfl ?_
  refine g_iconst (v := (5 : Int32)) X dX3_solve_40 (by decide) ?_
  refine g_icmp_ge (tgt := 88) X dX3_solve_41 (by decide) hf (fun hf => ?_) (fun hf => ?_)
  · refine g_iconst (v := (0 : Int32)) X dX3_solve_88 (by decide) ?_
    refine g_istore_n (L' := [(3, .int (0 : Int32)), (0, .ref (adr C 35)), (2, .int v2)]) X dX3_solve_89 rfl (by decide) rfl ?_
    refine g_sub [1, 2, 0] (L' := [(0, .ref (adr C 35)), (2, .int v2), (3, .int (0 : Int32))]) rfl ?_
    exact tX3_solve_90 X hq FU v2 (0 : Int32) σ hf
  · refine g_iload_n X dX3_solve_44 1 rfl rfl ?_
    refine g_aload_n X dX3_solve_45 0 rfl rfl ?_
    refine g_get (q := 35) (kf := 12) (v := .int (rI σ 35 12)) X obj_m rfl infX3_solve_X3 (by decide) (by decide +kernel) rfl dX3_solve_46 ?_
    refine g_aload_n X dX3_solve_49 0 rfl rfl ?_
    refine g_get (q := 35) (kf := 14) (v := .ref (adr C 43)) X obj_m rfl infX3_solve_X3 (by decide) (by decide +kernel) rfl dX3_solve_50 ?_
    refine g_iload_n X dX3_solve_53 2 rfl rfl ?_
    refine g_iald (q := 43) (n := 5) X rfl rfl dX3_solve_54 hf (fun hf => ?_)
    refine g_aload_n X dX3_solve_55 0 rfl rfl ?_
    refine g_iload_n X dX3_solve_56 2 rfl rfl ?_
    refine c_VI (q := 35) (vs := [.int v3]) (rest := [.int (rI σ 43 (ix v3)), .int (rI σ 35 12), .int v2]) X (kX3_given (cL C) v3 σ) (fun s a hts => cwV 1 hts gX3_solve_X3_given rfl rfl rfl (by decide +kernel) ⟨Nat.le_of_ble_eq_true rfl, Nat.le_of_ble_eq_true rfl⟩) obj_m (rfl : vwCl[3]? = some (RX3, TX3, 21)) rfl rfl rfl rfl (Nat.le_of_ble_eq_true rfl) dX3_solve_57 ⟨Nat.le_of_ble_eq_true rfl, Nat.le_of_ble_eq_true rfl⟩ hf (fun u1 σ2 hf => ?_)
    refine g_isub X dX3_solve_60 ?_
    refine g_imul X dX3_solve_61 ?_
    refine g_aload_n X dX3_solve_62 0 rfl rfl ?_
    refine g_get (q := 35) (kf := 13) (v := .int (rI σ2 35 13)) X obj_m rfl infX3_solve_X3 (by decide) (by decide +kernel) rfl dX3_solve_63 ?_
    refine g_aload_n X dX3_solve_66 0 rfl rfl ?_
    refine g_get (q := 35) (kf := 15) (v := .ref (adr C 44)) X obj_m rfl infX3_solve_X3 (by decide) (by decide +kernel) rfl dX3_solve_67 ?_
    refine g_iload_n X dX3_solve_70 2 rfl rfl ?_
    refine g_iald (q := 44) (n := 5) X rfl rfl dX3_solve_71 hf (fun hf => ?_)
    refine g_aload_n X dX3_solve_72 0 rfl rfl ?_
    refine g_iload_n X dX3_solve_73 2 rfl rfl ?_
    refine c_VI (q := 35) (vs := [.int v3]) (rest := [.int (rI σ2 44 (ix v3)), .int (rI σ2 35 13), .int ((rI σ 35 12) * ((rI σ 43 (ix v3)) - u1)), .int v2]) X (kX3_got (cL C) v3 σ2) (fun s a hts => cwV 1 hts gX3_solve_X3_got rfl rfl rfl (by decide +kernel) ⟨Nat.le_of_ble_eq_true rfl, Nat.le_of_ble_eq_true rfl⟩) obj_m (rfl : vwCl[3]? = some (RX3, TX3, 21)) rfl rfl rfl rfl (Nat.le_of_ble_eq_true rfl) dX3_solve_74 ⟨Nat.le_of_ble_eq_true rfl, Nat.le_of_ble_eq_true rfl⟩ hf (fun u3 σ4 hf => ?_)
    refine g_isub X dX3_solve_77 ?_
    refine g_imul X dX3_solve_78 ?_
    refine g_iadd X dX3_solve_79 ?_
    refine g_iadd X dX3_solve_80 ?_
    refine s_istore_n (M := fun x5 => [(2, .int x5), (0, .ref (adr C 35)), (3, .int v3)]) X dX3_solve_81 rfl (by decide) (fun _ => rfl) hf (fun x5 hf => ?_)
    refine g_iinc (v := (v3 + 1)) (L' := [(3, .int (v3 + 1)), (2, .int x5), (0, .ref (adr C 35))]) X dX3_solve_82 2 rfl rfl (by decide) rfl ?_
    refine g_goto (tgt := 39) X dX3_solve_85 (by decide) ?_
    refine g_sub [2, 1, 0] (L' := [(0, .ref (adr C 35)), (2, .int x5), (3, .int (v3 + 1))]) rfl ?_
    exact ih39 x5 (v3 + 1) σ4 hf
set_option maxHeartbeats 4000000 in
set_option maxRecDepth 100000 in
theorem tX3_solve_39 {C : Ctx} (X : CX C cX3_solve 4 RX3 wsX3_solve rmX3_solve (some .int)) {r : Int32 × Mem} (hq : QI C r) : ∀ (n : Nat) (v2 : Int32) (v3 : Int32) (σ : Mem) (hf : fX3_solve_39 n v2 v3 σ = some r), G C 4 0 0 39 [(0, .ref (adr C 35)), (2, .int v2), (3, .int v3)] [] σ := by
  intro n
  induction n with
  | zero => intros; rename_i hf; exact absurd (show (none : Option (Int32 × Mem)) = some r from hf) (by simp)
  | succ n ih =>
    intro v2 v3 σ hf
    exact tX3_solve_39b X hq (fX3_solve_39 n) (fun v2 v3 σ hf => ih v2 v3 σ hf) v2 v3 σ hf
def fX3_solve_23b (r23 : Int32 → Mem → Option (Int32 × Mem)) (v1 : Int32) (σ : Mem) : Option (Int32 × Mem) :=
  if v1 = 0 then (fX3_solve_39 FU (0 : Int32) (0 : Int32) σ)
  else (bnd (fX3_carryOne σ) fun u1 σ2 =>
  r23 u1 σ2)
def fX3_solve_23 : Nat → Int32 → Mem → Option (Int32 × Mem)
  | 0 => fun _ _ => none
  | n + 1 => fX3_solve_23b (fX3_solve_23 n)
set_option maxHeartbeats 4000000 in
set_option maxRecDepth 100000 in
theorem tX3_solve_23b {C : Ctx} (X : CX C cX3_solve 4 RX3 wsX3_solve rmX3_solve (some .int)) {r : Int32 × Mem} (hq : QI C r) (r23 : Int32 → Mem → Option (Int32 × Mem)) (ih23 : ∀ (v1 : Int32) (σ : Mem), r23 v1 σ = some r → G C 4 0 0 23 [(0, .ref (adr C 35)), (1, .int v1)] [] σ) (v1 : Int32) (σ : Mem) (hf : fX3_solve_23b r23 v1 σ = some r) : G C 4 0 0 23 [(0, .ref (adr C 35)), (1, .int v1)] [] σ := by
  unfold fX3_solve_23b at hf
  refine g_iload_n X dX3_solve_23 1 rfl rfl ?_
  refine g_if_eq (tgt := 35) X dX3_solve_24 (by decide) hf (fun hf => ?_) (fun hf => ?_)
  · refine g_iconst (v := (0 : Int32)) X dX3_solve_35 (by decide) ?_
    refine g_istore_n (L' := [(2, .int (0 : Int32)), (0, .ref (adr C 35)), (1, .int v1)]) X dX3_solve_36 rfl (by decide) rfl ?_
    refine g_iconst (v := (0 : Int32)) X dX3_solve_37 (by decide) ?_
    refine g_istore_n (L' := [(3, .int (0 : Int32)), (2, .int (0 : Int32)), (0, .ref (adr C 35)), (1, .int v1)]) X dX3_solve_38 rfl (by decide) rfl ?_
    refine g_sub [2, 1, 0] (L' := [(0, .ref (adr C 35)), (2, .int (0 : Int32)), (3, .int (0 : Int32))]) rfl ?_
    exact tX3_solve_39 X hq FU (0 : Int32) (0 : Int32) σ hf
  · refine g_aload_n X dX3_solve_27 0 rfl rfl ?_
    refine c_VI (q := 35) (vs := []) (rest := []) X (kX3_carryOne (cL C) σ) (fun s a hts => cwV 0 hts gX3_solve_X3_carryOne rfl rfl rfl (by decide +kernel) ⟨Nat.le_of_ble_eq_true rfl, Nat.le_of_ble_eq_true rfl⟩) obj_m (rfl : vwCl[3]? = some (RX3, TX3, 21)) rfl rfl rfl rfl (Nat.le_of_ble_eq_true rfl) dX3_solve_28 ⟨Nat.le_of_ble_eq_true rfl, Nat.le_of_ble_eq_true rfl⟩ hf (fun u1 σ2 hf => ?_)
    refine g_istore_n (L' := [(1, .int u1), (0, .ref (adr C 35))]) X dX3_solve_31 rfl (by decide) rfl ?_
    refine g_goto (tgt := 23) X dX3_solve_32 (by decide) ?_
    refine g_sub [1, 0] (L' := [(0, .ref (adr C 35)), (1, .int u1)]) rfl ?_
    exact ih23 u1 σ2 hf
set_option maxHeartbeats 4000000 in
set_option maxRecDepth 100000 in
theorem tX3_solve_23 {C : Ctx} (X : CX C cX3_solve 4 RX3 wsX3_solve rmX3_solve (some .int)) {r : Int32 × Mem} (hq : QI C r) : ∀ (n : Nat) (v1 : Int32) (σ : Mem) (hf : fX3_solve_23 n v1 σ = some r), G C 4 0 0 23 [(0, .ref (adr C 35)), (1, .int v1)] [] σ := by
  intro n
  induction n with
  | zero => intros; rename_i hf; exact absurd (show (none : Option (Int32 × Mem)) = some r from hf) (by simp)
  | succ n ih =>
    intro v1 σ hf
    exact tX3_solve_23b X hq (fX3_solve_23 n) (fun v1 σ hf => ih v1 σ hf) v1 σ hf
def fX3_solve_2b (r2 : Int32 → Mem → Option (Int32 × Mem)) (v1 : Int32) (σ : Mem) : Option (Int32 × Mem) :=
  if (25 : Int32) ≤ v1 then (fX3_solve_23 FU (1 : Int32) σ)
  else (grd (inb v1 25) (ltM (wI σ 46 (ix v1) (0 : Int32)) fun σ1 =>
  r2 (v1 + 1) σ1))
def fX3_solve_2 : Nat → Int32 → Mem → Option (Int32 × Mem)
  | 0 => fun _ _ => none
  | n + 1 => fX3_solve_2b (fX3_solve_2 n)
set_option maxHeartbeats 4000000 in
set_option maxRecDepth 100000 in
theorem tX3_solve_2b {C : Ctx} (X : CX C cX3_solve 4 RX3 wsX3_solve rmX3_solve (some .int)) {r : Int32 × Mem} (hq : QI C r) (r2 : Int32 → Mem → Option (Int32 × Mem)) (ih2 : ∀ (v1 : Int32) (σ : Mem), r2 v1 σ = some r → G C 4 0 0 2 [(0, .ref (adr C 35)), (1, .int v1)] [] σ) (v1 : Int32) (σ : Mem) (hf : fX3_solve_2b r2 v1 σ = some r) : G C 4 0 0 2 [(0, .ref (adr C 35)), (1, .int v1)] [] σ := by
  unfold fX3_solve_2b at hf
  refine g_iload_n X dX3_solve_2 1 rfl rfl ?_
  refine g_bipush (v := (25 : Int32)) X dX3_solve_3 (by decide) ?_
  refine g_icmp_ge (tgt := 21) X dX3_solve_5 (by decide) hf (fun hf => ?_) (fun hf => ?_)
  · refine g_iconst (v := (1 : Int32)) X dX3_solve_21 (by decide) ?_
    refine g_istore_n (L' := [(1, .int (1 : Int32)), (0, .ref (adr C 35))]) X dX3_solve_22 rfl (by decide) rfl ?_
    refine g_sub [1, 0] (L' := [(0, .ref (adr C 35)), (1, .int (1 : Int32))]) rfl ?_
    exact tX3_solve_23 X hq FU (1 : Int32) σ hf
  · refine g_aload_n X dX3_solve_8 0 rfl rfl ?_
    refine g_get (q := 35) (kf := 17) (v := .ref (adr C 46)) X obj_m rfl infX3_solve_X3 (by decide) (by decide +kernel) rfl dX3_solve_9 ?_
    refine g_iload_n X dX3_solve_12 1 rfl rfl ?_
    refine g_iconst (v := (0 : Int32)) X dX3_solve_13 (by decide) ?_
    refine s_iast (q := 46) (n := 25) X rfl rfl dX3_solve_14 hf (fun σ1 hf => ?_)
    refine g_iinc (v := (v1 + 1)) (L' := [(1, .int (v1 + 1)), (0, .ref (adr C 35))]) X dX3_solve_15 1 rfl rfl (by decide) rfl ?_
    refine g_goto (tgt := 2) X dX3_solve_18 (by decide) ?_
    refine g_sub [1, 0] (L' := [(0, .ref (adr C 35)), (1, .int (v1 + 1))]) rfl ?_
    exact ih2 (v1 + 1) σ1 hf
set_option maxHeartbeats 4000000 in
set_option maxRecDepth 100000 in
theorem tX3_solve_2 {C : Ctx} (X : CX C cX3_solve 4 RX3 wsX3_solve rmX3_solve (some .int)) {r : Int32 × Mem} (hq : QI C r) : ∀ (n : Nat) (v1 : Int32) (σ : Mem) (hf : fX3_solve_2 n v1 σ = some r), G C 4 0 0 2 [(0, .ref (adr C 35)), (1, .int v1)] [] σ := by
  intro n
  induction n with
  | zero => intros; rename_i hf; exact absurd (show (none : Option (Int32 × Mem)) = some r from hf) (by simp)
  | succ n ih =>
    intro v1 σ hf
    exact tX3_solve_2b X hq (fX3_solve_2 n) (fun v1 σ hf => ih v1 σ hf) v1 σ hf
def fX3_solve_e (σ : Mem) : Option (Int32 × Mem) :=
  fX3_solve_2 FU (0 : Int32) σ
set_option maxHeartbeats 4000000 in
set_option maxRecDepth 100000 in
theorem tX3_solve_e {C : Ctx} (X : CX C cX3_solve 4 RX3 wsX3_solve rmX3_solve (some .int)) {r : Int32 × Mem} (hq : QI C r) (σ : Mem) (hf : fX3_solve_e σ = some r) : G C 4 0 0 0 [(0, .ref (adr C 35))] [] σ := by
  unfold fX3_solve_e at hf
  refine g_iconst (v := (0 : Int32)) X dX3_solve_0 (by decide) ?_
  refine g_istore_n (L' := [(1, .int (0 : Int32)), (0, .ref (adr C 35))]) X dX3_solve_1 rfl (by decide) rfl ?_
  refine g_sub [1, 0] (L' := [(0, .ref (adr C 35)), (1, .int (0 : Int32))]) rfl ?_
  exact tX3_solve_2 X hq FU (0 : Int32) σ hf
def fX3_solve (σ : Mem) : Option (Int32 × Mem) := fX3_solve_e σ
theorem kX3_solve (l : Launch) (σ : Mem) : KI l yX3_solve wsX3_solve rmX3_solve (fun ad => [.ref (ad 35)]) σ (fX3_solve σ) := fun r hr => kt_of (by decide +kernel) rfl (fun _ => Nat.le_of_ble_eq_true rfl) (fun C X hne hq => tX3_solve_e X hq σ hr)
/-! ### X3_leastOf -/
abbrev rmX3_leastOf : Room := { frames := 7, cells := 0, slots := 0, locals := 166 }
def fX3_leastOf_e (σ : Mem) : Option (Int32 × Mem) :=
  bnd (fX3_layOut σ) fun u1 σ2 =>
  bnd (fX3_solve σ2) fun u3 σ4 =>
  some (u3, σ4)
set_option maxHeartbeats 4000000 in
set_option maxRecDepth 100000 in
theorem tX3_leastOf_e {C : Ctx} (X : CX C cX3_leastOf 1 RX3 wsX3_leastOf rmX3_leastOf (some .int)) {r : Int32 × Mem} (hq : QI C r) (σ : Mem) (hf : fX3_leastOf_e σ = some r) : G C 1 0 0 0 [(0, .ref (adr C 35))] [] σ := by
  unfold fX3_leastOf_e at hf
  refine g_aload_n X dX3_leastOf_0 0 rfl rfl ?_
  refine c_VV (q := 35) (vs := []) (rest := []) X (kX3_layOut (cL C) σ) (fun s a hts => cwV 0 hts gX3_leastOf_X3_layOut rfl rfl rfl (by decide +kernel) ⟨Nat.le_of_ble_eq_true rfl, Nat.le_of_ble_eq_true rfl⟩) obj_m (rfl : vwCl[3]? = some (RX3, TX3, 21)) rfl rfl rfl rfl (Nat.le_of_ble_eq_true rfl) dX3_leastOf_1 ⟨Nat.le_of_ble_eq_true rfl, Nat.le_of_ble_eq_true rfl⟩ hf (fun u1 σ2 hf => ?_)
  refine g_aload_n X dX3_leastOf_4 0 rfl rfl ?_
  refine c_VI (q := 35) (vs := []) (rest := []) X (kX3_solve (cL C) σ2) (fun s a hts => cwV 0 hts gX3_leastOf_X3_solve rfl rfl rfl (by decide +kernel) ⟨Nat.le_of_ble_eq_true rfl, Nat.le_of_ble_eq_true rfl⟩) obj_m (rfl : vwCl[3]? = some (RX3, TX3, 21)) rfl rfl rfl rfl (Nat.le_of_ble_eq_true rfl) dX3_leastOf_5 ⟨Nat.le_of_ble_eq_true rfl, Nat.le_of_ble_eq_true rfl⟩ hf (fun u3 σ4 hf => ?_)
  exact r_iret X hq dX3_leastOf_8 hf
def fX3_leastOf (σ : Mem) : Option (Int32 × Mem) := fX3_leastOf_e σ
theorem kX3_leastOf (l : Launch) (σ : Mem) : KI l yX3_leastOf wsX3_leastOf rmX3_leastOf (fun ad => [.ref (ad 35)]) σ (fX3_leastOf σ) := fun r hr => kt_of (by decide +kernel) rfl (fun _ => Nat.le_of_ble_eq_true rfl) (fun C X hne hq => tX3_leastOf_e X hq σ hr)
/-! ### X3_least -/
abbrev rmX3_least : Room := { frames := 8, cells := 0, slots := 0, locals := 186 }
theorem infX3_least_X3 : ∀ w ∈ u_ws RX3 TX3 21, w ∈ wsX3_least := by decide +kernel
def fX3_least_e (σ : Mem) : Option (Int32 × Mem) :=
  ltM (wI σ 35 0 (0 : Int32)) fun σ1 =>
  bnd (fX3_leastOf σ1) fun u2 σ3 =>
  some (u2, σ3)
set_option maxHeartbeats 4000000 in
set_option maxRecDepth 100000 in
theorem tX3_least_e {C : Ctx} (X : CX C cX3_least 1 RX3 wsX3_least rmX3_least (some .int)) {r : Int32 × Mem} (hq : QI C r) (σ : Mem) (hf : fX3_least_e σ = some r) : G C 1 0 0 0 [(0, .ref (adr C 35))] [] σ := by
  unfold fX3_least_e at hf
  refine g_aload_n X dX3_least_0 0 rfl rfl ?_
  refine g_iconst (v := (0 : Int32)) X dX3_least_1 (by decide) ?_
  refine s_put (q := 35) (kf := 0) X obj_m rfl infX3_least_X3 tyX3_ok nmX3 (by decide) (by decide +kernel) rfl rfl rfl rfl (fun _ _ => rfl) (fun _ _ => Nat.le_of_ble_eq_true rfl) dX3_least_2 hf (fun σ1 hf => ?_)
  refine g_aload_n X dX3_least_5 0 rfl rfl ?_
  refine c_VI (q := 35) (vs := []) (rest := []) X (kX3_leastOf (cL C) σ1) (fun s a hts => cwV 0 hts gX3_least_X3_leastOf rfl rfl rfl (by decide +kernel) ⟨Nat.le_of_ble_eq_true rfl, Nat.le_of_ble_eq_true rfl⟩) obj_m (rfl : vwCl[3]? = some (RX3, TX3, 21)) rfl rfl rfl rfl (Nat.le_of_ble_eq_true rfl) dX3_least_6 ⟨Nat.le_of_ble_eq_true rfl, Nat.le_of_ble_eq_true rfl⟩ hf (fun u2 σ3 hf => ?_)
  exact r_iret X hq dX3_least_9 hf
def fX3_least (σ : Mem) : Option (Int32 × Mem) := fX3_least_e σ
theorem kX3_least (l : Launch) (σ : Mem) : KI l yX3_least wsX3_least rmX3_least (fun ad => [.ref (ad 35)]) σ (fX3_least σ) := fun r hr => kt_of (by decide +kernel) rfl (fun _ => Nat.le_of_ble_eq_true rfl) (fun C X hne hq => tX3_least_e X hq σ hr)
/-! ### X3_withFixed -/
abbrev rmX3_withFixed : Room := { frames := 7, cells := 0, slots := 0, locals := 166 }
theorem infX3_withFixed_X3 : ∀ w ∈ u_ws RX3 TX3 21, w ∈ wsX3_withFixed := by decide +kernel
def fX3_withFixed_e (v1 : Int32) (v2 : Int32) (σ : Mem) : Option (Int32 × Mem) :=
  ltI (v1 / (5 : Int32)) fun x1 =>
  ltI (v1 - v1 / (5 : Int32) * (5 : Int32)) fun x2 =>
  grd (inb x1 5) (grd (inb x1 5) (ltM (wI σ 43 (ix x1) ((rI σ 43 (ix x1)) - v2)) fun σ3 =>
  grd (inb x2 5) (grd (inb x2 5) (ltM (wI σ3 44 (ix x2) ((rI σ3 44 (ix x2)) - v2)) fun σ4 =>
  grd (inb v1 25) (ltI (rI σ4 45 (ix v1)) fun x5 =>
  grd (inb v1 25) (ltM (wI σ4 45 (ix v1) (0 : Int32)) fun σ6 =>
  bnd (fX3_solve σ6) fun u7 σ8 =>
  bnd (fX3_unitOf x1 x2 σ8) fun u9 σ10 =>
  ltI (u7 + (v2 * u9)) fun x11 =>
  grd (inb v1 25) (ltM (wI σ10 45 (ix v1) x5) fun σ12 =>
  grd (inb x1 5) (grd (inb x1 5) (ltM (wI σ12 43 (ix x1) ((rI σ12 43 (ix x1)) + v2)) fun σ13 =>
  grd (inb x2 5) (grd (inb x2 5) (ltM (wI σ13 44 (ix x2) ((rI σ13 44 (ix x2)) + v2)) fun σ14 =>
  some (x11, σ14))))))))))))
set_option maxHeartbeats 4000000 in
set_option maxRecDepth 100000 in
theorem tX3_withFixed_e {C : Ctx} (X : CX C cX3_withFixed 7 RX3 wsX3_withFixed rmX3_withFixed (some .int)) {r : Int32 × Mem} (hq : QI C r) (v1 : Int32) (v2 : Int32) (σ : Mem) (hf : fX3_withFixed_e v1 v2 σ = some r) : G C 7 0 0 0 [(0, .ref (adr C 35)), (1, .int v1), (2, .int v2)] [] σ := by
  unfold fX3_withFixed_e at hf
  refine g_iload_n X dX3_withFixed_0 1 rfl rfl ?_
  refine g_iconst (v := (5 : Int32)) X dX3_withFixed_1 (by decide) ?_
  refine g_idivC X dX3_withFixed_2 (by decide) ?_
  refine s_istore_n (M := fun x1 => [(3, .int x1), (0, .ref (adr C 35)), (1, .int v1), (2, .int v2)]) X dX3_withFixed_3 rfl (by decide) (fun _ => rfl) hf (fun x1 hf => ?_)
  refine g_iload_n X dX3_withFixed_4 2 rfl rfl ?_
  refine g_iconst (v := (5 : Int32)) X dX3_withFixed_5 (by decide) ?_
  refine g_iremC X dX3_withFixed_6 (by decide) ?_
  refine s_istore (M := fun x2 => [(4, .int x2), (3, .int x1), (0, .ref (adr C 35)), (1, .int v1), (2, .int v2)]) X dX3_withFixed_7 (by decide) (fun _ => rfl) hf (fun x2 hf => ?_)
  refine g_aload_n X dX3_withFixed_9 2 rfl rfl ?_
  refine g_get (q := 35) (kf := 14) (v := .ref (adr C 43)) X obj_m rfl infX3_withFixed_X3 (by decide) (by decide +kernel) rfl dX3_withFixed_10 ?_
  refine g_iload_n X dX3_withFixed_13 1 rfl rfl ?_
  refine g_dup2 X dX3_withFixed_14 rfl rfl ?_
  refine g_iald (q := 43) (n := 5) X rfl rfl dX3_withFixed_15 hf (fun hf => ?_)
  refine g_iload_n X dX3_withFixed_16 4 rfl rfl ?_
  refine g_isub X dX3_withFixed_17 ?_
  refine s_iast (q := 43) (n := 5) X rfl rfl dX3_withFixed_18 hf (fun σ3 hf => ?_)
  refine g_aload_n X dX3_withFixed_19 2 rfl rfl ?_
  refine g_get (q := 35) (kf := 15) (v := .ref (adr C 44)) X obj_m rfl infX3_withFixed_X3 (by decide) (by decide +kernel) rfl dX3_withFixed_20 ?_
  refine g_iload X dX3_withFixed_23 0 rfl ?_
  refine g_dup2 X dX3_withFixed_25 rfl rfl ?_
  refine g_iald (q := 44) (n := 5) X rfl rfl dX3_withFixed_26 hf (fun hf => ?_)
  refine g_iload_n X dX3_withFixed_27 4 rfl rfl ?_
  refine g_isub X dX3_withFixed_28 ?_
  refine s_iast (q := 44) (n := 5) X rfl rfl dX3_withFixed_29 hf (fun σ4 hf => ?_)
  refine g_aload_n X dX3_withFixed_30 2 rfl rfl ?_
  refine g_get (q := 35) (kf := 16) (v := .ref (adr C 45)) X obj_m rfl infX3_withFixed_X3 (by decide) (by decide +kernel) rfl dX3_withFixed_31 ?_
  refine g_iload_n X dX3_withFixed_34 3 rfl rfl ?_
  refine g_iald (q := 45) (n := 25) X rfl rfl dX3_withFixed_35 hf (fun hf => ?_)
  refine s_istore (M := fun x5 => [(5, .int x5), (4, .int x2), (3, .int x1), (0, .ref (adr C 35)), (1, .int v1), (2, .int v2)]) X dX3_withFixed_36 (by decide) (fun _ => rfl) hf (fun x5 hf => ?_)
  refine g_aload_n X dX3_withFixed_38 3 rfl rfl ?_
  refine g_get (q := 35) (kf := 16) (v := .ref (adr C 45)) X obj_m rfl infX3_withFixed_X3 (by decide) (by decide +kernel) rfl dX3_withFixed_39 ?_
  refine g_iload_n X dX3_withFixed_42 4 rfl rfl ?_
  refine g_iconst (v := (0 : Int32)) X dX3_withFixed_43 (by decide) ?_
  refine s_iast (q := 45) (n := 25) X rfl rfl dX3_withFixed_44 hf (fun σ6 hf => ?_)
  refine g_aload_n X dX3_withFixed_45 3 rfl rfl ?_
  refine c_VI (q := 35) (vs := []) (rest := []) X (kX3_solve (cL C) σ6) (fun s a hts => cwV 0 hts gX3_withFixed_X3_solve rfl rfl rfl (by decide +kernel) ⟨Nat.le_of_ble_eq_true rfl, Nat.le_of_ble_eq_true rfl⟩) obj_m (rfl : vwCl[3]? = some (RX3, TX3, 21)) rfl rfl rfl rfl (Nat.le_of_ble_eq_true rfl) dX3_withFixed_46 ⟨Nat.le_of_ble_eq_true rfl, Nat.le_of_ble_eq_true rfl⟩ hf (fun u7 σ8 hf => ?_)
  refine g_iload_n X dX3_withFixed_49 5 rfl rfl ?_
  refine g_aload_n X dX3_withFixed_50 3 rfl rfl ?_
  refine g_iload_n X dX3_withFixed_51 2 rfl rfl ?_
  refine g_iload X dX3_withFixed_52 1 rfl ?_
  refine c_VI (q := 35) (vs := [.int x1, .int x2]) (rest := [.int v2, .int u7]) X (kX3_unitOf (cL C) x1 x2 σ8) (fun s a hts => cwV 2 hts gX3_withFixed_X3_unitOf rfl rfl rfl (by decide +kernel) ⟨Nat.le_of_ble_eq_true rfl, Nat.le_of_ble_eq_true rfl⟩) obj_m (rfl : vwCl[3]? = some (RX3, TX3, 21)) rfl rfl rfl rfl (Nat.le_of_ble_eq_true rfl) dX3_withFixed_54 ⟨Nat.le_of_ble_eq_true rfl, Nat.le_of_ble_eq_true rfl⟩ hf (fun u9 σ10 hf => ?_)
  refine g_imul X dX3_withFixed_57 ?_
  refine g_iadd X dX3_withFixed_58 ?_
  refine s_istore (M := fun x11 => [(6, .int x11), (5, .int x5), (4, .int x2), (3, .int x1), (0, .ref (adr C 35)), (1, .int v1), (2, .int v2)]) X dX3_withFixed_59 (by decide) (fun _ => rfl) hf (fun x11 hf => ?_)
  refine g_aload_n X dX3_withFixed_61 4 rfl rfl ?_
  refine g_get (q := 35) (kf := 16) (v := .ref (adr C 45)) X obj_m rfl infX3_withFixed_X3 (by decide) (by decide +kernel) rfl dX3_withFixed_62 ?_
  refine g_iload_n X dX3_withFixed_65 5 rfl rfl ?_
  refine g_iload X dX3_withFixed_66 1 rfl ?_
  refine s_iast (q := 45) (n := 25) X rfl rfl dX3_withFixed_68 hf (fun σ12 hf => ?_)
  refine g_aload_n X dX3_withFixed_69 4 rfl rfl ?_
  refine g_get (q := 35) (kf := 14) (v := .ref (adr C 43)) X obj_m rfl infX3_withFixed_X3 (by decide) (by decide +kernel) rfl dX3_withFixed_70 ?_
  refine g_iload_n X dX3_withFixed_73 3 rfl rfl ?_
  refine g_dup2 X dX3_withFixed_74 rfl rfl ?_
  refine g_iald (q := 43) (n := 5) X rfl rfl dX3_withFixed_75 hf (fun hf => ?_)
  refine g_iload_n X dX3_withFixed_76 6 rfl rfl ?_
  refine g_iadd X dX3_withFixed_77 ?_
  refine s_iast (q := 43) (n := 5) X rfl rfl dX3_withFixed_78 hf (fun σ13 hf => ?_)
  refine g_aload_n X dX3_withFixed_79 4 rfl rfl ?_
  refine g_get (q := 35) (kf := 15) (v := .ref (adr C 44)) X obj_m rfl infX3_withFixed_X3 (by decide) (by decide +kernel) rfl dX3_withFixed_80 ?_
  refine g_iload X dX3_withFixed_83 2 rfl ?_
  refine g_dup2 X dX3_withFixed_85 rfl rfl ?_
  refine g_iald (q := 44) (n := 5) X rfl rfl dX3_withFixed_86 hf (fun hf => ?_)
  refine g_iload_n X dX3_withFixed_87 6 rfl rfl ?_
  refine g_iadd X dX3_withFixed_88 ?_
  refine s_iast (q := 44) (n := 5) X rfl rfl dX3_withFixed_89 hf (fun σ14 hf => ?_)
  refine g_iload X dX3_withFixed_90 0 rfl ?_
  exact r_iret X hq dX3_withFixed_92 hf
def fX3_withFixed (v1 : Int32) (v2 : Int32) (σ : Mem) : Option (Int32 × Mem) := fX3_withFixed_e v1 v2 σ
theorem kX3_withFixed (l : Launch) (v1 : Int32) (v2 : Int32) (σ : Mem) : KI l yX3_withFixed wsX3_withFixed rmX3_withFixed (fun ad => [.ref (ad 35), .int v1, .int v2]) σ (fX3_withFixed v1 v2 σ) := fun r hr => kt_of (by decide +kernel) rfl (fun _ => Nat.le_of_ble_eq_true rfl) (fun C X hne hq => tX3_withFixed_e X hq v1 v2 σ hr)
/-! ### X3_findPlan -/
abbrev rmX3_findPlan : Room := { frames := 8, cells := 0, slots := 0, locals := 192 }
theorem infX3_findPlan_X3 : ∀ w ∈ u_ws RX3 TX3 21, w ∈ wsX3_findPlan := by decide +kernel
def fX3_findPlan_152 (r7 : Int32 → Int32 → Mem → Option (Int32 × Mem)) (v2 : Int32) (s0 : Int32) (s1 : Int32) (σ : Mem) : Option (Int32 × Mem) :=
  ltI (s1 - s0) fun x1 =>
  r7 x1 (v2 + 1) σ
set_option maxHeartbeats 4000000 in
set_option maxRecDepth 100000 in
theorem tX3_findPlan_152 {C : Ctx} (X : CX C cX3_findPlan 7 RX3 wsX3_findPlan rmX3_findPlan none) {r : Int32 × Mem} (hq : QV C r) (r7 : Int32 → Int32 → Mem → Option (Int32 × Mem)) (ih7 : ∀ (v1 : Int32) (v2 : Int32) (σ : Mem), r7 v1 v2 σ = some r → G C 7 0 0 7 [(0, .ref (adr C 35)), (1, .int v1), (2, .int v2)] [] σ) (v2 : Int32) (s0 : Int32) (s1 : Int32) (σ : Mem) (hf : fX3_findPlan_152 r7 v2 s0 s1 σ = some r) : G C 7 0 0 152 [(0, .ref (adr C 35)), (2, .int v2)] [.int s0, .int s1] σ := by
  unfold fX3_findPlan_152 at hf
  refine g_isub X dX3_findPlan_152 ?_
  refine s_istore_n (M := fun x1 => [(1, .int x1), (0, .ref (adr C 35)), (2, .int v2)]) X dX3_findPlan_153 rfl (by decide) (fun _ => rfl) hf (fun x1 hf => ?_)
  refine g_iinc (v := (v2 + 1)) (L' := [(2, .int (v2 + 1)), (1, .int x1), (0, .ref (adr C 35))]) X dX3_findPlan_154 2 rfl rfl (by decide) rfl ?_
  refine g_goto (tgt := 7) X dX3_findPlan_157 (by decide) ?_
  refine g_sub [2, 1, 0] (L' := [(0, .ref (adr C 35)), (1, .int x1), (2, .int (v2 + 1))]) rfl ?_
  exact ih7 x1 (v2 + 1) σ hf
def fX3_findPlan_94 (r7 : Int32 → Int32 → Mem → Option (Int32 × Mem)) (v1 : Int32) (v2 : Int32) (v3 : Int32) (v4 : Int32) (v5 : Int32) (v6 : Int32) (σ : Mem) : Option (Int32 × Mem) :=
  grd (inb v2 25) (ltM (wI σ 49 (ix v2) v6) fun σ1 =>
  grd (inb v3 5) (grd (inb v3 5) (ltM (wI σ1 43 (ix v3) ((rI σ1 43 (ix v3)) - v6)) fun σ2 =>
  grd (inb v4 5) (grd (inb v4 5) (ltM (wI σ2 44 (ix v4) ((rI σ2 44 (ix v4)) - v6)) fun σ3 =>
  grd (inb v2 25) (ltM (wI σ3 45 (ix v2) (0 : Int32)) fun σ4 =>
  if v5 = 0 then (fX3_findPlan_152 r7 v2 (0 : Int32) v1 σ4)
  else (bnd (fX3_unitOf v3 v4 σ4) fun u5 σ6 =>
  fX3_findPlan_152 r7 v2 (v6 * u5) v1 σ6)))))))
set_option maxHeartbeats 4000000 in
set_option maxRecDepth 100000 in
theorem tX3_findPlan_94 {C : Ctx} (X : CX C cX3_findPlan 7 RX3 wsX3_findPlan rmX3_findPlan none) {r : Int32 × Mem} (hq : QV C r) (r7 : Int32 → Int32 → Mem → Option (Int32 × Mem)) (ih7 : ∀ (v1 : Int32) (v2 : Int32) (σ : Mem), r7 v1 v2 σ = some r → G C 7 0 0 7 [(0, .ref (adr C 35)), (1, .int v1), (2, .int v2)] [] σ) (v1 : Int32) (v2 : Int32) (v3 : Int32) (v4 : Int32) (v5 : Int32) (v6 : Int32) (σ : Mem) (hf : fX3_findPlan_94 r7 v1 v2 v3 v4 v5 v6 σ = some r) : G C 7 0 0 94 [(0, .ref (adr C 35)), (1, .int v1), (2, .int v2), (3, .int v3), (4, .int v4), (5, .int v5), (6, .int v6)] [] σ := by
  unfold fX3_findPlan_94 at hf
  refine g_aload_n X dX3_findPlan_94 0 rfl rfl ?_
  refine g_get (q := 35) (kf := 20) (v := .ref (adr C 49)) X obj_m rfl infX3_findPlan_X3 (by decide) (by decide +kernel) rfl dX3_findPlan_95 ?_
  refine g_iload_n X dX3_findPlan_98 2 rfl rfl ?_
  refine g_iload X dX3_findPlan_99 6 rfl ?_
  refine s_iast (q := 49) (n := 25) X rfl rfl dX3_findPlan_101 hf (fun σ1 hf => ?_)
  refine g_aload_n X dX3_findPlan_102 0 rfl rfl ?_
  refine g_get (q := 35) (kf := 14) (v := .ref (adr C 43)) X obj_m rfl infX3_findPlan_X3 (by decide) (by decide +kernel) rfl dX3_findPlan_103 ?_
  refine g_iload_n X dX3_findPlan_106 3 rfl rfl ?_
  refine g_dup2 X dX3_findPlan_107 rfl rfl ?_
  refine g_iald (q := 43) (n := 5) X rfl rfl dX3_findPlan_108 hf (fun hf => ?_)
  refine g_iload X dX3_findPlan_109 6 rfl ?_
  refine g_isub X dX3_findPlan_111 ?_
  refine s_iast (q := 43) (n := 5) X rfl rfl dX3_findPlan_112 hf (fun σ2 hf => ?_)
  refine g_aload_n X dX3_findPlan_113 0 rfl rfl ?_
  refine g_get (q := 35) (kf := 15) (v := .ref (adr C 44)) X obj_m rfl infX3_findPlan_X3 (by decide) (by decide +kernel) rfl dX3_findPlan_114 ?_
  refine g_iload X dX3_findPlan_117 4 rfl ?_
  refine g_dup2 X dX3_findPlan_119 rfl rfl ?_
  refine g_iald (q := 44) (n := 5) X rfl rfl dX3_findPlan_120 hf (fun hf => ?_)
  refine g_iload X dX3_findPlan_121 6 rfl ?_
  refine g_isub X dX3_findPlan_123 ?_
  refine s_iast (q := 44) (n := 5) X rfl rfl dX3_findPlan_124 hf (fun σ3 hf => ?_)
  refine g_aload_n X dX3_findPlan_125 0 rfl rfl ?_
  refine g_get (q := 35) (kf := 16) (v := .ref (adr C 45)) X obj_m rfl infX3_findPlan_X3 (by decide) (by decide +kernel) rfl dX3_findPlan_126 ?_
  refine g_iload_n X dX3_findPlan_129 2 rfl rfl ?_
  refine g_iconst (v := (0 : Int32)) X dX3_findPlan_130 (by decide) ?_
  refine s_iast (q := 45) (n := 25) X rfl rfl dX3_findPlan_131 hf (fun σ4 hf => ?_)
  refine g_iload_n X dX3_findPlan_132 1 rfl rfl ?_
  refine g_iload X dX3_findPlan_133 5 rfl ?_
  refine g_if_eq (tgt := 151) X dX3_findPlan_135 (by decide) hf (fun hf => ?_) (fun hf => ?_)
  · refine g_iconst (v := (0 : Int32)) X dX3_findPlan_151 (by decide) ?_
    refine g_sub [0, 2] (L' := [(0, .ref (adr C 35)), (2, .int v2)]) rfl ?_
    exact tX3_findPlan_152 X hq r7 ih7 v2 (0 : Int32) v1 σ4 hf
  · refine g_iload X dX3_findPlan_138 6 rfl ?_
    refine g_aload_n X dX3_findPlan_140 0 rfl rfl ?_
    refine g_iload_n X dX3_findPlan_141 3 rfl rfl ?_
    refine g_iload X dX3_findPlan_142 4 rfl ?_
    refine c_VI (q := 35) (vs := [.int v3, .int v4]) (rest := [.int v6, .int v1]) X (kX3_unitOf (cL C) v3 v4 σ4) (fun s a hts => cwV 2 hts gX3_findPlan_X3_unitOf rfl rfl rfl (by decide +kernel) ⟨Nat.le_of_ble_eq_true rfl, Nat.le_of_ble_eq_true rfl⟩) obj_m (rfl : vwCl[3]? = some (RX3, TX3, 21)) rfl rfl rfl rfl (Nat.le_of_ble_eq_true rfl) dX3_findPlan_144 ⟨Nat.le_of_ble_eq_true rfl, Nat.le_of_ble_eq_true rfl⟩ hf (fun u5 σ6 hf => ?_)
    refine g_imul X dX3_findPlan_147 ?_
    refine g_goto (tgt := 152) X dX3_findPlan_148 (by decide) ?_
    refine g_sub [0, 2] (L' := [(0, .ref (adr C 35)), (2, .int v2)]) rfl ?_
    exact tX3_findPlan_152 X hq r7 ih7 v2 (v6 * u5) v1 σ6 hf
def fX3_findPlan_67b (r7 : Int32 → Int32 → Mem → Option (Int32 × Mem)) (r67 : Int32 → Int32 → Int32 → Int32 → Int32 → Int32 → Mem → Option (Int32 × Mem)) (v1 : Int32) (v2 : Int32) (v3 : Int32) (v4 : Int32) (v5 : Int32) (v6 : Int32) (σ : Mem) : Option (Int32 × Mem) :=
  if v5 = 0 then (fX3_findPlan_94 r7 v1 v2 v3 v4 v5 v6 σ)
  else (if v6 ≤ 0 then (fX3_findPlan_94 r7 v1 v2 v3 v4 v5 v6 σ)
  else (bnd (fX3_withFixed v2 v6 σ) fun u1 σ2 =>
  if u1 = v1 then (fX3_findPlan_94 r7 v1 v2 v3 v4 v5 v6 σ2)
  else (r67 v1 v2 v3 v4 v5 (v6 + (-1)) σ2)))
def fX3_findPlan_67 (r7 : Int32 → Int32 → Mem → Option (Int32 × Mem)) : Nat → Int32 → Int32 → Int32 → Int32 → Int32 → Int32 → Mem → Option (Int32 × Mem)
  | 0 => fun _ _ _ _ _ _ _ => none
  | n + 1 => fX3_findPlan_67b r7 (fX3_findPlan_67 r7 n)
set_option maxHeartbeats 4000000 in
set_option maxRecDepth 100000 in
theorem tX3_findPlan_67b {C : Ctx} (X : CX C cX3_findPlan 7 RX3 wsX3_findPlan rmX3_findPlan none) {r : Int32 × Mem} (hq : QV C r) (r7 : Int32 → Int32 → Mem → Option (Int32 × Mem)) (ih7 : ∀ (v1 : Int32) (v2 : Int32) (σ : Mem), r7 v1 v2 σ = some r → G C 7 0 0 7 [(0, .ref (adr C 35)), (1, .int v1), (2, .int v2)] [] σ) (r67 : Int32 → Int32 → Int32 → Int32 → Int32 → Int32 → Mem → Option (Int32 × Mem)) (ih67 : ∀ (v1 : Int32) (v2 : Int32) (v3 : Int32) (v4 : Int32) (v5 : Int32) (v6 : Int32) (σ : Mem), r67 v1 v2 v3 v4 v5 v6 σ = some r → G C 7 0 0 67 [(0, .ref (adr C 35)), (1, .int v1), (2, .int v2), (3, .int v3), (4, .int v4), (5, .int v5), (6, .int v6)] [] σ) (v1 : Int32) (v2 : Int32) (v3 : Int32) (v4 : Int32) (v5 : Int32) (v6 : Int32) (σ : Mem) (hf : fX3_findPlan_67b r7 r67 v1 v2 v3 v4 v5 v6 σ = some r) : G C 7 0 0 67 [(0, .ref (adr C 35)), (1, .int v1), (2, .int v2), (3, .int v3), (4, .int v4), (5, .int v5), (6, .int v6)] [] σ := by
  unfold fX3_findPlan_67b at hf
  refine g_iload X dX3_findPlan_67 5 rfl ?_
  refine g_if_eq (tgt := 94) X dX3_findPlan_69 (by decide) hf (fun hf => ?_) (fun hf => ?_)
  · exact tX3_findPlan_94 X hq r7 ih7 v1 v2 v3 v4 v5 v6 σ hf
  · refine g_iload X dX3_findPlan_72 6 rfl ?_
    refine g_if_le (tgt := 94) X dX3_findPlan_74 (by decide) hf (fun hf => ?_) (fun hf => ?_)
    · exact tX3_findPlan_94 X hq r7 ih7 v1 v2 v3 v4 v5 v6 σ hf
    · refine g_aload_n X dX3_findPlan_77 0 rfl rfl ?_
      refine g_iload_n X dX3_findPlan_78 2 rfl rfl ?_
      refine g_iload X dX3_findPlan_79 6 rfl ?_
      refine c_VI (q := 35) (vs := [.int v2, .int v6]) (rest := []) X (kX3_withFixed (cL C) v2 v6 σ) (fun s a hts => cwV 2 hts gX3_findPlan_X3_withFixed rfl rfl rfl (by decide +kernel) ⟨Nat.le_of_ble_eq_true rfl, Nat.le_of_ble_eq_true rfl⟩) obj_m (rfl : vwCl[3]? = some (RX3, TX3, 21)) rfl rfl rfl rfl (Nat.le_of_ble_eq_true rfl) dX3_findPlan_81 ⟨Nat.le_of_ble_eq_true rfl, Nat.le_of_ble_eq_true rfl⟩ hf (fun u1 σ2 hf => ?_)
      refine g_iload_n X dX3_findPlan_84 1 rfl rfl ?_
      refine g_icmp_eq (tgt := 94) X dX3_findPlan_85 (by decide) hf (fun hf => ?_) (fun hf => ?_)
      · exact tX3_findPlan_94 X hq r7 ih7 v1 v2 v3 v4 v5 v6 σ2 hf
      · refine g_iinc (v := (v6 + (-1))) (L' := [(6, .int (v6 + (-1))), (0, .ref (adr C 35)), (1, .int v1), (2, .int v2), (3, .int v3), (4, .int v4), (5, .int v5)]) X dX3_findPlan_88 6 rfl rfl (by decide) rfl ?_
        refine g_goto (tgt := 67) X dX3_findPlan_91 (by decide) ?_
        refine g_sub [1, 2, 3, 4, 5, 6, 0] (L' := [(0, .ref (adr C 35)), (1, .int v1), (2, .int v2), (3, .int v3), (4, .int v4), (5, .int v5), (6, .int (v6 + (-1)))]) rfl ?_
        exact ih67 v1 v2 v3 v4 v5 (v6 + (-1)) σ2 hf
set_option maxHeartbeats 4000000 in
set_option maxRecDepth 100000 in
theorem tX3_findPlan_67 {C : Ctx} (X : CX C cX3_findPlan 7 RX3 wsX3_findPlan rmX3_findPlan none) {r : Int32 × Mem} (hq : QV C r) (r7 : Int32 → Int32 → Mem → Option (Int32 × Mem)) (ih7 : ∀ (v1 : Int32) (v2 : Int32) (σ : Mem), r7 v1 v2 σ = some r → G C 7 0 0 7 [(0, .ref (adr C 35)), (1, .int v1), (2, .int v2)] [] σ) : ∀ (n : Nat) (v1 : Int32) (v2 : Int32) (v3 : Int32) (v4 : Int32) (v5 : Int32) (v6 : Int32) (σ : Mem) (hf : fX3_findPlan_67 r7 n v1 v2 v3 v4 v5 v6 σ = some r), G C 7 0 0 67 [(0, .ref (adr C 35)), (1, .int v1), (2, .int v2), (3, .int v3), (4, .int v4), (5, .int v5), (6, .int v6)] [] σ := by
  intro n
  induction n with
  | zero => intros; rename_i hf; exact absurd (show (none : Option (Int32 × Mem)) = some r from hf) (by simp)
  | succ n ih =>
    intro v1 v2 v3 v4 v5 v6 σ hf
    exact tX3_findPlan_67b X hq r7 ih7 (fX3_findPlan_67 r7 n) (fun v1 v2 v3 v4 v5 v6 σ hf => ih v1 v2 v3 v4 v5 v6 σ hf) v1 v2 v3 v4 v5 v6 σ hf
def fX3_findPlan_65 (r7 : Int32 → Int32 → Mem → Option (Int32 × Mem)) (v1 : Int32) (v2 : Int32) (v3 : Int32) (v4 : Int32) (v5 : Int32) (s0 : Int32) (σ : Mem) : Option (Int32 × Mem) :=
  fX3_findPlan_67 r7 FU v1 v2 v3 v4 v5 s0 σ
set_option maxHeartbeats 4000000 in
set_option maxRecDepth 100000 in
theorem tX3_findPlan_65 {C : Ctx} (X : CX C cX3_findPlan 7 RX3 wsX3_findPlan rmX3_findPlan none) {r : Int32 × Mem} (hq : QV C r) (r7 : Int32 → Int32 → Mem → Option (Int32 × Mem)) (ih7 : ∀ (v1 : Int32) (v2 : Int32) (σ : Mem), r7 v1 v2 σ = some r → G C 7 0 0 7 [(0, .ref (adr C 35)), (1, .int v1), (2, .int v2)] [] σ) (v1 : Int32) (v2 : Int32) (v3 : Int32) (v4 : Int32) (v5 : Int32) (s0 : Int32) (σ : Mem) (hf : fX3_findPlan_65 r7 v1 v2 v3 v4 v5 s0 σ = some r) : G C 7 0 0 65 [(0, .ref (adr C 35)), (1, .int v1), (2, .int v2), (3, .int v3), (4, .int v4), (5, .int v5)] [.int s0] σ := by
  unfold fX3_findPlan_65 at hf
  refine g_istore (L' := [(6, .int s0), (0, .ref (adr C 35)), (1, .int v1), (2, .int v2), (3, .int v3), (4, .int v4), (5, .int v5)]) X dX3_findPlan_65 (by decide) rfl ?_
  refine g_sub [1, 2, 3, 4, 5, 6, 0] (L' := [(0, .ref (adr C 35)), (1, .int v1), (2, .int v2), (3, .int v3), (4, .int v4), (5, .int v5), (6, .int s0)]) rfl ?_
  exact tX3_findPlan_67 X hq r7 ih7 FU v1 v2 v3 v4 v5 s0 σ hf
def fX3_findPlan_7b (r7 : Int32 → Int32 → Mem → Option (Int32 × Mem)) (v1 : Int32) (v2 : Int32) (σ : Mem) : Option (Int32 × Mem) :=
  if (25 : Int32) ≤ v2 then (some ((0 : Int32), σ))
  else (ltI (v2 / (5 : Int32)) fun x1 =>
  ltI (v2 - v2 / (5 : Int32) * (5 : Int32)) fun x2 =>
  bnd (fX3_isWay x1 x2 σ) fun u3 σ4 =>
  if u3 = 0 then (fX3_findPlan_65 r7 v1 v2 x1 x2 u3 (0 : Int32) σ4)
  else (grd (inb v2 25) (grd (inb x1 5) (grd (inb x2 5) (bnd (fX3_lesser (rI σ4 43 (ix x1)) (rI σ4 44 (ix x2)) σ4) fun u5 σ6 =>
  bnd (fX3_lesser (rI σ4 45 (ix v2)) u5 σ6) fun u7 σ8 =>
  fX3_findPlan_65 r7 v1 v2 x1 x2 u3 u7 σ8)))))
def fX3_findPlan_7 : Nat → Int32 → Int32 → Mem → Option (Int32 × Mem)
  | 0 => fun _ _ _ => none
  | n + 1 => fX3_findPlan_7b (fX3_findPlan_7 n)
set_option maxHeartbeats 4000000 in
set_option maxRecDepth 100000 in
theorem tX3_findPlan_7b {C : Ctx} (X : CX C cX3_findPlan 7 RX3 wsX3_findPlan rmX3_findPlan none) {r : Int32 × Mem} (hq : QV C r) (r7 : Int32 → Int32 → Mem → Option (Int32 × Mem)) (ih7 : ∀ (v1 : Int32) (v2 : Int32) (σ : Mem), r7 v1 v2 σ = some r → G C 7 0 0 7 [(0, .ref (adr C 35)), (1, .int v1), (2, .int v2)] [] σ) (v1 : Int32) (v2 : Int32) (σ : Mem) (hf : fX3_findPlan_7b r7 v1 v2 σ = some r) : G C 7 0 0 7 [(0, .ref (adr C 35)), (1, .int v1), (2, .int v2)] [] σ := by
  unfold fX3_findPlan_7b at hf
  refine g_iload_n X dX3_findPlan_7 2 rfl rfl ?_
  refine g_bipush (v := (25 : Int32)) X dX3_findPlan_8 (by decide) ?_
  refine g_icmp_ge (tgt := 160) X dX3_findPlan_10 (by decide) hf (fun hf => ?_) (fun hf => ?_)
  · exact r_vret X hq dX3_findPlan_160 hf
  · refine g_iload_n X dX3_findPlan_13 2 rfl rfl ?_
    refine g_iconst (v := (5 : Int32)) X dX3_findPlan_14 (by decide) ?_
    refine g_idivC X dX3_findPlan_15 (by decide) ?_
    refine s_istore_n (M := fun x1 => [(3, .int x1), (0, .ref (adr C 35)), (1, .int v1), (2, .int v2)]) X dX3_findPlan_16 rfl (by decide) (fun _ => rfl) hf (fun x1 hf => ?_)
    refine g_iload_n X dX3_findPlan_17 3 rfl rfl ?_
    refine g_iconst (v := (5 : Int32)) X dX3_findPlan_18 (by decide) ?_
    refine g_iremC X dX3_findPlan_19 (by decide) ?_
    refine s_istore (M := fun x2 => [(4, .int x2), (3, .int x1), (0, .ref (adr C 35)), (1, .int v1), (2, .int v2)]) X dX3_findPlan_20 (by decide) (fun _ => rfl) hf (fun x2 hf => ?_)
    refine g_aload_n X dX3_findPlan_22 2 rfl rfl ?_
    refine g_iload_n X dX3_findPlan_23 1 rfl rfl ?_
    refine g_iload X dX3_findPlan_24 0 rfl ?_
    refine c_VI (q := 35) (vs := [.int x1, .int x2]) (rest := []) X (kX3_isWay (cL C) x1 x2 σ) (fun s a hts => cwV 2 hts gX3_findPlan_X3_isWay rfl rfl rfl (by decide +kernel) ⟨Nat.le_of_ble_eq_true rfl, Nat.le_of_ble_eq_true rfl⟩) obj_m (rfl : vwCl[3]? = some (RX3, TX3, 21)) rfl rfl rfl rfl (Nat.le_of_ble_eq_true rfl) dX3_findPlan_26 ⟨Nat.le_of_ble_eq_true rfl, Nat.le_of_ble_eq_true rfl⟩ hf (fun u3 σ4 hf => ?_)
    refine g_istore (L' := [(5, .int u3), (4, .int x2), (3, .int x1), (0, .ref (adr C 35)), (1, .int v1), (2, .int v2)]) X dX3_findPlan_29 (by decide) rfl ?_
    refine g_iload X dX3_findPlan_31 0 rfl ?_
    refine g_if_eq (tgt := 64) X dX3_findPlan_33 (by decide) hf (fun hf => ?_) (fun hf => ?_)
    · refine g_iconst (v := (0 : Int32)) X dX3_findPlan_64 (by decide) ?_
      refine g_sub [3, 4, 5, 2, 1, 0] (L' := [(0, .ref (adr C 35)), (1, .int v1), (2, .int v2), (3, .int x1), (4, .int x2), (5, .int u3)]) rfl ?_
      exact tX3_findPlan_65 X hq r7 ih7 v1 v2 x1 x2 u3 (0 : Int32) σ4 hf
    · refine g_aload_n X dX3_findPlan_36 3 rfl rfl ?_
      refine g_get (q := 35) (kf := 16) (v := .ref (adr C 45)) X obj_m rfl infX3_findPlan_X3 (by decide) (by decide +kernel) rfl dX3_findPlan_37 ?_
      refine g_iload_n X dX3_findPlan_40 5 rfl rfl ?_
      refine g_iald (q := 45) (n := 25) X rfl rfl dX3_findPlan_41 hf (fun hf => ?_)
      refine g_aload_n X dX3_findPlan_42 3 rfl rfl ?_
      refine g_get (q := 35) (kf := 14) (v := .ref (adr C 43)) X obj_m rfl infX3_findPlan_X3 (by decide) (by decide +kernel) rfl dX3_findPlan_43 ?_
      refine g_iload_n X dX3_findPlan_46 2 rfl rfl ?_
      refine g_iald (q := 43) (n := 5) X rfl rfl dX3_findPlan_47 hf (fun hf => ?_)
      refine g_aload_n X dX3_findPlan_48 3 rfl rfl ?_
      refine g_get (q := 35) (kf := 15) (v := .ref (adr C 44)) X obj_m rfl infX3_findPlan_X3 (by decide) (by decide +kernel) rfl dX3_findPlan_49 ?_
      refine g_iload X dX3_findPlan_52 1 rfl ?_
      refine g_iald (q := 44) (n := 5) X rfl rfl dX3_findPlan_54 hf (fun hf => ?_)
      refine c_SI (vs := [.int (rI σ4 43 (ix x1)), .int (rI σ4 44 (ix x2))]) (rest := [.int (rI σ4 45 (ix v2))]) X (kX3_lesser (cL C) (rI σ4 43 (ix x1)) (rI σ4 44 (ix x2)) σ4) (fun s a hts => va_cwS 2 hts gX3_findPlan_X3_lesser rfl rfl rfl (by decide +kernel) ⟨Nat.le_of_ble_eq_true rfl, Nat.le_of_ble_eq_true rfl⟩) rfl rfl rfl (Nat.le_of_ble_eq_true rfl) dX3_findPlan_55 ⟨Nat.le_of_ble_eq_true rfl, Nat.le_of_ble_eq_true rfl⟩ hf (fun u5 σ6 hf => ?_)
      refine c_SI (vs := [.int (rI σ4 45 (ix v2)), .int u5]) (rest := []) X (kX3_lesser (cL C) (rI σ4 45 (ix v2)) u5 σ6) (fun s a hts => va_cwS 2 hts gX3_findPlan_X3_lesser rfl rfl rfl (by decide +kernel) ⟨Nat.le_of_ble_eq_true rfl, Nat.le_of_ble_eq_true rfl⟩) rfl rfl rfl (Nat.le_of_ble_eq_true rfl) dX3_findPlan_58 ⟨Nat.le_of_ble_eq_true rfl, Nat.le_of_ble_eq_true rfl⟩ hf (fun u7 σ8 hf => ?_)
      refine g_goto (tgt := 65) X dX3_findPlan_61 (by decide) ?_
      refine g_sub [3, 4, 5, 2, 1, 0] (L' := [(0, .ref (adr C 35)), (1, .int v1), (2, .int v2), (3, .int x1), (4, .int x2), (5, .int u3)]) rfl ?_
      exact tX3_findPlan_65 X hq r7 ih7 v1 v2 x1 x2 u3 u7 σ8 hf
set_option maxHeartbeats 4000000 in
set_option maxRecDepth 100000 in
theorem tX3_findPlan_7 {C : Ctx} (X : CX C cX3_findPlan 7 RX3 wsX3_findPlan rmX3_findPlan none) {r : Int32 × Mem} (hq : QV C r) : ∀ (n : Nat) (v1 : Int32) (v2 : Int32) (σ : Mem) (hf : fX3_findPlan_7 n v1 v2 σ = some r), G C 7 0 0 7 [(0, .ref (adr C 35)), (1, .int v1), (2, .int v2)] [] σ := by
  intro n
  induction n with
  | zero => intros; rename_i hf; exact absurd (show (none : Option (Int32 × Mem)) = some r from hf) (by simp)
  | succ n ih =>
    intro v1 v2 σ hf
    exact tX3_findPlan_7b X hq (fX3_findPlan_7 n) (fun v1 v2 σ hf => ih v1 v2 σ hf) v1 v2 σ hf
def fX3_findPlan_e (σ : Mem) : Option (Int32 × Mem) :=
  bnd (fX3_leastOf σ) fun u1 σ2 =>
  fX3_findPlan_7 FU u1 (0 : Int32) σ2
set_option maxHeartbeats 4000000 in
set_option maxRecDepth 100000 in
theorem tX3_findPlan_e {C : Ctx} (X : CX C cX3_findPlan 7 RX3 wsX3_findPlan rmX3_findPlan none) {r : Int32 × Mem} (hq : QV C r) (σ : Mem) (hf : fX3_findPlan_e σ = some r) : G C 7 0 0 0 [(0, .ref (adr C 35))] [] σ := by
  unfold fX3_findPlan_e at hf
  refine g_aload_n X dX3_findPlan_0 0 rfl rfl ?_
  refine c_VI (q := 35) (vs := []) (rest := []) X (kX3_leastOf (cL C) σ) (fun s a hts => cwV 0 hts gX3_findPlan_X3_leastOf rfl rfl rfl (by decide +kernel) ⟨Nat.le_of_ble_eq_true rfl, Nat.le_of_ble_eq_true rfl⟩) obj_m (rfl : vwCl[3]? = some (RX3, TX3, 21)) rfl rfl rfl rfl (Nat.le_of_ble_eq_true rfl) dX3_findPlan_1 ⟨Nat.le_of_ble_eq_true rfl, Nat.le_of_ble_eq_true rfl⟩ hf (fun u1 σ2 hf => ?_)
  refine g_istore_n (L' := [(1, .int u1), (0, .ref (adr C 35))]) X dX3_findPlan_4 rfl (by decide) rfl ?_
  refine g_iconst (v := (0 : Int32)) X dX3_findPlan_5 (by decide) ?_
  refine g_istore_n (L' := [(2, .int (0 : Int32)), (1, .int u1), (0, .ref (adr C 35))]) X dX3_findPlan_6 rfl (by decide) rfl ?_
  refine g_sub [2, 1, 0] (L' := [(0, .ref (adr C 35)), (1, .int u1), (2, .int (0 : Int32))]) rfl ?_
  exact tX3_findPlan_7 X hq FU u1 (0 : Int32) σ2 hf
def fX3_findPlan (σ : Mem) : Option (Int32 × Mem) := fX3_findPlan_e σ
theorem kX3_findPlan (l : Launch) (σ : Mem) : KV l yX3_findPlan wsX3_findPlan rmX3_findPlan (fun ad => [.ref (ad 35)]) σ (fX3_findPlan σ) := fun r hr => kt_of (by decide +kernel) rfl (fun _ => Nat.le_of_ble_eq_true rfl) (fun C X hne hq => tX3_findPlan_e X hq σ hr)
/-! ### X3_carried -/
abbrev rmX3_carried : Room := { frames := 9, cells := 0, slots := 0, locals := 218 }
theorem infX3_carried_X3 : ∀ w ∈ u_ws RX3 TX3 21, w ∈ wsX3_carried := by decide +kernel
def fX3_carried_15 (v1 : Int32) (v2 : Int32) (s0 : Int32) (σ : Mem) : Option (Int32 × Mem) :=
  bnd (fX3_goesWell s0 σ) fun u1 σ2 =>
  if u1 = 0 then (some ((0 : Int32), σ2))
  else (bnd (fX3_findPlan σ2) fun u3 σ4 =>
  grd (inb (((5 : Int32) * v1) + v2) 25) (some ((rI σ4 49 (ix (((5 : Int32) * v1) + v2))), σ4)))
set_option maxHeartbeats 4000000 in
set_option maxRecDepth 100000 in
theorem tX3_carried_15 {C : Ctx} (X : CX C cX3_carried 3 RX3 wsX3_carried rmX3_carried (some .int)) {r : Int32 × Mem} (hq : QI C r) (v1 : Int32) (v2 : Int32) (s0 : Int32) (σ : Mem) (hf : fX3_carried_15 v1 v2 s0 σ = some r) : G C 3 0 0 15 [(0, .ref (adr C 35)), (1, .int v1), (2, .int v2)] [.int s0, .ref (adr C 35)] σ := by
  unfold fX3_carried_15 at hf
  refine c_VI (q := 35) (vs := [.int s0]) (rest := []) X (kX3_goesWell (cL C) s0 σ) (fun s a hts => cwV 1 hts gX3_carried_X3_goesWell rfl rfl rfl (by decide +kernel) ⟨Nat.le_of_ble_eq_true rfl, Nat.le_of_ble_eq_true rfl⟩) obj_m (rfl : vwCl[3]? = some (RX3, TX3, 21)) rfl rfl rfl rfl (Nat.le_of_ble_eq_true rfl) dX3_carried_15 ⟨Nat.le_of_ble_eq_true rfl, Nat.le_of_ble_eq_true rfl⟩ hf (fun u1 σ2 hf => ?_)
  refine g_if_ne (tgt := 23) X dX3_carried_18 (by decide) hf (fun hf => ?_) (fun hf => ?_)
  · refine g_aload_n X dX3_carried_23 0 rfl rfl ?_
    refine c_VV (q := 35) (vs := []) (rest := []) X (kX3_findPlan (cL C) σ2) (fun s a hts => cwV 0 hts gX3_carried_X3_findPlan rfl rfl rfl (by decide +kernel) ⟨Nat.le_of_ble_eq_true rfl, Nat.le_of_ble_eq_true rfl⟩) obj_m (rfl : vwCl[3]? = some (RX3, TX3, 21)) rfl rfl rfl rfl (Nat.le_of_ble_eq_true rfl) dX3_carried_24 ⟨Nat.le_of_ble_eq_true rfl, Nat.le_of_ble_eq_true rfl⟩ hf (fun u3 σ4 hf => ?_)
    refine g_aload_n X dX3_carried_27 0 rfl rfl ?_
    refine g_get (q := 35) (kf := 20) (v := .ref (adr C 49)) X obj_m rfl infX3_carried_X3 (by decide) (by decide +kernel) rfl dX3_carried_28 ?_
    refine g_iconst (v := (5 : Int32)) X dX3_carried_31 (by decide) ?_
    refine g_iload_n X dX3_carried_32 1 rfl rfl ?_
    refine g_imul X dX3_carried_33 ?_
    refine g_iload_n X dX3_carried_34 2 rfl rfl ?_
    refine g_iadd X dX3_carried_35 ?_
    refine g_iald (q := 49) (n := 25) X rfl rfl dX3_carried_36 hf (fun hf => ?_)
    exact r_iret X hq dX3_carried_37 hf
  · refine g_iconst (v := (0 : Int32)) X dX3_carried_21 (by decide) ?_
    exact r_iret X hq dX3_carried_22 hf
def fX3_carried_e (v1 : Int32) (v2 : Int32) (σ : Mem) : Option (Int32 × Mem) :=
  bnd (fX3_isWay v1 v2 σ) fun u1 σ2 =>
  if u1 = 0 then (fX3_carried_15 v1 v2 (1 : Int32) σ2)
  else (fX3_carried_15 v1 v2 (0 : Int32) σ2)
set_option maxHeartbeats 4000000 in
set_option maxRecDepth 100000 in
theorem tX3_carried_e {C : Ctx} (X : CX C cX3_carried 3 RX3 wsX3_carried rmX3_carried (some .int)) {r : Int32 × Mem} (hq : QI C r) (v1 : Int32) (v2 : Int32) (σ : Mem) (hf : fX3_carried_e v1 v2 σ = some r) : G C 3 0 0 0 [(0, .ref (adr C 35)), (1, .int v1), (2, .int v2)] [] σ := by
  unfold fX3_carried_e at hf
  refine g_aload_n X dX3_carried_0 0 rfl rfl ?_
  refine g_aload_n X dX3_carried_1 0 rfl rfl ?_
  refine g_iload_n X dX3_carried_2 1 rfl rfl ?_
  refine g_iload_n X dX3_carried_3 2 rfl rfl ?_
  refine c_VI (q := 35) (vs := [.int v1, .int v2]) (rest := [.ref (adr C 35)]) X (kX3_isWay (cL C) v1 v2 σ) (fun s a hts => cwV 2 hts gX3_carried_X3_isWay rfl rfl rfl (by decide +kernel) ⟨Nat.le_of_ble_eq_true rfl, Nat.le_of_ble_eq_true rfl⟩) obj_m (rfl : vwCl[3]? = some (RX3, TX3, 21)) rfl rfl rfl rfl (Nat.le_of_ble_eq_true rfl) dX3_carried_4 ⟨Nat.le_of_ble_eq_true rfl, Nat.le_of_ble_eq_true rfl⟩ hf (fun u1 σ2 hf => ?_)
  refine g_if_eq (tgt := 14) X dX3_carried_7 (by decide) hf (fun hf => ?_) (fun hf => ?_)
  · refine g_iconst (v := (1 : Int32)) X dX3_carried_14 (by decide) ?_
    exact tX3_carried_15 X hq v1 v2 (1 : Int32) σ2 hf
  · refine g_iconst (v := (0 : Int32)) X dX3_carried_10 (by decide) ?_
    refine g_goto (tgt := 15) X dX3_carried_11 (by decide) ?_
    exact tX3_carried_15 X hq v1 v2 (0 : Int32) σ2 hf
def fX3_carried (v1 : Int32) (v2 : Int32) (σ : Mem) : Option (Int32 × Mem) := fX3_carried_e v1 v2 σ
theorem kX3_carried (l : Launch) (v1 : Int32) (v2 : Int32) (σ : Mem) : KI l yX3_carried wsX3_carried rmX3_carried (fun ad => [.ref (ad 35), .int v1, .int v2]) σ (fX3_carried v1 v2 σ) := fun r hr => kt_of (by decide +kernel) rfl (fun _ => Nat.le_of_ble_eq_true rfl) (fun C X hne hq => tX3_carried_e X hq v1 v2 σ hr)
/-! ### X3_left -/
abbrev rmX3_left : Room := { frames := 9, cells := 0, slots := 0, locals := 218 }
theorem infX3_left_X3 : ∀ w ∈ u_ws RX3 TX3 21, w ∈ wsX3_left := by decide +kernel
def fX3_left_46 (s0 : Int32) (σ : Mem) : Option (Int32 × Mem) :=
  some (s0, σ)
set_option maxHeartbeats 4000000 in
set_option maxRecDepth 100000 in
theorem tX3_left_46 {C : Ctx} (X : CX C cX3_left 3 RX3 wsX3_left rmX3_left (some .int)) {r : Int32 × Mem} (hq : QI C r) (s0 : Int32) (σ : Mem) (hf : fX3_left_46 s0 σ = some r) : G C 3 0 0 46 [] [.int s0] σ := by
  unfold fX3_left_46 at hf
  exact r_iret X hq dX3_left_46 hf
def fX3_left_15 (v1 : Int32) (v2 : Int32) (s0 : Int32) (σ : Mem) : Option (Int32 × Mem) :=
  bnd (fX3_goesWell s0 σ) fun u1 σ2 =>
  if u1 = 0 then (some ((0 : Int32), σ2))
  else (bnd (fX3_findPlan σ2) fun u3 σ4 =>
  if v1 = 0 then (grd (inb v2 5) (fX3_left_46 (rI σ4 43 (ix v2)) σ4))
  else (grd (inb v2 5) (fX3_left_46 (rI σ4 44 (ix v2)) σ4)))
set_option maxHeartbeats 4000000 in
set_option maxRecDepth 100000 in
theorem tX3_left_15 {C : Ctx} (X : CX C cX3_left 3 RX3 wsX3_left rmX3_left (some .int)) {r : Int32 × Mem} (hq : QI C r) (v1 : Int32) (v2 : Int32) (s0 : Int32) (σ : Mem) (hf : fX3_left_15 v1 v2 s0 σ = some r) : G C 3 0 0 15 [(0, .ref (adr C 35)), (1, .int v1), (2, .int v2)] [.int s0, .ref (adr C 35)] σ := by
  unfold fX3_left_15 at hf
  refine c_VI (q := 35) (vs := [.int s0]) (rest := []) X (kX3_goesWell (cL C) s0 σ) (fun s a hts => cwV 1 hts gX3_left_X3_goesWell rfl rfl rfl (by decide +kernel) ⟨Nat.le_of_ble_eq_true rfl, Nat.le_of_ble_eq_true rfl⟩) obj_m (rfl : vwCl[3]? = some (RX3, TX3, 21)) rfl rfl rfl rfl (Nat.le_of_ble_eq_true rfl) dX3_left_15 ⟨Nat.le_of_ble_eq_true rfl, Nat.le_of_ble_eq_true rfl⟩ hf (fun u1 σ2 hf => ?_)
  refine g_if_ne (tgt := 23) X dX3_left_18 (by decide) hf (fun hf => ?_) (fun hf => ?_)
  · refine g_aload_n X dX3_left_23 0 rfl rfl ?_
    refine c_VV (q := 35) (vs := []) (rest := []) X (kX3_findPlan (cL C) σ2) (fun s a hts => cwV 0 hts gX3_left_X3_findPlan rfl rfl rfl (by decide +kernel) ⟨Nat.le_of_ble_eq_true rfl, Nat.le_of_ble_eq_true rfl⟩) obj_m (rfl : vwCl[3]? = some (RX3, TX3, 21)) rfl rfl rfl rfl (Nat.le_of_ble_eq_true rfl) dX3_left_24 ⟨Nat.le_of_ble_eq_true rfl, Nat.le_of_ble_eq_true rfl⟩ hf (fun u3 σ4 hf => ?_)
    refine g_iload_n X dX3_left_27 1 rfl rfl ?_
    refine g_if_eq (tgt := 40) X dX3_left_28 (by decide) hf (fun hf => ?_) (fun hf => ?_)
    · refine g_aload_n X dX3_left_40 0 rfl rfl ?_
      refine g_get (q := 35) (kf := 14) (v := .ref (adr C 43)) X obj_m rfl infX3_left_X3 (by decide) (by decide +kernel) rfl dX3_left_41 ?_
      refine g_iload_n X dX3_left_44 2 rfl rfl ?_
      refine g_iald (q := 43) (n := 5) X rfl rfl dX3_left_45 hf (fun hf => ?_)
      refine g_sub [] (L' := []) rfl ?_
      exact tX3_left_46 X hq (rI σ4 43 (ix v2)) σ4 hf
    · refine g_aload_n X dX3_left_31 0 rfl rfl ?_
      refine g_get (q := 35) (kf := 15) (v := .ref (adr C 44)) X obj_m rfl infX3_left_X3 (by decide) (by decide +kernel) rfl dX3_left_32 ?_
      refine g_iload_n X dX3_left_35 2 rfl rfl ?_
      refine g_iald (q := 44) (n := 5) X rfl rfl dX3_left_36 hf (fun hf => ?_)
      refine g_goto (tgt := 46) X dX3_left_37 (by decide) ?_
      refine g_sub [] (L' := []) rfl ?_
      exact tX3_left_46 X hq (rI σ4 44 (ix v2)) σ4 hf
  · refine g_iconst (v := (0 : Int32)) X dX3_left_21 (by decide) ?_
    exact r_iret X hq dX3_left_22 hf
def fX3_left_e (v1 : Int32) (v2 : Int32) (σ : Mem) : Option (Int32 × Mem) :=
  bnd (fX3_isOne v1 v2 σ) fun u1 σ2 =>
  if u1 = 0 then (fX3_left_15 v1 v2 (1 : Int32) σ2)
  else (fX3_left_15 v1 v2 (0 : Int32) σ2)
set_option maxHeartbeats 4000000 in
set_option maxRecDepth 100000 in
theorem tX3_left_e {C : Ctx} (X : CX C cX3_left 3 RX3 wsX3_left rmX3_left (some .int)) {r : Int32 × Mem} (hq : QI C r) (v1 : Int32) (v2 : Int32) (σ : Mem) (hf : fX3_left_e v1 v2 σ = some r) : G C 3 0 0 0 [(0, .ref (adr C 35)), (1, .int v1), (2, .int v2)] [] σ := by
  unfold fX3_left_e at hf
  refine g_aload_n X dX3_left_0 0 rfl rfl ?_
  refine g_aload_n X dX3_left_1 0 rfl rfl ?_
  refine g_iload_n X dX3_left_2 1 rfl rfl ?_
  refine g_iload_n X dX3_left_3 2 rfl rfl ?_
  refine c_VI (q := 35) (vs := [.int v1, .int v2]) (rest := [.ref (adr C 35)]) X (kX3_isOne (cL C) v1 v2 σ) (fun s a hts => cwV 2 hts gX3_left_X3_isOne rfl rfl rfl (by decide +kernel) ⟨Nat.le_of_ble_eq_true rfl, Nat.le_of_ble_eq_true rfl⟩) obj_m (rfl : vwCl[3]? = some (RX3, TX3, 21)) rfl rfl rfl rfl (Nat.le_of_ble_eq_true rfl) dX3_left_4 ⟨Nat.le_of_ble_eq_true rfl, Nat.le_of_ble_eq_true rfl⟩ hf (fun u1 σ2 hf => ?_)
  refine g_if_eq (tgt := 14) X dX3_left_7 (by decide) hf (fun hf => ?_) (fun hf => ?_)
  · refine g_iconst (v := (1 : Int32)) X dX3_left_14 (by decide) ?_
    exact tX3_left_15 X hq v1 v2 (1 : Int32) σ2 hf
  · refine g_iconst (v := (0 : Int32)) X dX3_left_10 (by decide) ?_
    refine g_goto (tgt := 15) X dX3_left_11 (by decide) ?_
    exact tX3_left_15 X hq v1 v2 (0 : Int32) σ2 hf
def fX3_left (v1 : Int32) (v2 : Int32) (σ : Mem) : Option (Int32 × Mem) := fX3_left_e v1 v2 σ
theorem kX3_left (l : Launch) (v1 : Int32) (v2 : Int32) (σ : Mem) : KI l yX3_left wsX3_left rmX3_left (fun ad => [.ref (ad 35), .int v1, .int v2]) σ (fX3_left v1 v2 σ) := fun r hr => kt_of (by decide +kernel) rfl (fun _ => Nat.le_of_ble_eq_true rfl) (fun C X hne hq => tX3_left_e X hq v1 v2 σ hr)
/-! ### X3_without -/
abbrev rmX3_without : Room := { frames := 8, cells := 0, slots := 0, locals := 186 }
theorem infX3_without_X3 : ∀ w ∈ u_ws RX3 TX3 21, w ∈ wsX3_without := by decide +kernel
def fX3_without_15 (v1 : Int32) (v2 : Int32) (s0 : Int32) (σ : Mem) : Option (Int32 × Mem) :=
  bnd (fX3_goesWell s0 σ) fun u1 σ2 =>
  if u1 = 0 then (some ((0 : Int32), σ2))
  else (bnd (fX3_leastOf σ2) fun u3 σ4 =>
  grd (inb (((5 : Int32) * v1) + v2) 25) (ltM (wI σ4 45 (ix (((5 : Int32) * v1) + v2)) (0 : Int32)) fun σ5 =>
  bnd (fX3_solve σ5) fun u6 σ7 =>
  some ((u6 - u3), σ7)))
set_option maxHeartbeats 4000000 in
set_option maxRecDepth 100000 in
theorem tX3_without_15 {C : Ctx} (X : CX C cX3_without 4 RX3 wsX3_without rmX3_without (some .int)) {r : Int32 × Mem} (hq : QI C r) (v1 : Int32) (v2 : Int32) (s0 : Int32) (σ : Mem) (hf : fX3_without_15 v1 v2 s0 σ = some r) : G C 4 0 0 15 [(0, .ref (adr C 35)), (1, .int v1), (2, .int v2)] [.int s0, .ref (adr C 35)] σ := by
  unfold fX3_without_15 at hf
  refine c_VI (q := 35) (vs := [.int s0]) (rest := []) X (kX3_goesWell (cL C) s0 σ) (fun s a hts => cwV 1 hts gX3_without_X3_goesWell rfl rfl rfl (by decide +kernel) ⟨Nat.le_of_ble_eq_true rfl, Nat.le_of_ble_eq_true rfl⟩) obj_m (rfl : vwCl[3]? = some (RX3, TX3, 21)) rfl rfl rfl rfl (Nat.le_of_ble_eq_true rfl) dX3_without_15 ⟨Nat.le_of_ble_eq_true rfl, Nat.le_of_ble_eq_true rfl⟩ hf (fun u1 σ2 hf => ?_)
  refine g_if_ne (tgt := 23) X dX3_without_18 (by decide) hf (fun hf => ?_) (fun hf => ?_)
  · refine g_aload_n X dX3_without_23 0 rfl rfl ?_
    refine c_VI (q := 35) (vs := []) (rest := []) X (kX3_leastOf (cL C) σ2) (fun s a hts => cwV 0 hts gX3_without_X3_leastOf rfl rfl rfl (by decide +kernel) ⟨Nat.le_of_ble_eq_true rfl, Nat.le_of_ble_eq_true rfl⟩) obj_m (rfl : vwCl[3]? = some (RX3, TX3, 21)) rfl rfl rfl rfl (Nat.le_of_ble_eq_true rfl) dX3_without_24 ⟨Nat.le_of_ble_eq_true rfl, Nat.le_of_ble_eq_true rfl⟩ hf (fun u3 σ4 hf => ?_)
    refine g_istore_n (L' := [(3, .int u3), (0, .ref (adr C 35)), (1, .int v1), (2, .int v2)]) X dX3_without_27 rfl (by decide) rfl ?_
    refine g_aload_n X dX3_without_28 1 rfl rfl ?_
    refine g_get (q := 35) (kf := 16) (v := .ref (adr C 45)) X obj_m rfl infX3_without_X3 (by decide) (by decide +kernel) rfl dX3_without_29 ?_
    refine g_iconst (v := (5 : Int32)) X dX3_without_32 (by decide) ?_
    refine g_iload_n X dX3_without_33 2 rfl rfl ?_
    refine g_imul X dX3_without_34 ?_
    refine g_iload_n X dX3_without_35 3 rfl rfl ?_
    refine g_iadd X dX3_without_36 ?_
    refine g_iconst (v := (0 : Int32)) X dX3_without_37 (by decide) ?_
    refine s_iast (q := 45) (n := 25) X rfl rfl dX3_without_38 hf (fun σ5 hf => ?_)
    refine g_aload_n X dX3_without_39 1 rfl rfl ?_
    refine c_VI (q := 35) (vs := []) (rest := []) X (kX3_solve (cL C) σ5) (fun s a hts => cwV 0 hts gX3_without_X3_solve rfl rfl rfl (by decide +kernel) ⟨Nat.le_of_ble_eq_true rfl, Nat.le_of_ble_eq_true rfl⟩) obj_m (rfl : vwCl[3]? = some (RX3, TX3, 21)) rfl rfl rfl rfl (Nat.le_of_ble_eq_true rfl) dX3_without_40 ⟨Nat.le_of_ble_eq_true rfl, Nat.le_of_ble_eq_true rfl⟩ hf (fun u6 σ7 hf => ?_)
    refine g_iload_n X dX3_without_43 0 rfl rfl ?_
    refine g_isub X dX3_without_44 ?_
    exact r_iret X hq dX3_without_45 hf
  · refine g_iconst (v := (0 : Int32)) X dX3_without_21 (by decide) ?_
    exact r_iret X hq dX3_without_22 hf
def fX3_without_e (v1 : Int32) (v2 : Int32) (σ : Mem) : Option (Int32 × Mem) :=
  bnd (fX3_isWay v1 v2 σ) fun u1 σ2 =>
  if u1 = 0 then (fX3_without_15 v1 v2 (1 : Int32) σ2)
  else (fX3_without_15 v1 v2 (0 : Int32) σ2)
set_option maxHeartbeats 4000000 in
set_option maxRecDepth 100000 in
theorem tX3_without_e {C : Ctx} (X : CX C cX3_without 4 RX3 wsX3_without rmX3_without (some .int)) {r : Int32 × Mem} (hq : QI C r) (v1 : Int32) (v2 : Int32) (σ : Mem) (hf : fX3_without_e v1 v2 σ = some r) : G C 4 0 0 0 [(0, .ref (adr C 35)), (1, .int v1), (2, .int v2)] [] σ := by
  unfold fX3_without_e at hf
  refine g_aload_n X dX3_without_0 0 rfl rfl ?_
  refine g_aload_n X dX3_without_1 0 rfl rfl ?_
  refine g_iload_n X dX3_without_2 1 rfl rfl ?_
  refine g_iload_n X dX3_without_3 2 rfl rfl ?_
  refine c_VI (q := 35) (vs := [.int v1, .int v2]) (rest := [.ref (adr C 35)]) X (kX3_isWay (cL C) v1 v2 σ) (fun s a hts => cwV 2 hts gX3_without_X3_isWay rfl rfl rfl (by decide +kernel) ⟨Nat.le_of_ble_eq_true rfl, Nat.le_of_ble_eq_true rfl⟩) obj_m (rfl : vwCl[3]? = some (RX3, TX3, 21)) rfl rfl rfl rfl (Nat.le_of_ble_eq_true rfl) dX3_without_4 ⟨Nat.le_of_ble_eq_true rfl, Nat.le_of_ble_eq_true rfl⟩ hf (fun u1 σ2 hf => ?_)
  refine g_if_eq (tgt := 14) X dX3_without_7 (by decide) hf (fun hf => ?_) (fun hf => ?_)
  · refine g_iconst (v := (1 : Int32)) X dX3_without_14 (by decide) ?_
    exact tX3_without_15 X hq v1 v2 (1 : Int32) σ2 hf
  · refine g_iconst (v := (0 : Int32)) X dX3_without_10 (by decide) ?_
    refine g_goto (tgt := 15) X dX3_without_11 (by decide) ?_
    exact tX3_without_15 X hq v1 v2 (0 : Int32) σ2 hf
def fX3_without (v1 : Int32) (v2 : Int32) (σ : Mem) : Option (Int32 × Mem) := fX3_without_e v1 v2 σ
theorem kX3_without (l : Launch) (v1 : Int32) (v2 : Int32) (σ : Mem) : KI l yX3_without wsX3_without rmX3_without (fun ad => [.ref (ad 35), .int v1, .int v2]) σ (fX3_without v1 v2 σ) := fun r hr => kt_of (by decide +kernel) rfl (fun _ => Nat.le_of_ble_eq_true rfl) (fun C X hne hq => tX3_without_e X hq v1 v2 σ hr)
/-! ### X3_boundOf -/
abbrev rmX3_boundOf : Room := { frames := 1, cells := 0, slots := 0, locals := 29 }
theorem infX3_boundOf_X3 : ∀ w ∈ u_ws RX3 TX3 21, w ∈ wsX3_boundOf := by decide +kernel
def fX3_boundOf_44 (s0 : Int32) (σ : Mem) : Option (Int32 × Mem) :=
  some (s0, σ)
set_option maxHeartbeats 4000000 in
set_option maxRecDepth 100000 in
theorem tX3_boundOf_44 {C : Ctx} (X : CX C cX3_boundOf 3 RX3 wsX3_boundOf rmX3_boundOf (some .int)) {r : Int32 × Mem} (hq : QI C r) (s0 : Int32) (σ : Mem) (hf : fX3_boundOf_44 s0 σ = some r) : G C 3 0 0 44 [] [.int s0] σ := by
  unfold fX3_boundOf_44 at hf
  exact r_iret X hq dX3_boundOf_44 hf
def fX3_boundOf_e (v1 : Int32) (σ : Mem) : Option (Int32 × Mem) :=
  grd (inb (v1 / (5 : Int32)) 5) (grd (inb (v1 - v1 / (5 : Int32) * (5 : Int32)) 5) (bnd (fX3_lesser (rI σ 37 (ix (v1 / (5 : Int32)))) (rI σ 39 (ix (v1 - v1 / (5 : Int32) * (5 : Int32)))) σ) fun u1 σ2 =>
  grd (inb v1 25) (if (rI σ2 41 (ix v1)) = (-1 : Int32) then (fX3_boundOf_44 u1 σ2)
  else (grd (inb v1 25) (bnd (fX3_lesser u1 (rI σ2 41 (ix v1)) σ2) fun u3 σ4 =>
  fX3_boundOf_44 u3 σ4)))))
set_option maxHeartbeats 4000000 in
set_option maxRecDepth 100000 in
theorem tX3_boundOf_e {C : Ctx} (X : CX C cX3_boundOf 3 RX3 wsX3_boundOf rmX3_boundOf (some .int)) {r : Int32 × Mem} (hq : QI C r) (v1 : Int32) (σ : Mem) (hf : fX3_boundOf_e v1 σ = some r) : G C 3 0 0 0 [(0, .ref (adr C 35)), (1, .int v1)] [] σ := by
  unfold fX3_boundOf_e at hf
  refine g_aload_n X dX3_boundOf_0 0 rfl rfl ?_
  refine g_get (q := 35) (kf := 4) (v := .ref (adr C 37)) X obj_m rfl infX3_boundOf_X3 (by decide) (by decide +kernel) rfl dX3_boundOf_1 ?_
  refine g_iload_n X dX3_boundOf_4 1 rfl rfl ?_
  refine g_iconst (v := (5 : Int32)) X dX3_boundOf_5 (by decide) ?_
  refine g_idivC X dX3_boundOf_6 (by decide) ?_
  refine g_iald (q := 37) (n := 5) X rfl rfl dX3_boundOf_7 hf (fun hf => ?_)
  refine g_aload_n X dX3_boundOf_8 0 rfl rfl ?_
  refine g_get (q := 35) (kf := 6) (v := .ref (adr C 39)) X obj_m rfl infX3_boundOf_X3 (by decide) (by decide +kernel) rfl dX3_boundOf_9 ?_
  refine g_iload_n X dX3_boundOf_12 1 rfl rfl ?_
  refine g_iconst (v := (5 : Int32)) X dX3_boundOf_13 (by decide) ?_
  refine g_iremC X dX3_boundOf_14 (by decide) ?_
  refine g_iald (q := 39) (n := 5) X rfl rfl dX3_boundOf_15 hf (fun hf => ?_)
  refine c_SI (vs := [.int (rI σ 37 (ix (v1 / (5 : Int32)))), .int (rI σ 39 (ix (v1 - v1 / (5 : Int32) * (5 : Int32))))]) (rest := []) X (kX3_lesser (cL C) (rI σ 37 (ix (v1 / (5 : Int32)))) (rI σ 39 (ix (v1 - v1 / (5 : Int32) * (5 : Int32)))) σ) (fun s a hts => va_cwS 2 hts gX3_boundOf_X3_lesser rfl rfl rfl (by decide +kernel) ⟨Nat.le_of_ble_eq_true rfl, Nat.le_of_ble_eq_true rfl⟩) rfl rfl rfl (Nat.le_of_ble_eq_true rfl) dX3_boundOf_16 ⟨Nat.le_of_ble_eq_true rfl, Nat.le_of_ble_eq_true rfl⟩ hf (fun u1 σ2 hf => ?_)
  refine g_istore_n (L' := [(2, .int u1), (0, .ref (adr C 35)), (1, .int v1)]) X dX3_boundOf_19 rfl (by decide) rfl ?_
  refine g_aload_n X dX3_boundOf_20 1 rfl rfl ?_
  refine g_get (q := 35) (kf := 10) (v := .ref (adr C 41)) X obj_m rfl infX3_boundOf_X3 (by decide) (by decide +kernel) rfl dX3_boundOf_21 ?_
  refine g_iload_n X dX3_boundOf_24 2 rfl rfl ?_
  refine g_iald (q := 41) (n := 25) X rfl rfl dX3_boundOf_25 hf (fun hf => ?_)
  refine g_iconst (v := (-1 : Int32)) X dX3_boundOf_26 (by decide) ?_
  refine g_icmp_ne (tgt := 34) X dX3_boundOf_27 (by decide) hf (fun hf => ?_) (fun hf => ?_)
  · refine g_iload_n X dX3_boundOf_34 0 rfl rfl ?_
    refine g_aload_n X dX3_boundOf_35 1 rfl rfl ?_
    refine g_get (q := 35) (kf := 10) (v := .ref (adr C 41)) X obj_m rfl infX3_boundOf_X3 (by decide) (by decide +kernel) rfl dX3_boundOf_36 ?_
    refine g_iload_n X dX3_boundOf_39 2 rfl rfl ?_
    refine g_iald (q := 41) (n := 25) X rfl rfl dX3_boundOf_40 hf (fun hf => ?_)
    refine c_SI (vs := [.int u1, .int (rI σ2 41 (ix v1))]) (rest := []) X (kX3_lesser (cL C) u1 (rI σ2 41 (ix v1)) σ2) (fun s a hts => va_cwS 2 hts gX3_boundOf_X3_lesser rfl rfl rfl (by decide +kernel) ⟨Nat.le_of_ble_eq_true rfl, Nat.le_of_ble_eq_true rfl⟩) rfl rfl rfl (Nat.le_of_ble_eq_true rfl) dX3_boundOf_41 ⟨Nat.le_of_ble_eq_true rfl, Nat.le_of_ble_eq_true rfl⟩ hf (fun u3 σ4 hf => ?_)
    refine g_sub [] (L' := []) rfl ?_
    exact tX3_boundOf_44 X hq u3 σ4 hf
  · refine g_iload_n X dX3_boundOf_30 0 rfl rfl ?_
    refine g_goto (tgt := 44) X dX3_boundOf_31 (by decide) ?_
    refine g_sub [] (L' := []) rfl ?_
    exact tX3_boundOf_44 X hq u1 σ2 hf
def fX3_boundOf (v1 : Int32) (σ : Mem) : Option (Int32 × Mem) := fX3_boundOf_e v1 σ
theorem kX3_boundOf (l : Launch) (v1 : Int32) (σ : Mem) : KI l yX3_boundOf wsX3_boundOf rmX3_boundOf (fun ad => [.ref (ad 35), .int v1]) σ (fX3_boundOf v1 σ) := fun r hr => kt_of (by decide +kernel) rfl (fun _ => Nat.le_of_ble_eq_true rfl) (fun C X hne hq => tX3_boundOf_e X hq v1 σ hr)
/-! ### X3_costOf -/
abbrev rmX3_costOf : Room := { frames := 3, cells := 0, slots := 0, locals := 74 }
theorem infX3_costOf_X3 : ∀ w ∈ u_ws RX3 TX3 21, w ∈ wsX3_costOf := by decide +kernel
def fX3_costOf_114b (r95 : Nat → Int32 → Int32 → Mem → Option (Int32 × Mem)) (r114 : Nat → Int32 → Int32 → Int32 → Int32 → Mem → Option (Int32 × Mem)) (v1 : Nat) (v2 : Int32) (v3 : Int32) (v4 : Int32) (v5 : Int32) (σ : Mem) : Option (Int32 × Mem) :=
  if (rI σ 35 1) ≤ v5 then (if 0 ≤ v4 then (ltI (v2 + ((rI σ 35 13) * v4)) fun x1 =>
  r95 v1 x1 (v3 + 1) σ)
  else (some ((-1 : Int32), σ)))
  else (grd (inb (((5 : Int32) * v5) + v3) (ln v1)) (ltI (v4 - (rI σ v1 (ix (((5 : Int32) * v5) + v3)))) fun x2 =>
  r114 v1 v2 v3 x2 (v5 + 1) σ))
def fX3_costOf_114 (r95 : Nat → Int32 → Int32 → Mem → Option (Int32 × Mem)) : Nat → Nat → Int32 → Int32 → Int32 → Int32 → Mem → Option (Int32 × Mem)
  | 0 => fun _ _ _ _ _ _ => none
  | n + 1 => fX3_costOf_114b r95 (fX3_costOf_114 r95 n)
set_option maxHeartbeats 4000000 in
set_option maxRecDepth 100000 in
theorem tX3_costOf_114b {C : Ctx} (X : CX C cX3_costOf 6 RX3 wsX3_costOf rmX3_costOf (some .int)) {r : Int32 × Mem} (hq : QI C r) (r95 : Nat → Int32 → Int32 → Mem → Option (Int32 × Mem)) (ih95 : ∀ (v1 : Nat) (v2 : Int32) (v3 : Int32) (σ : Mem), ki v1 = 5 → r95 v1 v2 v3 σ = some r → G C 6 0 0 95 [(0, .ref (adr C 35)), (1, .ref (adr C v1)), (2, .int v2), (3, .int v3)] [] σ) (r114 : Nat → Int32 → Int32 → Int32 → Int32 → Mem → Option (Int32 × Mem)) (ih114 : ∀ (v1 : Nat) (v2 : Int32) (v3 : Int32) (v4 : Int32) (v5 : Int32) (σ : Mem), ki v1 = 5 → r114 v1 v2 v3 v4 v5 σ = some r → G C 6 0 0 114 [(0, .ref (adr C 35)), (1, .ref (adr C v1)), (2, .int v2), (3, .int v3), (4, .int v4), (5, .int v5)] [] σ) (v1 : Nat) (v2 : Int32) (v3 : Int32) (v4 : Int32) (v5 : Int32) (hv1 : ki v1 = 5) (σ : Mem) (hf : fX3_costOf_114b r95 r114 v1 v2 v3 v4 v5 σ = some r) : G C 6 0 0 114 [(0, .ref (adr C 35)), (1, .ref (adr C v1)), (2, .int v2), (3, .int v3), (4, .int v4), (5, .int v5)] [] σ := by
  unfold fX3_costOf_114b at hf
  refine g_iload X dX3_costOf_114 5 rfl ?_
  refine g_aload_n X dX3_costOf_116 0 rfl rfl ?_
  refine g_get (q := 35) (kf := 1) (v := .int (rI σ 35 1)) X obj_m rfl infX3_costOf_X3 (by decide) (by decide +kernel) rfl dX3_costOf_117 ?_
  refine g_icmp_ge (tgt := 142) X dX3_costOf_120 (by decide) hf (fun hf => ?_) (fun hf => ?_)
  · refine g_iload X dX3_costOf_142 4 rfl ?_
    refine g_if_ge (tgt := 149) X dX3_costOf_144 (by decide) hf (fun hf => ?_) (fun hf => ?_)
    · refine g_iload_n X dX3_costOf_149 2 rfl rfl ?_
      refine g_aload_n X dX3_costOf_150 0 rfl rfl ?_
      refine g_get (q := 35) (kf := 13) (v := .int (rI σ 35 13)) X obj_m rfl infX3_costOf_X3 (by decide) (by decide +kernel) rfl dX3_costOf_151 ?_
      refine g_iload X dX3_costOf_154 4 rfl ?_
      refine g_imul X dX3_costOf_156 ?_
      refine g_iadd X dX3_costOf_157 ?_
      refine s_istore_n (M := fun x1 => [(2, .int x1), (0, .ref (adr C 35)), (1, .ref (adr C v1)), (3, .int v3), (4, .int v4), (5, .int v5)]) X dX3_costOf_158 rfl (by decide) (fun _ => rfl) hf (fun x1 hf => ?_)
      refine g_iinc (v := (v3 + 1)) (L' := [(3, .int (v3 + 1)), (2, .int x1), (0, .ref (adr C 35)), (1, .ref (adr C v1)), (4, .int v4), (5, .int v5)]) X dX3_costOf_159 3 rfl rfl (by decide) rfl ?_
      refine g_goto (tgt := 95) X dX3_costOf_162 (by decide) ?_
      refine g_sub [2, 3, 1, 0] (L' := [(0, .ref (adr C 35)), (1, .ref (adr C v1)), (2, .int x1), (3, .int (v3 + 1))]) rfl ?_
      exact ih95 v1 x1 (v3 + 1) σ hv1 hf
    · refine g_iconst (v := (-1 : Int32)) X dX3_costOf_147 (by decide) ?_
      exact r_iret X hq dX3_costOf_148 hf
  · refine g_iload X dX3_costOf_123 4 rfl ?_
    refine g_aload_n X dX3_costOf_125 1 rfl rfl ?_
    refine g_iconst (v := (5 : Int32)) X dX3_costOf_126 (by decide) ?_
    refine g_iload X dX3_costOf_127 5 rfl ?_
    refine g_imul X dX3_costOf_129 ?_
    refine g_iload_n X dX3_costOf_130 3 rfl rfl ?_
    refine g_iadd X dX3_costOf_131 ?_
    refine g_iald (q := v1) (n := (ln v1)) X hv1 rfl dX3_costOf_132 hf (fun hf => ?_)
    refine g_isub X dX3_costOf_133 ?_
    refine s_istore (M := fun x2 => [(4, .int x2), (0, .ref (adr C 35)), (1, .ref (adr C v1)), (2, .int v2), (3, .int v3), (5, .int v5)]) X dX3_costOf_134 (by decide) (fun _ => rfl) hf (fun x2 hf => ?_)
    refine g_iinc (v := (v5 + 1)) (L' := [(5, .int (v5 + 1)), (4, .int x2), (0, .ref (adr C 35)), (1, .ref (adr C v1)), (2, .int v2), (3, .int v3)]) X dX3_costOf_136 5 rfl rfl (by decide) rfl ?_
    refine g_goto (tgt := 114) X dX3_costOf_139 (by decide) ?_
    refine g_sub [2, 3, 4, 5, 1, 0] (L' := [(0, .ref (adr C 35)), (1, .ref (adr C v1)), (2, .int v2), (3, .int v3), (4, .int x2), (5, .int (v5 + 1))]) rfl ?_
    exact ih114 v1 v2 v3 x2 (v5 + 1) σ hv1 hf
set_option maxHeartbeats 4000000 in
set_option maxRecDepth 100000 in
theorem tX3_costOf_114 {C : Ctx} (X : CX C cX3_costOf 6 RX3 wsX3_costOf rmX3_costOf (some .int)) {r : Int32 × Mem} (hq : QI C r) (r95 : Nat → Int32 → Int32 → Mem → Option (Int32 × Mem)) (ih95 : ∀ (v1 : Nat) (v2 : Int32) (v3 : Int32) (σ : Mem), ki v1 = 5 → r95 v1 v2 v3 σ = some r → G C 6 0 0 95 [(0, .ref (adr C 35)), (1, .ref (adr C v1)), (2, .int v2), (3, .int v3)] [] σ) : ∀ (n : Nat) (v1 : Nat) (v2 : Int32) (v3 : Int32) (v4 : Int32) (v5 : Int32) (hv1 : ki v1 = 5) (σ : Mem) (hf : fX3_costOf_114 r95 n v1 v2 v3 v4 v5 σ = some r), G C 6 0 0 114 [(0, .ref (adr C 35)), (1, .ref (adr C v1)), (2, .int v2), (3, .int v3), (4, .int v4), (5, .int v5)] [] σ := by
  intro n
  induction n with
  | zero => intros; rename_i hf; exact absurd (show (none : Option (Int32 × Mem)) = some r from hf) (by simp)
  | succ n ih =>
    intro v1 v2 v3 v4 v5 hv1 σ hf
    exact tX3_costOf_114b X hq r95 ih95 (fX3_costOf_114 r95 n) (fun v1 v2 v3 v4 v5 σ hv1 hf => ih v1 v2 v3 v4 v5 hv1 σ hf) v1 v2 v3 v4 v5 hv1 σ hf
def fX3_costOf_95b (r95 : Nat → Int32 → Int32 → Mem → Option (Int32 × Mem)) (v1 : Nat) (v2 : Int32) (v3 : Int32) (σ : Mem) : Option (Int32 × Mem) :=
  if (rI σ 35 2) ≤ v3 then (some (v2, σ))
  else (grd (inb v3 5) (ltI (rI σ 39 (ix v3)) fun x1 =>
  fX3_costOf_114 r95 FU v1 v2 v3 x1 (0 : Int32) σ))
def fX3_costOf_95 : Nat → Nat → Int32 → Int32 → Mem → Option (Int32 × Mem)
  | 0 => fun _ _ _ _ => none
  | n + 1 => fX3_costOf_95b (fX3_costOf_95 n)
set_option maxHeartbeats 4000000 in
set_option maxRecDepth 100000 in
theorem tX3_costOf_95b {C : Ctx} (X : CX C cX3_costOf 6 RX3 wsX3_costOf rmX3_costOf (some .int)) {r : Int32 × Mem} (hq : QI C r) (r95 : Nat → Int32 → Int32 → Mem → Option (Int32 × Mem)) (ih95 : ∀ (v1 : Nat) (v2 : Int32) (v3 : Int32) (σ : Mem), ki v1 = 5 → r95 v1 v2 v3 σ = some r → G C 6 0 0 95 [(0, .ref (adr C 35)), (1, .ref (adr C v1)), (2, .int v2), (3, .int v3)] [] σ) (v1 : Nat) (v2 : Int32) (v3 : Int32) (hv1 : ki v1 = 5) (σ : Mem) (hf : fX3_costOf_95b r95 v1 v2 v3 σ = some r) : G C 6 0 0 95 [(0, .ref (adr C 35)), (1, .ref (adr C v1)), (2, .int v2), (3, .int v3)] [] σ := by
  unfold fX3_costOf_95b at hf
  refine g_iload_n X dX3_costOf_95 3 rfl rfl ?_
  refine g_aload_n X dX3_costOf_96 0 rfl rfl ?_
  refine g_get (q := 35) (kf := 2) (v := .int (rI σ 35 2)) X obj_m rfl infX3_costOf_X3 (by decide) (by decide +kernel) rfl dX3_costOf_97 ?_
  refine g_icmp_ge (tgt := 165) X dX3_costOf_100 (by decide) hf (fun hf => ?_) (fun hf => ?_)
  · refine g_iload_n X dX3_costOf_165 2 rfl rfl ?_
    exact r_iret X hq dX3_costOf_166 hf
  · refine g_aload_n X dX3_costOf_103 0 rfl rfl ?_
    refine g_get (q := 35) (kf := 6) (v := .ref (adr C 39)) X obj_m rfl infX3_costOf_X3 (by decide) (by decide +kernel) rfl dX3_costOf_104 ?_
    refine g_iload_n X dX3_costOf_107 3 rfl rfl ?_
    refine g_iald (q := 39) (n := 5) X rfl rfl dX3_costOf_108 hf (fun hf => ?_)
    refine s_istore (M := fun x1 => [(4, .int x1), (0, .ref (adr C 35)), (1, .ref (adr C v1)), (2, .int v2), (3, .int v3)]) X dX3_costOf_109 (by decide) (fun _ => rfl) hf (fun x1 hf => ?_)
    refine g_iconst (v := (0 : Int32)) X dX3_costOf_111 (by decide) ?_
    refine g_istore (L' := [(5, .int (0 : Int32)), (4, .int x1), (0, .ref (adr C 35)), (1, .ref (adr C v1)), (2, .int v2), (3, .int v3)]) X dX3_costOf_112 (by decide) rfl ?_
    refine g_sub [2, 3, 4, 5, 1, 0] (L' := [(0, .ref (adr C 35)), (1, .ref (adr C v1)), (2, .int v2), (3, .int v3), (4, .int x1), (5, .int (0 : Int32))]) rfl ?_
    exact tX3_costOf_114 X hq r95 ih95 FU v1 v2 v3 x1 (0 : Int32) hv1 σ hf
set_option maxHeartbeats 4000000 in
set_option maxRecDepth 100000 in
theorem tX3_costOf_95 {C : Ctx} (X : CX C cX3_costOf 6 RX3 wsX3_costOf rmX3_costOf (some .int)) {r : Int32 × Mem} (hq : QI C r) : ∀ (n : Nat) (v1 : Nat) (v2 : Int32) (v3 : Int32) (hv1 : ki v1 = 5) (σ : Mem) (hf : fX3_costOf_95 n v1 v2 v3 σ = some r), G C 6 0 0 95 [(0, .ref (adr C 35)), (1, .ref (adr C v1)), (2, .int v2), (3, .int v3)] [] σ := by
  intro n
  induction n with
  | zero => intros; rename_i hf; exact absurd (show (none : Option (Int32 × Mem)) = some r from hf) (by simp)
  | succ n ih =>
    intro v1 v2 v3 hv1 σ hf
    exact tX3_costOf_95b X hq (fX3_costOf_95 n) (fun v1 v2 v3 σ hv1 hf => ih v1 v2 v3 hv1 σ hf) v1 v2 v3 hv1 σ hf
def fX3_costOf_23b (r4 : Nat → Int32 → Int32 → Mem → Option (Int32 × Mem)) (r23 : Nat → Int32 → Int32 → Int32 → Int32 → Mem → Option (Int32 × Mem)) (v1 : Nat) (v2 : Int32) (v3 : Int32) (v4 : Int32) (v5 : Int32) (σ : Mem) : Option (Int32 × Mem) :=
  if (rI σ 35 2) ≤ v5 then (if 0 ≤ v4 then (ltI (v2 + ((rI σ 35 12) * v4)) fun x1 =>
  r4 v1 x1 (v3 + 1) σ)
  else (some ((-1 : Int32), σ)))
  else (grd (inb (((5 : Int32) * v3) + v5) (ln v1)) (ltI (v4 - (rI σ v1 (ix (((5 : Int32) * v3) + v5)))) fun x2 =>
  grd (inb (((5 : Int32) * v3) + v5) (ln v1)) (bnd (fX3_unitOf v3 v5 σ) fun u3 σ4 =>
  ltI (v2 + ((rI σ v1 (ix (((5 : Int32) * v3) + v5))) * u3)) fun x5 =>
  r23 v1 x5 v3 x2 (v5 + 1) σ4)))
def fX3_costOf_23 (r4 : Nat → Int32 → Int32 → Mem → Option (Int32 × Mem)) : Nat → Nat → Int32 → Int32 → Int32 → Int32 → Mem → Option (Int32 × Mem)
  | 0 => fun _ _ _ _ _ _ => none
  | n + 1 => fX3_costOf_23b r4 (fX3_costOf_23 r4 n)
set_option maxHeartbeats 4000000 in
set_option maxRecDepth 100000 in
theorem tX3_costOf_23b {C : Ctx} (X : CX C cX3_costOf 6 RX3 wsX3_costOf rmX3_costOf (some .int)) {r : Int32 × Mem} (hq : QI C r) (r4 : Nat → Int32 → Int32 → Mem → Option (Int32 × Mem)) (ih4 : ∀ (v1 : Nat) (v2 : Int32) (v3 : Int32) (σ : Mem), ki v1 = 5 → r4 v1 v2 v3 σ = some r → G C 6 0 0 4 [(0, .ref (adr C 35)), (1, .ref (adr C v1)), (2, .int v2), (3, .int v3)] [] σ) (r23 : Nat → Int32 → Int32 → Int32 → Int32 → Mem → Option (Int32 × Mem)) (ih23 : ∀ (v1 : Nat) (v2 : Int32) (v3 : Int32) (v4 : Int32) (v5 : Int32) (σ : Mem), ki v1 = 5 → r23 v1 v2 v3 v4 v5 σ = some r → G C 6 0 0 23 [(0, .ref (adr C 35)), (1, .ref (adr C v1)), (2, .int v2), (3, .int v3), (4, .int v4), (5, .int v5)] [] σ) (v1 : Nat) (v2 : Int32) (v3 : Int32) (v4 : Int32) (v5 : Int32) (hv1 : ki v1 = 5) (σ : Mem) (hf : fX3_costOf_23b r4 r23 v1 v2 v3 v4 v5 σ = some r) : G C 6 0 0 23 [(0, .ref (adr C 35)), (1, .ref (adr C v1)), (2, .int v2), (3, .int v3), (4, .int v4), (5, .int v5)] [] σ := by
  unfold fX3_costOf_23b at hf
  refine g_iload X dX3_costOf_23 5 rfl ?_
  refine g_aload_n X dX3_costOf_25 0 rfl rfl ?_
  refine g_get (q := 35) (kf := 2) (v := .int (rI σ 35 2)) X obj_m rfl infX3_costOf_X3 (by decide) (by decide +kernel) rfl dX3_costOf_26 ?_
  refine g_icmp_ge (tgt := 70) X dX3_costOf_29 (by decide) hf (fun hf => ?_) (fun hf => ?_)
  · refine g_iload X dX3_costOf_70 4 rfl ?_
    refine g_if_ge (tgt := 77) X dX3_costOf_72 (by decide) hf (fun hf => ?_) (fun hf => ?_)
    · refine g_iload_n X dX3_costOf_77 2 rfl rfl ?_
      refine g_aload_n X dX3_costOf_78 0 rfl rfl ?_
      refine g_get (q := 35) (kf := 12) (v := .int (rI σ 35 12)) X obj_m rfl infX3_costOf_X3 (by decide) (by decide +kernel) rfl dX3_costOf_79 ?_
      refine g_iload X dX3_costOf_82 4 rfl ?_
      refine g_imul X dX3_costOf_84 ?_
      refine g_iadd X dX3_costOf_85 ?_
      refine s_istore_n (M := fun x1 => [(2, .int x1), (0, .ref (adr C 35)), (1, .ref (adr C v1)), (3, .int v3), (4, .int v4), (5, .int v5)]) X dX3_costOf_86 rfl (by decide) (fun _ => rfl) hf (fun x1 hf => ?_)
      refine g_iinc (v := (v3 + 1)) (L' := [(3, .int (v3 + 1)), (2, .int x1), (0, .ref (adr C 35)), (1, .ref (adr C v1)), (4, .int v4), (5, .int v5)]) X dX3_costOf_87 3 rfl rfl (by decide) rfl ?_
      refine g_goto (tgt := 4) X dX3_costOf_90 (by decide) ?_
      refine g_sub [2, 3, 1, 0] (L' := [(0, .ref (adr C 35)), (1, .ref (adr C v1)), (2, .int x1), (3, .int (v3 + 1))]) rfl ?_
      exact ih4 v1 x1 (v3 + 1) σ hv1 hf
    · refine g_iconst (v := (-1 : Int32)) X dX3_costOf_75 (by decide) ?_
      exact r_iret X hq dX3_costOf_76 hf
  · refine g_iload X dX3_costOf_32 4 rfl ?_
    refine g_aload_n X dX3_costOf_34 1 rfl rfl ?_
    refine g_iconst (v := (5 : Int32)) X dX3_costOf_35 (by decide) ?_
    refine g_iload_n X dX3_costOf_36 3 rfl rfl ?_
    refine g_imul X dX3_costOf_37 ?_
    refine g_iload X dX3_costOf_38 5 rfl ?_
    refine g_iadd X dX3_costOf_40 ?_
    refine g_iald (q := v1) (n := (ln v1)) X hv1 rfl dX3_costOf_41 hf (fun hf => ?_)
    refine g_isub X dX3_costOf_42 ?_
    refine s_istore (M := fun x2 => [(4, .int x2), (0, .ref (adr C 35)), (1, .ref (adr C v1)), (2, .int v2), (3, .int v3), (5, .int v5)]) X dX3_costOf_43 (by decide) (fun _ => rfl) hf (fun x2 hf => ?_)
    refine g_iload_n X dX3_costOf_45 3 rfl rfl ?_
    refine g_aload_n X dX3_costOf_46 2 rfl rfl ?_
    refine g_iconst (v := (5 : Int32)) X dX3_costOf_47 (by decide) ?_
    refine g_iload_n X dX3_costOf_48 4 rfl rfl ?_
    refine g_imul X dX3_costOf_49 ?_
    refine g_iload X dX3_costOf_50 5 rfl ?_
    refine g_iadd X dX3_costOf_52 ?_
    refine g_iald (q := v1) (n := (ln v1)) X hv1 rfl dX3_costOf_53 hf (fun hf => ?_)
    refine g_aload_n X dX3_costOf_54 1 rfl rfl ?_
    refine g_iload_n X dX3_costOf_55 4 rfl rfl ?_
    refine g_iload X dX3_costOf_56 5 rfl ?_
    refine c_VI (q := 35) (vs := [.int v3, .int v5]) (rest := [.int (rI σ v1 (ix (((5 : Int32) * v3) + v5))), .int v2]) X (kX3_unitOf (cL C) v3 v5 σ) (fun s a hts => cwV 2 hts gX3_costOf_X3_unitOf rfl rfl rfl (by decide +kernel) ⟨Nat.le_of_ble_eq_true rfl, Nat.le_of_ble_eq_true rfl⟩) obj_m (rfl : vwCl[3]? = some (RX3, TX3, 21)) rfl rfl rfl rfl (Nat.le_of_ble_eq_true rfl) dX3_costOf_58 ⟨Nat.le_of_ble_eq_true rfl, Nat.le_of_ble_eq_true rfl⟩ hf (fun u3 σ4 hf => ?_)
    refine g_imul X dX3_costOf_61 ?_
    refine g_iadd X dX3_costOf_62 ?_
    refine s_istore_n (M := fun x5 => [(2, .int x5), (4, .int x2), (0, .ref (adr C 35)), (1, .ref (adr C v1)), (3, .int v3), (5, .int v5)]) X dX3_costOf_63 rfl (by decide) (fun _ => rfl) hf (fun x5 hf => ?_)
    refine g_iinc (v := (v5 + 1)) (L' := [(5, .int (v5 + 1)), (2, .int x5), (4, .int x2), (0, .ref (adr C 35)), (1, .ref (adr C v1)), (3, .int v3)]) X dX3_costOf_64 5 rfl rfl (by decide) rfl ?_
    refine g_goto (tgt := 23) X dX3_costOf_67 (by decide) ?_
    refine g_sub [3, 4, 1, 5, 2, 0] (L' := [(0, .ref (adr C 35)), (1, .ref (adr C v1)), (2, .int x5), (3, .int v3), (4, .int x2), (5, .int (v5 + 1))]) rfl ?_
    exact ih23 v1 x5 v3 x2 (v5 + 1) σ4 hv1 hf
set_option maxHeartbeats 4000000 in
set_option maxRecDepth 100000 in
theorem tX3_costOf_23 {C : Ctx} (X : CX C cX3_costOf 6 RX3 wsX3_costOf rmX3_costOf (some .int)) {r : Int32 × Mem} (hq : QI C r) (r4 : Nat → Int32 → Int32 → Mem → Option (Int32 × Mem)) (ih4 : ∀ (v1 : Nat) (v2 : Int32) (v3 : Int32) (σ : Mem), ki v1 = 5 → r4 v1 v2 v3 σ = some r → G C 6 0 0 4 [(0, .ref (adr C 35)), (1, .ref (adr C v1)), (2, .int v2), (3, .int v3)] [] σ) : ∀ (n : Nat) (v1 : Nat) (v2 : Int32) (v3 : Int32) (v4 : Int32) (v5 : Int32) (hv1 : ki v1 = 5) (σ : Mem) (hf : fX3_costOf_23 r4 n v1 v2 v3 v4 v5 σ = some r), G C 6 0 0 23 [(0, .ref (adr C 35)), (1, .ref (adr C v1)), (2, .int v2), (3, .int v3), (4, .int v4), (5, .int v5)] [] σ := by
  intro n
  induction n with
  | zero => intros; rename_i hf; exact absurd (show (none : Option (Int32 × Mem)) = some r from hf) (by simp)
  | succ n ih =>
    intro v1 v2 v3 v4 v5 hv1 σ hf
    exact tX3_costOf_23b X hq r4 ih4 (fX3_costOf_23 r4 n) (fun v1 v2 v3 v4 v5 σ hv1 hf => ih v1 v2 v3 v4 v5 hv1 σ hf) v1 v2 v3 v4 v5 hv1 σ hf
def fX3_costOf_4b (r4 : Nat → Int32 → Int32 → Mem → Option (Int32 × Mem)) (v1 : Nat) (v2 : Int32) (v3 : Int32) (σ : Mem) : Option (Int32 × Mem) :=
  if (rI σ 35 1) ≤ v3 then (fX3_costOf_95 FU v1 v2 (0 : Int32) σ)
  else (grd (inb v3 5) (ltI (rI σ 37 (ix v3)) fun x1 =>
  fX3_costOf_23 r4 FU v1 v2 v3 x1 (0 : Int32) σ))
def fX3_costOf_4 : Nat → Nat → Int32 → Int32 → Mem → Option (Int32 × Mem)
  | 0 => fun _ _ _ _ => none
  | n + 1 => fX3_costOf_4b (fX3_costOf_4 n)
set_option maxHeartbeats 4000000 in
set_option maxRecDepth 100000 in
theorem tX3_costOf_4b {C : Ctx} (X : CX C cX3_costOf 6 RX3 wsX3_costOf rmX3_costOf (some .int)) {r : Int32 × Mem} (hq : QI C r) (r4 : Nat → Int32 → Int32 → Mem → Option (Int32 × Mem)) (ih4 : ∀ (v1 : Nat) (v2 : Int32) (v3 : Int32) (σ : Mem), ki v1 = 5 → r4 v1 v2 v3 σ = some r → G C 6 0 0 4 [(0, .ref (adr C 35)), (1, .ref (adr C v1)), (2, .int v2), (3, .int v3)] [] σ) (v1 : Nat) (v2 : Int32) (v3 : Int32) (hv1 : ki v1 = 5) (σ : Mem) (hf : fX3_costOf_4b r4 v1 v2 v3 σ = some r) : G C 6 0 0 4 [(0, .ref (adr C 35)), (1, .ref (adr C v1)), (2, .int v2), (3, .int v3)] [] σ := by
  unfold fX3_costOf_4b at hf
  refine g_iload_n X dX3_costOf_4 3 rfl rfl ?_
  refine g_aload_n X dX3_costOf_5 0 rfl rfl ?_
  refine g_get (q := 35) (kf := 1) (v := .int (rI σ 35 1)) X obj_m rfl infX3_costOf_X3 (by decide) (by decide +kernel) rfl dX3_costOf_6 ?_
  refine g_icmp_ge (tgt := 93) X dX3_costOf_9 (by decide) hf (fun hf => ?_) (fun hf => ?_)
  · refine g_iconst (v := (0 : Int32)) X dX3_costOf_93 (by decide) ?_
    refine g_istore_n (L' := [(3, .int (0 : Int32)), (0, .ref (adr C 35)), (1, .ref (adr C v1)), (2, .int v2)]) X dX3_costOf_94 rfl (by decide) rfl ?_
    refine g_sub [1, 2, 3, 0] (L' := [(0, .ref (adr C 35)), (1, .ref (adr C v1)), (2, .int v2), (3, .int (0 : Int32))]) rfl ?_
    exact tX3_costOf_95 X hq FU v1 v2 (0 : Int32) hv1 σ hf
  · refine g_aload_n X dX3_costOf_12 0 rfl rfl ?_
    refine g_get (q := 35) (kf := 4) (v := .ref (adr C 37)) X obj_m rfl infX3_costOf_X3 (by decide) (by decide +kernel) rfl dX3_costOf_13 ?_
    refine g_iload_n X dX3_costOf_16 3 rfl rfl ?_
    refine g_iald (q := 37) (n := 5) X rfl rfl dX3_costOf_17 hf (fun hf => ?_)
    refine s_istore (M := fun x1 => [(4, .int x1), (0, .ref (adr C 35)), (1, .ref (adr C v1)), (2, .int v2), (3, .int v3)]) X dX3_costOf_18 (by decide) (fun _ => rfl) hf (fun x1 hf => ?_)
    refine g_iconst (v := (0 : Int32)) X dX3_costOf_20 (by decide) ?_
    refine g_istore (L' := [(5, .int (0 : Int32)), (4, .int x1), (0, .ref (adr C 35)), (1, .ref (adr C v1)), (2, .int v2), (3, .int v3)]) X dX3_costOf_21 (by decide) rfl ?_
    refine g_sub [2, 3, 4, 5, 1, 0] (L' := [(0, .ref (adr C 35)), (1, .ref (adr C v1)), (2, .int v2), (3, .int v3), (4, .int x1), (5, .int (0 : Int32))]) rfl ?_
    exact tX3_costOf_23 X hq r4 ih4 FU v1 v2 v3 x1 (0 : Int32) hv1 σ hf
set_option maxHeartbeats 4000000 in
set_option maxRecDepth 100000 in
theorem tX3_costOf_4 {C : Ctx} (X : CX C cX3_costOf 6 RX3 wsX3_costOf rmX3_costOf (some .int)) {r : Int32 × Mem} (hq : QI C r) : ∀ (n : Nat) (v1 : Nat) (v2 : Int32) (v3 : Int32) (hv1 : ki v1 = 5) (σ : Mem) (hf : fX3_costOf_4 n v1 v2 v3 σ = some r), G C 6 0 0 4 [(0, .ref (adr C 35)), (1, .ref (adr C v1)), (2, .int v2), (3, .int v3)] [] σ := by
  intro n
  induction n with
  | zero => intros; rename_i hf; exact absurd (show (none : Option (Int32 × Mem)) = some r from hf) (by simp)
  | succ n ih =>
    intro v1 v2 v3 hv1 σ hf
    exact tX3_costOf_4b X hq (fX3_costOf_4 n) (fun v1 v2 v3 σ hv1 hf => ih v1 v2 v3 hv1 σ hf) v1 v2 v3 hv1 σ hf
def fX3_costOf_e (v1 : Nat) (σ : Mem) : Option (Int32 × Mem) :=
  fX3_costOf_4 FU v1 (0 : Int32) (0 : Int32) σ
set_option maxHeartbeats 4000000 in
set_option maxRecDepth 100000 in
theorem tX3_costOf_e {C : Ctx} (X : CX C cX3_costOf 6 RX3 wsX3_costOf rmX3_costOf (some .int)) {r : Int32 × Mem} (hq : QI C r) (v1 : Nat) (hv1 : ki v1 = 5) (σ : Mem) (hf : fX3_costOf_e v1 σ = some r) : G C 6 0 0 0 [(0, .ref (adr C 35)), (1, .ref (adr C v1))] [] σ := by
  unfold fX3_costOf_e at hf
  refine g_iconst (v := (0 : Int32)) X dX3_costOf_0 (by decide) ?_
  refine g_istore_n (L' := [(2, .int (0 : Int32)), (0, .ref (adr C 35)), (1, .ref (adr C v1))]) X dX3_costOf_1 rfl (by decide) rfl ?_
  refine g_iconst (v := (0 : Int32)) X dX3_costOf_2 (by decide) ?_
  refine g_istore_n (L' := [(3, .int (0 : Int32)), (2, .int (0 : Int32)), (0, .ref (adr C 35)), (1, .ref (adr C v1))]) X dX3_costOf_3 rfl (by decide) rfl ?_
  refine g_sub [2, 3, 1, 0] (L' := [(0, .ref (adr C 35)), (1, .ref (adr C v1)), (2, .int (0 : Int32)), (3, .int (0 : Int32))]) rfl ?_
  exact tX3_costOf_4 X hq FU v1 (0 : Int32) (0 : Int32) hv1 σ hf
def fX3_costOf (v1 : Nat) (σ : Mem) : Option (Int32 × Mem) := fX3_costOf_e v1 σ
theorem kX3_costOf (l : Launch) (v1 : Nat) (hv1 : ki v1 = 5) (σ : Mem) : KI l yX3_costOf wsX3_costOf rmX3_costOf (fun ad => [.ref (ad 35), .ref (ad v1)]) σ (fX3_costOf v1 σ) := fun r hr => kt_of (by decide +kernel) rfl (fun _ => Nat.le_of_ble_eq_true rfl) (fun C X hne hq => tX3_costOf_e X hq v1 hv1 σ hr)
/-! ### X3_goOn -/
abbrev rmX3_goOn : Room := { frames := 3, cells := 0, slots := 0, locals := 73 }
theorem infX3_goOn_X3 : ∀ w ∈ u_ws RX3 TX3 21, w ∈ wsX3_goOn := by decide +kernel
def fX3_goOn_47 (r2 : Int32 → Mem → Option (Int32 × Mem)) (v1 : Int32) (σ : Mem) : Option (Int32 × Mem) :=
  grd (inb v1 25) (ltM (wI σ 46 (ix v1) (0 : Int32)) fun σ1 =>
  r2 (v1 + 1) σ1)
set_option maxHeartbeats 4000000 in
set_option maxRecDepth 100000 in
theorem tX3_goOn_47 {C : Ctx} (X : CX C cX3_goOn 2 RX3 wsX3_goOn rmX3_goOn (some .boolean)) {r : Int32 × Mem} (hq : QI C r) (r2 : Int32 → Mem → Option (Int32 × Mem)) (ih2 : ∀ (v1 : Int32) (σ : Mem), r2 v1 σ = some r → G C 2 0 0 2 [(0, .ref (adr C 35)), (1, .int v1)] [] σ) (v1 : Int32) (σ : Mem) (hf : fX3_goOn_47 r2 v1 σ = some r) : G C 2 0 0 47 [(0, .ref (adr C 35)), (1, .int v1)] [] σ := by
  unfold fX3_goOn_47 at hf
  refine g_aload_n X dX3_goOn_47 0 rfl rfl ?_
  refine g_get (q := 35) (kf := 17) (v := .ref (adr C 46)) X obj_m rfl infX3_goOn_X3 (by decide) (by decide +kernel) rfl dX3_goOn_48 ?_
  refine g_iload_n X dX3_goOn_51 1 rfl rfl ?_
  refine g_iconst (v := (0 : Int32)) X dX3_goOn_52 (by decide) ?_
  refine s_iast (q := 46) (n := 25) X rfl rfl dX3_goOn_53 hf (fun σ1 hf => ?_)
  refine g_iinc (v := (v1 + 1)) (L' := [(1, .int (v1 + 1)), (0, .ref (adr C 35))]) X dX3_goOn_54 1 rfl rfl (by decide) rfl ?_
  refine g_goto (tgt := 2) X dX3_goOn_57 (by decide) ?_
  refine g_sub [1, 0] (L' := [(0, .ref (adr C 35)), (1, .int (v1 + 1))]) rfl ?_
  exact ih2 (v1 + 1) σ1 hf
def fX3_goOn_2b (r2 : Int32 → Mem → Option (Int32 × Mem)) (v1 : Int32) (σ : Mem) : Option (Int32 × Mem) :=
  if (25 : Int32) ≤ v1 then (grd (decide ((0 : Int32) = 0 ∨ (0 : Int32) = 1)) (some ((0 : Int32), σ)))
  else (bnd (fX3_isWay (v1 / (5 : Int32)) (v1 - v1 / (5 : Int32) * (5 : Int32)) σ) fun u1 σ2 =>
  if u1 = 0 then (fX3_goOn_47 r2 v1 σ2)
  else (grd (inb v1 25) (bnd (fX3_boundOf v1 σ2) fun u3 σ4 =>
  if u3 ≤ (rI σ2 46 (ix v1)) then (fX3_goOn_47 r2 v1 σ4)
  else (grd (inb v1 25) (grd (inb v1 25) (ltM (wI σ4 46 (ix v1) ((rI σ4 46 (ix v1)) + (1 : Int32))) fun σ5 =>
  grd (decide ((1 : Int32) = 0 ∨ (1 : Int32) = 1)) (some ((1 : Int32), σ5))))))))
def fX3_goOn_2 : Nat → Int32 → Mem → Option (Int32 × Mem)
  | 0 => fun _ _ => none
  | n + 1 => fX3_goOn_2b (fX3_goOn_2 n)
set_option maxHeartbeats 4000000 in
set_option maxRecDepth 100000 in
theorem tX3_goOn_2b {C : Ctx} (X : CX C cX3_goOn 2 RX3 wsX3_goOn rmX3_goOn (some .boolean)) {r : Int32 × Mem} (hq : QI C r) (r2 : Int32 → Mem → Option (Int32 × Mem)) (ih2 : ∀ (v1 : Int32) (σ : Mem), r2 v1 σ = some r → G C 2 0 0 2 [(0, .ref (adr C 35)), (1, .int v1)] [] σ) (v1 : Int32) (σ : Mem) (hf : fX3_goOn_2b r2 v1 σ = some r) : G C 2 0 0 2 [(0, .ref (adr C 35)), (1, .int v1)] [] σ := by
  unfold fX3_goOn_2b at hf
  refine g_iload_n X dX3_goOn_2 1 rfl rfl ?_
  refine g_bipush (v := (25 : Int32)) X dX3_goOn_3 (by decide) ?_
  refine g_icmp_ge (tgt := 60) X dX3_goOn_5 (by decide) hf (fun hf => ?_) (fun hf => ?_)
  · refine g_iconst (v := (0 : Int32)) X dX3_goOn_60 (by decide) ?_
    exact r_zret X hq dX3_goOn_61 hf
  · refine g_aload_n X dX3_goOn_8 0 rfl rfl ?_
    refine g_iload_n X dX3_goOn_9 1 rfl rfl ?_
    refine g_iconst (v := (5 : Int32)) X dX3_goOn_10 (by decide) ?_
    refine g_idivC X dX3_goOn_11 (by decide) ?_
    refine g_iload_n X dX3_goOn_12 1 rfl rfl ?_
    refine g_iconst (v := (5 : Int32)) X dX3_goOn_13 (by decide) ?_
    refine g_iremC X dX3_goOn_14 (by decide) ?_
    refine c_VI (q := 35) (vs := [.int (v1 / (5 : Int32)), .int (v1 - v1 / (5 : Int32) * (5 : Int32))]) (rest := []) X (kX3_isWay (cL C) (v1 / (5 : Int32)) (v1 - v1 / (5 : Int32) * (5 : Int32)) σ) (fun s a hts => cwV 2 hts gX3_goOn_X3_isWay rfl rfl rfl (by decide +kernel) ⟨Nat.le_of_ble_eq_true rfl, Nat.le_of_ble_eq_true rfl⟩) obj_m (rfl : vwCl[3]? = some (RX3, TX3, 21)) rfl rfl rfl rfl (Nat.le_of_ble_eq_true rfl) dX3_goOn_15 ⟨Nat.le_of_ble_eq_true rfl, Nat.le_of_ble_eq_true rfl⟩ hf (fun u1 σ2 hf => ?_)
    refine g_if_eq (tgt := 47) X dX3_goOn_18 (by decide) hf (fun hf => ?_) (fun hf => ?_)
    · exact tX3_goOn_47 X hq r2 ih2 v1 σ2 hf
    · refine g_aload_n X dX3_goOn_21 0 rfl rfl ?_
      refine g_get (q := 35) (kf := 17) (v := .ref (adr C 46)) X obj_m rfl infX3_goOn_X3 (by decide) (by decide +kernel) rfl dX3_goOn_22 ?_
      refine g_iload_n X dX3_goOn_25 1 rfl rfl ?_
      refine g_iald (q := 46) (n := 25) X rfl rfl dX3_goOn_26 hf (fun hf => ?_)
      refine g_aload_n X dX3_goOn_27 0 rfl rfl ?_
      refine g_iload_n X dX3_goOn_28 1 rfl rfl ?_
      refine c_VI (q := 35) (vs := [.int v1]) (rest := [.int (rI σ2 46 (ix v1))]) X (kX3_boundOf (cL C) v1 σ2) (fun s a hts => cwV 1 hts gX3_goOn_X3_boundOf rfl rfl rfl (by decide +kernel) ⟨Nat.le_of_ble_eq_true rfl, Nat.le_of_ble_eq_true rfl⟩) obj_m (rfl : vwCl[3]? = some (RX3, TX3, 21)) rfl rfl rfl rfl (Nat.le_of_ble_eq_true rfl) dX3_goOn_29 ⟨Nat.le_of_ble_eq_true rfl, Nat.le_of_ble_eq_true rfl⟩ hf (fun u3 σ4 hf => ?_)
      refine g_icmp_ge (tgt := 47) X dX3_goOn_32 (by decide) hf (fun hf => ?_) (fun hf => ?_)
      · exact tX3_goOn_47 X hq r2 ih2 v1 σ4 hf
      · refine g_aload_n X dX3_goOn_35 0 rfl rfl ?_
        refine g_get (q := 35) (kf := 17) (v := .ref (adr C 46)) X obj_m rfl infX3_goOn_X3 (by decide) (by decide +kernel) rfl dX3_goOn_36 ?_
        refine g_iload_n X dX3_goOn_39 1 rfl rfl ?_
        refine g_dup2 X dX3_goOn_40 rfl rfl ?_
        refine g_iald (q := 46) (n := 25) X rfl rfl dX3_goOn_41 hf (fun hf => ?_)
        refine g_iconst (v := (1 : Int32)) X dX3_goOn_42 (by decide) ?_
        refine g_iadd X dX3_goOn_43 ?_
        refine s_iast (q := 46) (n := 25) X rfl rfl dX3_goOn_44 hf (fun σ5 hf => ?_)
        refine g_iconst (v := (1 : Int32)) X dX3_goOn_45 (by decide) ?_
        exact r_zret X hq dX3_goOn_46 hf
set_option maxHeartbeats 4000000 in
set_option maxRecDepth 100000 in
theorem tX3_goOn_2 {C : Ctx} (X : CX C cX3_goOn 2 RX3 wsX3_goOn rmX3_goOn (some .boolean)) {r : Int32 × Mem} (hq : QI C r) : ∀ (n : Nat) (v1 : Int32) (σ : Mem) (hf : fX3_goOn_2 n v1 σ = some r), G C 2 0 0 2 [(0, .ref (adr C 35)), (1, .int v1)] [] σ := by
  intro n
  induction n with
  | zero => intros; rename_i hf; exact absurd (show (none : Option (Int32 × Mem)) = some r from hf) (by simp)
  | succ n ih =>
    intro v1 σ hf
    exact tX3_goOn_2b X hq (fX3_goOn_2 n) (fun v1 σ hf => ih v1 σ hf) v1 σ hf
def fX3_goOn_e (σ : Mem) : Option (Int32 × Mem) :=
  fX3_goOn_2 FU (0 : Int32) σ
set_option maxHeartbeats 4000000 in
set_option maxRecDepth 100000 in
theorem tX3_goOn_e {C : Ctx} (X : CX C cX3_goOn 2 RX3 wsX3_goOn rmX3_goOn (some .boolean)) {r : Int32 × Mem} (hq : QI C r) (σ : Mem) (hf : fX3_goOn_e σ = some r) : G C 2 0 0 0 [(0, .ref (adr C 35))] [] σ := by
  unfold fX3_goOn_e at hf
  refine g_iconst (v := (0 : Int32)) X dX3_goOn_0 (by decide) ?_
  refine g_istore_n (L' := [(1, .int (0 : Int32)), (0, .ref (adr C 35))]) X dX3_goOn_1 rfl (by decide) rfl ?_
  refine g_sub [1, 0] (L' := [(0, .ref (adr C 35)), (1, .int (0 : Int32))]) rfl ?_
  exact tX3_goOn_2 X hq FU (0 : Int32) σ hf
def fX3_goOn (σ : Mem) : Option (Int32 × Mem) := fX3_goOn_e σ
theorem kX3_goOn (l : Launch) (σ : Mem) : KI l yX3_goOn wsX3_goOn rmX3_goOn (fun ad => [.ref (ad 35)]) σ (fX3_goOn σ) := fun r hr => kt_of (by decide +kernel) rfl (fun _ => Nat.le_of_ble_eq_true rfl) (fun C X hne hq => tX3_goOn_e X hq σ hr)
/-! ### X3_tries -/
abbrev rmX3_tries : Room := { frames := 3, cells := 0, slots := 0, locals := 73 }
def fX3_tries_44 (r4 : Int64 → Int32 → Mem → Option (Int64 × Mem)) (v3 : Int32) (s0 : Int64) (s1 : Int64) (σ : Mem) : Option (Int64 × Mem) :=
  ltJ (s1 * s0) fun x1 =>
  r4 x1 (v3 + 1) σ
set_option maxHeartbeats 4000000 in
set_option maxRecDepth 100000 in
theorem tX3_tries_44 {C : Ctx} (X : CX C cX3_tries 4 RX3 wsX3_tries rmX3_tries (some .long)) {r : Int64 × Mem} (hq : QJ C r) (r4 : Int64 → Int32 → Mem → Option (Int64 × Mem)) (ih4 : ∀ (v1 : Int64) (v3 : Int32) (σ : Mem), r4 v1 v3 σ = some r → G C 4 0 0 4 [(0, .ref (adr C 35)), (1, .long v1), (3, .int v3)] [] σ) (v3 : Int32) (s0 : Int64) (s1 : Int64) (σ : Mem) (hf : fX3_tries_44 r4 v3 s0 s1 σ = some r) : G C 4 0 0 44 [(0, .ref (adr C 35)), (3, .int v3)] [.long s0, .long s1] σ := by
  unfold fX3_tries_44 at hf
  refine g_lmul X dX3_tries_44 ?_
  refine s_lstore_n (M := fun x1 => [(1, .long x1), (0, .ref (adr C 35)), (3, .int v3)]) X dX3_tries_45 rfl (by decide) (fun _ => rfl) hf (fun x1 hf => ?_)
  refine g_iinc (v := (v3 + 1)) (L' := [(3, .int (v3 + 1)), (1, .long x1), (0, .ref (adr C 35))]) X dX3_tries_46 2 rfl rfl (by decide) rfl ?_
  refine g_goto (tgt := 4) X dX3_tries_49 (by decide) ?_
  refine g_sub [2, 1, 0] (L' := [(0, .ref (adr C 35)), (1, .long x1), (3, .int (v3 + 1))]) rfl ?_
  exact ih4 x1 (v3 + 1) σ hf
def fX3_tries_43 (r4 : Int64 → Int32 → Mem → Option (Int64 × Mem)) (v3 : Int32) (s0 : Int64) (σ : Mem) : Option (Int64 × Mem) :=
  fX3_tries_44 r4 v3 (1 : Int64) s0 σ
set_option maxHeartbeats 4000000 in
set_option maxRecDepth 100000 in
theorem tX3_tries_43 {C : Ctx} (X : CX C cX3_tries 4 RX3 wsX3_tries rmX3_tries (some .long)) {r : Int64 × Mem} (hq : QJ C r) (r4 : Int64 → Int32 → Mem → Option (Int64 × Mem)) (ih4 : ∀ (v1 : Int64) (v3 : Int32) (σ : Mem), r4 v1 v3 σ = some r → G C 4 0 0 4 [(0, .ref (adr C 35)), (1, .long v1), (3, .int v3)] [] σ) (v3 : Int32) (s0 : Int64) (σ : Mem) (hf : fX3_tries_43 r4 v3 s0 σ = some r) : G C 4 0 0 43 [(0, .ref (adr C 35)), (3, .int v3)] [.long s0] σ := by
  unfold fX3_tries_43 at hf
  refine g_lconst (v := (1 : Int64)) X dX3_tries_43 (by decide) ?_
  exact tX3_tries_44 X hq r4 ih4 v3 (1 : Int64) s0 σ hf
def fX3_tries_4b (r4 : Int64 → Int32 → Mem → Option (Int64 × Mem)) (v1 : Int64) (v3 : Int32) (σ : Mem) : Option (Int64 × Mem) :=
  if (25 : Int32) ≤ v3 then (some (v1, σ))
  else (bnd (fX3_isWay (v3 / (5 : Int32)) (v3 - v3 / (5 : Int32) * (5 : Int32)) σ) fun u1 σ2 =>
  if u1 = 0 then (fX3_tries_43 r4 v3 v1 σ2)
  else (if 0 < (lg_cmp v1 (20000 : Int64)) then (fX3_tries_43 r4 v3 v1 σ2)
  else (bnd (fX3_boundOf v3 σ2) fun u3 σ4 =>
  fX3_tries_44 r4 v3 ((u3 + (1 : Int32)).toInt64) v1 σ4)))
def fX3_tries_4 : Nat → Int64 → Int32 → Mem → Option (Int64 × Mem)
  | 0 => fun _ _ _ => none
  | n + 1 => fX3_tries_4b (fX3_tries_4 n)
set_option maxHeartbeats 4000000 in
set_option maxRecDepth 100000 in
theorem tX3_tries_4b {C : Ctx} (X : CX C cX3_tries 4 RX3 wsX3_tries rmX3_tries (some .long)) {r : Int64 × Mem} (hq : QJ C r) (r4 : Int64 → Int32 → Mem → Option (Int64 × Mem)) (ih4 : ∀ (v1 : Int64) (v3 : Int32) (σ : Mem), r4 v1 v3 σ = some r → G C 4 0 0 4 [(0, .ref (adr C 35)), (1, .long v1), (3, .int v3)] [] σ) (v1 : Int64) (v3 : Int32) (σ : Mem) (hf : fX3_tries_4b r4 v1 v3 σ = some r) : G C 4 0 0 4 [(0, .ref (adr C 35)), (1, .long v1), (3, .int v3)] [] σ := by
  unfold fX3_tries_4b at hf
  refine g_iload_n X dX3_tries_4 2 rfl rfl ?_
  refine g_bipush (v := (25 : Int32)) X dX3_tries_5 (by decide) ?_
  refine g_icmp_ge (tgt := 52) X dX3_tries_7 (by decide) hf (fun hf => ?_) (fun hf => ?_)
  · refine g_lload_n X dX3_tries_52 1 rfl rfl ?_
    exact r_lret X hq dX3_tries_53 hf
  · refine g_lload_n X dX3_tries_10 1 rfl rfl ?_
    refine g_aload_n X dX3_tries_11 0 rfl rfl ?_
    refine g_iload_n X dX3_tries_12 2 rfl rfl ?_
    refine g_iconst (v := (5 : Int32)) X dX3_tries_13 (by decide) ?_
    refine g_idivC X dX3_tries_14 (by decide) ?_
    refine g_iload_n X dX3_tries_15 2 rfl rfl ?_
    refine g_iconst (v := (5 : Int32)) X dX3_tries_16 (by decide) ?_
    refine g_iremC X dX3_tries_17 (by decide) ?_
    refine c_VI (q := 35) (vs := [.int (v3 / (5 : Int32)), .int (v3 - v3 / (5 : Int32) * (5 : Int32))]) (rest := [.long v1]) X (kX3_isWay (cL C) (v3 / (5 : Int32)) (v3 - v3 / (5 : Int32) * (5 : Int32)) σ) (fun s a hts => cwV 2 hts gX3_tries_X3_isWay rfl rfl rfl (by decide +kernel) ⟨Nat.le_of_ble_eq_true rfl, Nat.le_of_ble_eq_true rfl⟩) obj_m (rfl : vwCl[3]? = some (RX3, TX3, 21)) rfl rfl rfl rfl (Nat.le_of_ble_eq_true rfl) dX3_tries_18 ⟨Nat.le_of_ble_eq_true rfl, Nat.le_of_ble_eq_true rfl⟩ hf (fun u1 σ2 hf => ?_)
    refine g_if_eq (tgt := 43) X dX3_tries_21 (by decide) hf (fun hf => ?_) (fun hf => ?_)
    · refine g_sub [0, 2] (L' := [(0, .ref (adr C 35)), (3, .int v3)]) rfl ?_
      exact tX3_tries_43 X hq r4 ih4 v3 v1 σ2 hf
    · refine g_lload_n X dX3_tries_24 1 rfl rfl ?_
      refine g_ldc2 (v := (20000 : Int64)) X (by decide +kernel) dX3_tries_25 ?_
      refine g_lcmp X dX3_tries_28 ?_
      refine g_if_gt (tgt := 43) X dX3_tries_29 (by decide) hf (fun hf => ?_) (fun hf => ?_)
      · refine g_sub [0, 2] (L' := [(0, .ref (adr C 35)), (3, .int v3)]) rfl ?_
        exact tX3_tries_43 X hq r4 ih4 v3 v1 σ2 hf
      · refine g_aload_n X dX3_tries_32 0 rfl rfl ?_
        refine g_iload_n X dX3_tries_33 2 rfl rfl ?_
        refine c_VI (q := 35) (vs := [.int v3]) (rest := [.long v1]) X (kX3_boundOf (cL C) v3 σ2) (fun s a hts => cwV 1 hts gX3_tries_X3_boundOf rfl rfl rfl (by decide +kernel) ⟨Nat.le_of_ble_eq_true rfl, Nat.le_of_ble_eq_true rfl⟩) obj_m (rfl : vwCl[3]? = some (RX3, TX3, 21)) rfl rfl rfl rfl (Nat.le_of_ble_eq_true rfl) dX3_tries_34 ⟨Nat.le_of_ble_eq_true rfl, Nat.le_of_ble_eq_true rfl⟩ hf (fun u3 σ4 hf => ?_)
        refine g_iconst (v := (1 : Int32)) X dX3_tries_37 (by decide) ?_
        refine g_iadd X dX3_tries_38 ?_
        refine g_i2l X dX3_tries_39 ?_
        refine g_goto (tgt := 44) X dX3_tries_40 (by decide) ?_
        refine g_sub [0, 2] (L' := [(0, .ref (adr C 35)), (3, .int v3)]) rfl ?_
        exact tX3_tries_44 X hq r4 ih4 v3 ((u3 + (1 : Int32)).toInt64) v1 σ4 hf
set_option maxHeartbeats 4000000 in
set_option maxRecDepth 100000 in
theorem tX3_tries_4 {C : Ctx} (X : CX C cX3_tries 4 RX3 wsX3_tries rmX3_tries (some .long)) {r : Int64 × Mem} (hq : QJ C r) : ∀ (n : Nat) (v1 : Int64) (v3 : Int32) (σ : Mem) (hf : fX3_tries_4 n v1 v3 σ = some r), G C 4 0 0 4 [(0, .ref (adr C 35)), (1, .long v1), (3, .int v3)] [] σ := by
  intro n
  induction n with
  | zero => intros; rename_i hf; exact absurd (show (none : Option (Int64 × Mem)) = some r from hf) (by simp)
  | succ n ih =>
    intro v1 v3 σ hf
    exact tX3_tries_4b X hq (fX3_tries_4 n) (fun v1 v3 σ hf => ih v1 v3 σ hf) v1 v3 σ hf
def fX3_tries_e (σ : Mem) : Option (Int64 × Mem) :=
  fX3_tries_4 FU (1 : Int64) (0 : Int32) σ
set_option maxHeartbeats 4000000 in
set_option maxRecDepth 100000 in
theorem tX3_tries_e {C : Ctx} (X : CX C cX3_tries 4 RX3 wsX3_tries rmX3_tries (some .long)) {r : Int64 × Mem} (hq : QJ C r) (σ : Mem) (hf : fX3_tries_e σ = some r) : G C 4 0 0 0 [(0, .ref (adr C 35))] [] σ := by
  unfold fX3_tries_e at hf
  refine g_lconst (v := (1 : Int64)) X dX3_tries_0 (by decide) ?_
  refine g_lstore_n (L' := [(1, .long (1 : Int64)), (0, .ref (adr C 35))]) X dX3_tries_1 rfl (by decide) rfl ?_
  refine g_iconst (v := (0 : Int32)) X dX3_tries_2 (by decide) ?_
  refine g_istore_n (L' := [(3, .int (0 : Int32)), (1, .long (1 : Int64)), (0, .ref (adr C 35))]) X dX3_tries_3 rfl (by decide) rfl ?_
  refine g_sub [2, 1, 0] (L' := [(0, .ref (adr C 35)), (1, .long (1 : Int64)), (3, .int (0 : Int32))]) rfl ?_
  exact tX3_tries_4 X hq FU (1 : Int64) (0 : Int32) σ hf
def fX3_tries (σ : Mem) : Option (Int64 × Mem) := fX3_tries_e σ
theorem kX3_tries (l : Launch) (σ : Mem) : KJ l yX3_tries wsX3_tries rmX3_tries (fun ad => [.ref (ad 35)]) σ (fX3_tries σ) := fun r hr => kt_of (by decide +kernel) rfl (fun _ => Nat.le_of_ble_eq_true rfl) (fun C X hne hq => tX3_tries_e X hq σ hr)
/-! ### X3_leastAnew -/
abbrev rmX3_leastAnew : Room := { frames := 4, cells := 0, slots := 0, locals := 99 }
theorem infX3_leastAnew_X3 : ∀ w ∈ u_ws RX3 TX3 21, w ∈ wsX3_leastAnew := by decide +kernel
def fX3_leastAnew_88 (r60 : Int32 → Int32 → Mem → Option (Int32 × Mem)) (s0 : Int32) (σ : Mem) : Option (Int32 × Mem) :=
  bnd (fX3_goOn σ) fun u1 σ2 =>
  r60 s0 u1 σ2
set_option maxHeartbeats 4000000 in
set_option maxRecDepth 100000 in
theorem tX3_leastAnew_88 {C : Ctx} (X : CX C cX3_leastAnew 4 RX3 wsX3_leastAnew rmX3_leastAnew (some .int)) {r : Int32 × Mem} (hq : QI C r) (r60 : Int32 → Int32 → Mem → Option (Int32 × Mem)) (ih60 : ∀ (v1 : Int32) (v2 : Int32) (σ : Mem), r60 v1 v2 σ = some r → G C 4 0 0 60 [(0, .ref (adr C 35)), (1, .int v1), (2, .int v2)] [] σ) (s0 : Int32) (σ : Mem) (hf : fX3_leastAnew_88 r60 s0 σ = some r) : G C 4 0 0 88 [(0, .ref (adr C 35))] [.int s0] σ := by
  unfold fX3_leastAnew_88 at hf
  refine g_istore_n (L' := [(1, .int s0), (0, .ref (adr C 35))]) X dX3_leastAnew_88 rfl (by decide) rfl ?_
  refine g_aload_n X dX3_leastAnew_89 1 rfl rfl ?_
  refine c_VI (q := 35) (vs := []) (rest := []) X (kX3_goOn (cL C) σ) (fun s a hts => cwV 0 hts gX3_leastAnew_X3_goOn rfl rfl rfl (by decide +kernel) ⟨Nat.le_of_ble_eq_true rfl, Nat.le_of_ble_eq_true rfl⟩) obj_m (rfl : vwCl[3]? = some (RX3, TX3, 21)) rfl rfl rfl rfl (Nat.le_of_ble_eq_true rfl) dX3_leastAnew_90 ⟨Nat.le_of_ble_eq_true rfl, Nat.le_of_ble_eq_true rfl⟩ hf (fun u1 σ2 hf => ?_)
  refine g_istore_n (L' := [(2, .int u1), (1, .int s0), (0, .ref (adr C 35))]) X dX3_leastAnew_93 rfl (by decide) rfl ?_
  refine g_goto (tgt := 60) X dX3_leastAnew_94 (by decide) ?_
  refine g_sub [2, 1, 0] (L' := [(0, .ref (adr C 35)), (1, .int s0), (2, .int u1)]) rfl ?_
  exact ih60 s0 u1 σ2 hf
def fX3_leastAnew_87 (r60 : Int32 → Int32 → Mem → Option (Int32 × Mem)) (v1 : Int32) (σ : Mem) : Option (Int32 × Mem) :=
  fX3_leastAnew_88 r60 v1 σ
set_option maxHeartbeats 4000000 in
set_option maxRecDepth 100000 in
theorem tX3_leastAnew_87 {C : Ctx} (X : CX C cX3_leastAnew 4 RX3 wsX3_leastAnew rmX3_leastAnew (some .int)) {r : Int32 × Mem} (hq : QI C r) (r60 : Int32 → Int32 → Mem → Option (Int32 × Mem)) (ih60 : ∀ (v1 : Int32) (v2 : Int32) (σ : Mem), r60 v1 v2 σ = some r → G C 4 0 0 60 [(0, .ref (adr C 35)), (1, .int v1), (2, .int v2)] [] σ) (v1 : Int32) (σ : Mem) (hf : fX3_leastAnew_87 r60 v1 σ = some r) : G C 4 0 0 87 [(0, .ref (adr C 35)), (1, .int v1)] [] σ := by
  unfold fX3_leastAnew_87 at hf
  refine g_iload_n X dX3_leastAnew_87 1 rfl rfl ?_
  refine g_sub [0] (L' := [(0, .ref (adr C 35))]) rfl ?_
  exact tX3_leastAnew_88 X hq r60 ih60 v1 σ hf
def fX3_leastAnew_60b (r60 : Int32 → Int32 → Mem → Option (Int32 × Mem)) (v1 : Int32) (v2 : Int32) (σ : Mem) : Option (Int32 × Mem) :=
  if v2 = 0 then (some (v1, σ))
  else (bnd (fX3_costOf 46 σ) fun u1 σ2 =>
  if u1 = (-1 : Int32) then (fX3_leastAnew_87 r60 v1 σ2)
  else (if v1 ≤ u1 then (fX3_leastAnew_87 r60 v1 σ2)
  else (fX3_leastAnew_88 r60 u1 σ2)))
def fX3_leastAnew_60 : Nat → Int32 → Int32 → Mem → Option (Int32 × Mem)
  | 0 => fun _ _ _ => none
  | n + 1 => fX3_leastAnew_60b (fX3_leastAnew_60 n)
set_option maxHeartbeats 4000000 in
set_option maxRecDepth 100000 in
theorem tX3_leastAnew_60b {C : Ctx} (X : CX C cX3_leastAnew 4 RX3 wsX3_leastAnew rmX3_leastAnew (some .int)) {r : Int32 × Mem} (hq : QI C r) (r60 : Int32 → Int32 → Mem → Option (Int32 × Mem)) (ih60 : ∀ (v1 : Int32) (v2 : Int32) (σ : Mem), r60 v1 v2 σ = some r → G C 4 0 0 60 [(0, .ref (adr C 35)), (1, .int v1), (2, .int v2)] [] σ) (v1 : Int32) (v2 : Int32) (σ : Mem) (hf : fX3_leastAnew_60b r60 v1 v2 σ = some r) : G C 4 0 0 60 [(0, .ref (adr C 35)), (1, .int v1), (2, .int v2)] [] σ := by
  unfold fX3_leastAnew_60b at hf
  refine g_iload_n X dX3_leastAnew_60 2 rfl rfl ?_
  refine g_if_eq (tgt := 97) X dX3_leastAnew_61 (by decide) hf (fun hf => ?_) (fun hf => ?_)
  · refine g_iload_n X dX3_leastAnew_97 1 rfl rfl ?_
    exact r_iret X hq dX3_leastAnew_98 hf
  · refine g_aload_n X dX3_leastAnew_64 0 rfl rfl ?_
    refine g_aload_n X dX3_leastAnew_65 0 rfl rfl ?_
    refine g_get (q := 35) (kf := 17) (v := .ref (adr C 46)) X obj_m rfl infX3_leastAnew_X3 (by decide) (by decide +kernel) rfl dX3_leastAnew_66 ?_
    refine c_VI (q := 35) (vs := [.ref (adr C 46)]) (rest := []) X (kX3_costOf (cL C) 46 rfl σ) (fun s a hts => cwV 1 hts gX3_leastAnew_X3_costOf rfl rfl rfl (by decide +kernel) ⟨Nat.le_of_ble_eq_true rfl, Nat.le_of_ble_eq_true rfl⟩) obj_m (rfl : vwCl[3]? = some (RX3, TX3, 21)) rfl rfl rfl rfl (Nat.le_of_ble_eq_true rfl) dX3_leastAnew_69 ⟨Nat.le_of_ble_eq_true rfl, Nat.le_of_ble_eq_true rfl⟩ hf (fun u1 σ2 hf => ?_)
    refine g_istore_n (L' := [(3, .int u1), (0, .ref (adr C 35)), (1, .int v1), (2, .int v2)]) X dX3_leastAnew_72 rfl (by decide) rfl ?_
    refine g_iload_n X dX3_leastAnew_73 0 rfl rfl ?_
    refine g_iconst (v := (-1 : Int32)) X dX3_leastAnew_74 (by decide) ?_
    refine g_icmp_eq (tgt := 87) X dX3_leastAnew_75 (by decide) hf (fun hf => ?_) (fun hf => ?_)
    · refine g_sub [1, 2] (L' := [(0, .ref (adr C 35)), (1, .int v1)]) rfl ?_
      exact tX3_leastAnew_87 X hq r60 ih60 v1 σ2 hf
    · refine g_iload_n X dX3_leastAnew_78 0 rfl rfl ?_
      refine g_iload_n X dX3_leastAnew_79 2 rfl rfl ?_
      refine g_icmp_ge (tgt := 87) X dX3_leastAnew_80 (by decide) hf (fun hf => ?_) (fun hf => ?_)
      · refine g_sub [1, 2] (L' := [(0, .ref (adr C 35)), (1, .int v1)]) rfl ?_
        exact tX3_leastAnew_87 X hq r60 ih60 v1 σ2 hf
      · refine g_iload_n X dX3_leastAnew_83 0 rfl rfl ?_
        refine g_goto (tgt := 88) X dX3_leastAnew_84 (by decide) ?_
        refine g_sub [1] (L' := [(0, .ref (adr C 35))]) rfl ?_
        exact tX3_leastAnew_88 X hq r60 ih60 u1 σ2 hf
set_option maxHeartbeats 4000000 in
set_option maxRecDepth 100000 in
theorem tX3_leastAnew_60 {C : Ctx} (X : CX C cX3_leastAnew 4 RX3 wsX3_leastAnew rmX3_leastAnew (some .int)) {r : Int32 × Mem} (hq : QI C r) : ∀ (n : Nat) (v1 : Int32) (v2 : Int32) (σ : Mem) (hf : fX3_leastAnew_60 n v1 v2 σ = some r), G C 4 0 0 60 [(0, .ref (adr C 35)), (1, .int v1), (2, .int v2)] [] σ := by
  intro n
  induction n with
  | zero => intros; rename_i hf; exact absurd (show (none : Option (Int32 × Mem)) = some r from hf) (by simp)
  | succ n ih =>
    intro v1 v2 σ hf
    exact tX3_leastAnew_60b X hq (fX3_leastAnew_60 n) (fun v1 v2 σ hf => ih v1 v2 σ hf) v1 v2 σ hf
def fX3_leastAnew_27b (r27 : Int32 → Mem → Option (Int32 × Mem)) (v1 : Int32) (σ : Mem) : Option (Int32 × Mem) :=
  if (25 : Int32) ≤ v1 then (bnd (fX3_costOf 46 σ) fun u1 σ2 =>
  bnd (fX3_goOn σ2) fun u3 σ4 =>
  fX3_leastAnew_60 FU u1 u3 σ4)
  else (grd (inb v1 25) (ltM (wI σ 46 (ix v1) (0 : Int32)) fun σ5 =>
  r27 (v1 + 1) σ5))
def fX3_leastAnew_27 : Nat → Int32 → Mem → Option (Int32 × Mem)
  | 0 => fun _ _ => none
  | n + 1 => fX3_leastAnew_27b (fX3_leastAnew_27 n)
set_option maxHeartbeats 4000000 in
set_option maxRecDepth 100000 in
theorem tX3_leastAnew_27b {C : Ctx} (X : CX C cX3_leastAnew 4 RX3 wsX3_leastAnew rmX3_leastAnew (some .int)) {r : Int32 × Mem} (hq : QI C r) (r27 : Int32 → Mem → Option (Int32 × Mem)) (ih27 : ∀ (v1 : Int32) (σ : Mem), r27 v1 σ = some r → G C 4 0 0 27 [(0, .ref (adr C 35)), (1, .int v1)] [] σ) (v1 : Int32) (σ : Mem) (hf : fX3_leastAnew_27b r27 v1 σ = some r) : G C 4 0 0 27 [(0, .ref (adr C 35)), (1, .int v1)] [] σ := by
  unfold fX3_leastAnew_27b at hf
  refine g_iload_n X dX3_leastAnew_27 1 rfl rfl ?_
  refine g_bipush (v := (25 : Int32)) X dX3_leastAnew_28 (by decide) ?_
  refine g_icmp_ge (tgt := 46) X dX3_leastAnew_30 (by decide) hf (fun hf => ?_) (fun hf => ?_)
  · refine g_aload_n X dX3_leastAnew_46 0 rfl rfl ?_
    refine g_aload_n X dX3_leastAnew_47 0 rfl rfl ?_
    refine g_get (q := 35) (kf := 17) (v := .ref (adr C 46)) X obj_m rfl infX3_leastAnew_X3 (by decide) (by decide +kernel) rfl dX3_leastAnew_48 ?_
    refine c_VI (q := 35) (vs := [.ref (adr C 46)]) (rest := []) X (kX3_costOf (cL C) 46 rfl σ) (fun s a hts => cwV 1 hts gX3_leastAnew_X3_costOf rfl rfl rfl (by decide +kernel) ⟨Nat.le_of_ble_eq_true rfl, Nat.le_of_ble_eq_true rfl⟩) obj_m (rfl : vwCl[3]? = some (RX3, TX3, 21)) rfl rfl rfl rfl (Nat.le_of_ble_eq_true rfl) dX3_leastAnew_51 ⟨Nat.le_of_ble_eq_true rfl, Nat.le_of_ble_eq_true rfl⟩ hf (fun u1 σ2 hf => ?_)
    refine g_istore_n (L' := [(1, .int u1), (0, .ref (adr C 35))]) X dX3_leastAnew_54 rfl (by decide) rfl ?_
    refine g_aload_n X dX3_leastAnew_55 1 rfl rfl ?_
    refine c_VI (q := 35) (vs := []) (rest := []) X (kX3_goOn (cL C) σ2) (fun s a hts => cwV 0 hts gX3_leastAnew_X3_goOn rfl rfl rfl (by decide +kernel) ⟨Nat.le_of_ble_eq_true rfl, Nat.le_of_ble_eq_true rfl⟩) obj_m (rfl : vwCl[3]? = some (RX3, TX3, 21)) rfl rfl rfl rfl (Nat.le_of_ble_eq_true rfl) dX3_leastAnew_56 ⟨Nat.le_of_ble_eq_true rfl, Nat.le_of_ble_eq_true rfl⟩ hf (fun u3 σ4 hf => ?_)
    refine g_istore_n (L' := [(2, .int u3), (1, .int u1), (0, .ref (adr C 35))]) X dX3_leastAnew_59 rfl (by decide) rfl ?_
    refine g_sub [2, 1, 0] (L' := [(0, .ref (adr C 35)), (1, .int u1), (2, .int u3)]) rfl ?_
    exact tX3_leastAnew_60 X hq FU u1 u3 σ4 hf
  · refine g_aload_n X dX3_leastAnew_33 0 rfl rfl ?_
    refine g_get (q := 35) (kf := 17) (v := .ref (adr C 46)) X obj_m rfl infX3_leastAnew_X3 (by decide) (by decide +kernel) rfl dX3_leastAnew_34 ?_
    refine g_iload_n X dX3_leastAnew_37 1 rfl rfl ?_
    refine g_iconst (v := (0 : Int32)) X dX3_leastAnew_38 (by decide) ?_
    refine s_iast (q := 46) (n := 25) X rfl rfl dX3_leastAnew_39 hf (fun σ5 hf => ?_)
    refine g_iinc (v := (v1 + 1)) (L' := [(1, .int (v1 + 1)), (0, .ref (adr C 35))]) X dX3_leastAnew_40 1 rfl rfl (by decide) rfl ?_
    refine g_goto (tgt := 27) X dX3_leastAnew_43 (by decide) ?_
    refine g_sub [1, 0] (L' := [(0, .ref (adr C 35)), (1, .int (v1 + 1))]) rfl ?_
    exact ih27 (v1 + 1) σ5 hf
set_option maxHeartbeats 4000000 in
set_option maxRecDepth 100000 in
theorem tX3_leastAnew_27 {C : Ctx} (X : CX C cX3_leastAnew 4 RX3 wsX3_leastAnew rmX3_leastAnew (some .int)) {r : Int32 × Mem} (hq : QI C r) : ∀ (n : Nat) (v1 : Int32) (σ : Mem) (hf : fX3_leastAnew_27 n v1 σ = some r), G C 4 0 0 27 [(0, .ref (adr C 35)), (1, .int v1)] [] σ := by
  intro n
  induction n with
  | zero => intros; rename_i hf; exact absurd (show (none : Option (Int32 × Mem)) = some r from hf) (by simp)
  | succ n ih =>
    intro v1 σ hf
    exact tX3_leastAnew_27b X hq (fX3_leastAnew_27 n) (fun v1 σ hf => ih v1 σ hf) v1 σ hf
def fX3_leastAnew_17 (s0 : Int32) (σ : Mem) : Option (Int32 × Mem) :=
  bnd (fX3_goesWell s0 σ) fun u1 σ2 =>
  if u1 = 0 then (some ((0 : Int32), σ2))
  else (fX3_leastAnew_27 FU (0 : Int32) σ2)
set_option maxHeartbeats 4000000 in
set_option maxRecDepth 100000 in
theorem tX3_leastAnew_17 {C : Ctx} (X : CX C cX3_leastAnew 4 RX3 wsX3_leastAnew rmX3_leastAnew (some .int)) {r : Int32 × Mem} (hq : QI C r) (s0 : Int32) (σ : Mem) (hf : fX3_leastAnew_17 s0 σ = some r) : G C 4 0 0 17 [(0, .ref (adr C 35))] [.int s0, .ref (adr C 35)] σ := by
  unfold fX3_leastAnew_17 at hf
  refine c_VI (q := 35) (vs := [.int s0]) (rest := []) X (kX3_goesWell (cL C) s0 σ) (fun s a hts => cwV 1 hts gX3_leastAnew_X3_goesWell rfl rfl rfl (by decide +kernel) ⟨Nat.le_of_ble_eq_true rfl, Nat.le_of_ble_eq_true rfl⟩) obj_m (rfl : vwCl[3]? = some (RX3, TX3, 21)) rfl rfl rfl rfl (Nat.le_of_ble_eq_true rfl) dX3_leastAnew_17 ⟨Nat.le_of_ble_eq_true rfl, Nat.le_of_ble_eq_true rfl⟩ hf (fun u1 σ2 hf => ?_)
  refine g_if_ne (tgt := 25) X dX3_leastAnew_20 (by decide) hf (fun hf => ?_) (fun hf => ?_)
  · refine g_iconst (v := (0 : Int32)) X dX3_leastAnew_25 (by decide) ?_
    refine g_istore_n (L' := [(1, .int (0 : Int32)), (0, .ref (adr C 35))]) X dX3_leastAnew_26 rfl (by decide) rfl ?_
    refine g_sub [1, 0] (L' := [(0, .ref (adr C 35)), (1, .int (0 : Int32))]) rfl ?_
    exact tX3_leastAnew_27 X hq FU (0 : Int32) σ2 hf
  · refine g_iconst (v := (0 : Int32)) X dX3_leastAnew_23 (by decide) ?_
    exact r_iret X hq dX3_leastAnew_24 hf
def fX3_leastAnew_e (σ : Mem) : Option (Int32 × Mem) :=
  bnd (fX3_tries σ) fun u1 σ2 =>
  if (lg_cmp u1 (20000 : Int64)) ≤ 0 then (fX3_leastAnew_17 (0 : Int32) σ2)
  else (fX3_leastAnew_17 (1 : Int32) σ2)
set_option maxHeartbeats 4000000 in
set_option maxRecDepth 100000 in
theorem tX3_leastAnew_e {C : Ctx} (X : CX C cX3_leastAnew 4 RX3 wsX3_leastAnew rmX3_leastAnew (some .int)) {r : Int32 × Mem} (hq : QI C r) (σ : Mem) (hf : fX3_leastAnew_e σ = some r) : G C 4 0 0 0 [(0, .ref (adr C 35))] [] σ := by
  unfold fX3_leastAnew_e at hf
  refine g_aload_n X dX3_leastAnew_0 0 rfl rfl ?_
  refine g_aload_n X dX3_leastAnew_1 0 rfl rfl ?_
  refine c_VJ (q := 35) (vs := []) (rest := [.ref (adr C 35)]) X (kX3_tries (cL C) σ) (fun s a hts => cwV 0 hts gX3_leastAnew_X3_tries rfl rfl rfl (by decide +kernel) ⟨Nat.le_of_ble_eq_true rfl, Nat.le_of_ble_eq_true rfl⟩) obj_m (rfl : vwCl[3]? = some (RX3, TX3, 21)) rfl rfl rfl rfl (Nat.le_of_ble_eq_true rfl) dX3_leastAnew_2 ⟨Nat.le_of_ble_eq_true rfl, Nat.le_of_ble_eq_true rfl⟩ hf (fun u1 σ2 hf => ?_)
  refine g_ldc2 (v := (20000 : Int64)) X (by decide +kernel) dX3_leastAnew_5 ?_
  refine g_lcmp X dX3_leastAnew_8 ?_
  refine g_if_le (tgt := 16) X dX3_leastAnew_9 (by decide) hf (fun hf => ?_) (fun hf => ?_)
  · refine g_iconst (v := (0 : Int32)) X dX3_leastAnew_16 (by decide) ?_
    exact tX3_leastAnew_17 X hq (0 : Int32) σ2 hf
  · refine g_iconst (v := (1 : Int32)) X dX3_leastAnew_12 (by decide) ?_
    refine g_goto (tgt := 17) X dX3_leastAnew_13 (by decide) ?_
    exact tX3_leastAnew_17 X hq (1 : Int32) σ2 hf
def fX3_leastAnew (σ : Mem) : Option (Int32 × Mem) := fX3_leastAnew_e σ
theorem kX3_leastAnew (l : Launch) (σ : Mem) : KI l yX3_leastAnew wsX3_leastAnew rmX3_leastAnew (fun ad => [.ref (ad 35)]) σ (fX3_leastAnew σ) := fun r hr => kt_of (by decide +kernel) rfl (fun _ => Nat.le_of_ble_eq_true rfl) (fun C X hne hq => tX3_leastAnew_e X hq σ hr)
/-! ### X3_priceOf -/
abbrev rmX3_priceOf : Room := { frames := 8, cells := 0, slots := 0, locals := 186 }
theorem infX3_priceOf_X3 : ∀ w ∈ u_ws RX3 TX3 21, w ∈ wsX3_priceOf := by decide +kernel
def fX3_priceOf_e (v1 : Int32) (v2 : Int32) (σ : Mem) : Option (Int32 × Mem) :=
  bnd (fX3_leastOf σ) fun u1 σ2 =>
  if v1 = 0 then (grd (inb v2 5) (grd (inb v2 5) (ltM (wI σ2 43 (ix v2) ((rI σ2 43 (ix v2)) + (1 : Int32))) fun σ3 =>
  bnd (fX3_solve σ3) fun u4 σ5 =>
  some ((u4 - u1), σ5))))
  else (grd (inb v2 5) (grd (inb v2 5) (ltM (wI σ2 44 (ix v2) ((rI σ2 44 (ix v2)) - (1 : Int32))) fun σ6 =>
  bnd (fX3_solve σ6) fun u7 σ8 =>
  some ((u1 - u7), σ8))))
set_option maxHeartbeats 4000000 in
set_option maxRecDepth 100000 in
theorem tX3_priceOf_e {C : Ctx} (X : CX C cX3_priceOf 4 RX3 wsX3_priceOf rmX3_priceOf (some .int)) {r : Int32 × Mem} (hq : QI C r) (v1 : Int32) (v2 : Int32) (σ : Mem) (hf : fX3_priceOf_e v1 v2 σ = some r) : G C 4 0 0 0 [(0, .ref (adr C 35)), (1, .int v1), (2, .int v2)] [] σ := by
  unfold fX3_priceOf_e at hf
  refine g_aload_n X dX3_priceOf_0 0 rfl rfl ?_
  refine c_VI (q := 35) (vs := []) (rest := []) X (kX3_leastOf (cL C) σ) (fun s a hts => cwV 0 hts gX3_priceOf_X3_leastOf rfl rfl rfl (by decide +kernel) ⟨Nat.le_of_ble_eq_true rfl, Nat.le_of_ble_eq_true rfl⟩) obj_m (rfl : vwCl[3]? = some (RX3, TX3, 21)) rfl rfl rfl rfl (Nat.le_of_ble_eq_true rfl) dX3_priceOf_1 ⟨Nat.le_of_ble_eq_true rfl, Nat.le_of_ble_eq_true rfl⟩ hf (fun u1 σ2 hf => ?_)
  refine g_istore_n (L' := [(3, .int u1), (0, .ref (adr C 35)), (1, .int v1), (2, .int v2)]) X dX3_priceOf_4 rfl (by decide) rfl ?_
  refine g_iload_n X dX3_priceOf_5 2 rfl rfl ?_
  refine g_if_eq (tgt := 26) X dX3_priceOf_6 (by decide) hf (fun hf => ?_) (fun hf => ?_)
  · refine g_aload_n X dX3_priceOf_26 1 rfl rfl ?_
    refine g_get (q := 35) (kf := 14) (v := .ref (adr C 43)) X obj_m rfl infX3_priceOf_X3 (by decide) (by decide +kernel) rfl dX3_priceOf_27 ?_
    refine g_iload_n X dX3_priceOf_30 3 rfl rfl ?_
    refine g_dup2 X dX3_priceOf_31 rfl rfl ?_
    refine g_iald (q := 43) (n := 5) X rfl rfl dX3_priceOf_32 hf (fun hf => ?_)
    refine g_iconst (v := (1 : Int32)) X dX3_priceOf_33 (by decide) ?_
    refine g_iadd X dX3_priceOf_34 ?_
    refine s_iast (q := 43) (n := 5) X rfl rfl dX3_priceOf_35 hf (fun σ3 hf => ?_)
    refine g_aload_n X dX3_priceOf_36 1 rfl rfl ?_
    refine c_VI (q := 35) (vs := []) (rest := []) X (kX3_solve (cL C) σ3) (fun s a hts => cwV 0 hts gX3_priceOf_X3_solve rfl rfl rfl (by decide +kernel) ⟨Nat.le_of_ble_eq_true rfl, Nat.le_of_ble_eq_true rfl⟩) obj_m (rfl : vwCl[3]? = some (RX3, TX3, 21)) rfl rfl rfl rfl (Nat.le_of_ble_eq_true rfl) dX3_priceOf_37 ⟨Nat.le_of_ble_eq_true rfl, Nat.le_of_ble_eq_true rfl⟩ hf (fun u4 σ5 hf => ?_)
    refine g_iload_n X dX3_priceOf_40 0 rfl rfl ?_
    refine g_isub X dX3_priceOf_41 ?_
    exact r_iret X hq dX3_priceOf_42 hf
  · refine g_aload_n X dX3_priceOf_9 1 rfl rfl ?_
    refine g_get (q := 35) (kf := 15) (v := .ref (adr C 44)) X obj_m rfl infX3_priceOf_X3 (by decide) (by decide +kernel) rfl dX3_priceOf_10 ?_
    refine g_iload_n X dX3_priceOf_13 3 rfl rfl ?_
    refine g_dup2 X dX3_priceOf_14 rfl rfl ?_
    refine g_iald (q := 44) (n := 5) X rfl rfl dX3_priceOf_15 hf (fun hf => ?_)
    refine g_iconst (v := (1 : Int32)) X dX3_priceOf_16 (by decide) ?_
    refine g_isub X dX3_priceOf_17 ?_
    refine s_iast (q := 44) (n := 5) X rfl rfl dX3_priceOf_18 hf (fun σ6 hf => ?_)
    refine g_iload_n X dX3_priceOf_19 0 rfl rfl ?_
    refine g_aload_n X dX3_priceOf_20 1 rfl rfl ?_
    refine c_VI (q := 35) (vs := []) (rest := [.int u1]) X (kX3_solve (cL C) σ6) (fun s a hts => cwV 0 hts gX3_priceOf_X3_solve rfl rfl rfl (by decide +kernel) ⟨Nat.le_of_ble_eq_true rfl, Nat.le_of_ble_eq_true rfl⟩) obj_m (rfl : vwCl[3]? = some (RX3, TX3, 21)) rfl rfl rfl rfl (Nat.le_of_ble_eq_true rfl) dX3_priceOf_21 ⟨Nat.le_of_ble_eq_true rfl, Nat.le_of_ble_eq_true rfl⟩ hf (fun u7 σ8 hf => ?_)
    refine g_isub X dX3_priceOf_24 ?_
    exact r_iret X hq dX3_priceOf_25 hf
def fX3_priceOf (v1 : Int32) (v2 : Int32) (σ : Mem) : Option (Int32 × Mem) := fX3_priceOf_e v1 v2 σ
theorem kX3_priceOf (l : Launch) (v1 : Int32) (v2 : Int32) (σ : Mem) : KI l yX3_priceOf wsX3_priceOf rmX3_priceOf (fun ad => [.ref (ad 35), .int v1, .int v2]) σ (fX3_priceOf v1 v2 σ) := fun r hr => kt_of (by decide +kernel) rfl (fun _ => Nat.le_of_ble_eq_true rfl) (fun C X hne hq => tX3_priceOf_e X hq v1 v2 σ hr)
/-! ### X3_price -/
abbrev rmX3_price : Room := { frames := 9, cells := 0, slots := 0, locals := 209 }
def fX3_price_31 (s0 : Int32) (σ : Mem) : Option (Int32 × Mem) :=
  some (s0, σ)
set_option maxHeartbeats 4000000 in
set_option maxRecDepth 100000 in
theorem tX3_price_31 {C : Ctx} (X : CX C cX3_price 3 RX3 wsX3_price rmX3_price (some .int)) {r : Int32 × Mem} (hq : QI C r) (s0 : Int32) (σ : Mem) (hf : fX3_price_31 s0 σ = some r) : G C 3 0 0 31 [] [.int s0] σ := by
  unfold fX3_price_31 at hf
  exact r_iret X hq dX3_price_31 hf
def fX3_price_15 (v1 : Int32) (v2 : Int32) (s0 : Int32) (σ : Mem) : Option (Int32 × Mem) :=
  bnd (fX3_goesWell s0 σ) fun u1 σ2 =>
  if u1 = 0 then (fX3_price_31 (0 : Int32) σ2)
  else (bnd (fX3_priceOf v1 v2 σ2) fun u3 σ4 =>
  fX3_price_31 u3 σ4)
set_option maxHeartbeats 4000000 in
set_option maxRecDepth 100000 in
theorem tX3_price_15 {C : Ctx} (X : CX C cX3_price 3 RX3 wsX3_price rmX3_price (some .int)) {r : Int32 × Mem} (hq : QI C r) (v1 : Int32) (v2 : Int32) (s0 : Int32) (σ : Mem) (hf : fX3_price_15 v1 v2 s0 σ = some r) : G C 3 0 0 15 [(0, .ref (adr C 35)), (1, .int v1), (2, .int v2)] [.int s0, .ref (adr C 35)] σ := by
  unfold fX3_price_15 at hf
  refine c_VI (q := 35) (vs := [.int s0]) (rest := []) X (kX3_goesWell (cL C) s0 σ) (fun s a hts => cwV 1 hts gX3_price_X3_goesWell rfl rfl rfl (by decide +kernel) ⟨Nat.le_of_ble_eq_true rfl, Nat.le_of_ble_eq_true rfl⟩) obj_m (rfl : vwCl[3]? = some (RX3, TX3, 21)) rfl rfl rfl rfl (Nat.le_of_ble_eq_true rfl) dX3_price_15 ⟨Nat.le_of_ble_eq_true rfl, Nat.le_of_ble_eq_true rfl⟩ hf (fun u1 σ2 hf => ?_)
  refine g_if_eq (tgt := 30) X dX3_price_18 (by decide) hf (fun hf => ?_) (fun hf => ?_)
  · refine g_iconst (v := (0 : Int32)) X dX3_price_30 (by decide) ?_
    refine g_sub [] (L' := []) rfl ?_
    exact tX3_price_31 X hq (0 : Int32) σ2 hf
  · refine g_aload_n X dX3_price_21 0 rfl rfl ?_
    refine g_iload_n X dX3_price_22 1 rfl rfl ?_
    refine g_iload_n X dX3_price_23 2 rfl rfl ?_
    refine c_VI (q := 35) (vs := [.int v1, .int v2]) (rest := []) X (kX3_priceOf (cL C) v1 v2 σ2) (fun s a hts => cwV 2 hts gX3_price_X3_priceOf rfl rfl rfl (by decide +kernel) ⟨Nat.le_of_ble_eq_true rfl, Nat.le_of_ble_eq_true rfl⟩) obj_m (rfl : vwCl[3]? = some (RX3, TX3, 21)) rfl rfl rfl rfl (Nat.le_of_ble_eq_true rfl) dX3_price_24 ⟨Nat.le_of_ble_eq_true rfl, Nat.le_of_ble_eq_true rfl⟩ hf (fun u3 σ4 hf => ?_)
    refine g_goto (tgt := 31) X dX3_price_27 (by decide) ?_
    refine g_sub [] (L' := []) rfl ?_
    exact tX3_price_31 X hq u3 σ4 hf
def fX3_price_e (v1 : Int32) (v2 : Int32) (σ : Mem) : Option (Int32 × Mem) :=
  bnd (fX3_isOne v1 v2 σ) fun u1 σ2 =>
  if u1 = 0 then (fX3_price_15 v1 v2 (1 : Int32) σ2)
  else (fX3_price_15 v1 v2 (0 : Int32) σ2)
set_option maxHeartbeats 4000000 in
set_option maxRecDepth 100000 in
theorem tX3_price_e {C : Ctx} (X : CX C cX3_price 3 RX3 wsX3_price rmX3_price (some .int)) {r : Int32 × Mem} (hq : QI C r) (v1 : Int32) (v2 : Int32) (σ : Mem) (hf : fX3_price_e v1 v2 σ = some r) : G C 3 0 0 0 [(0, .ref (adr C 35)), (1, .int v1), (2, .int v2)] [] σ := by
  unfold fX3_price_e at hf
  refine g_aload_n X dX3_price_0 0 rfl rfl ?_
  refine g_aload_n X dX3_price_1 0 rfl rfl ?_
  refine g_iload_n X dX3_price_2 1 rfl rfl ?_
  refine g_iload_n X dX3_price_3 2 rfl rfl ?_
  refine c_VI (q := 35) (vs := [.int v1, .int v2]) (rest := [.ref (adr C 35)]) X (kX3_isOne (cL C) v1 v2 σ) (fun s a hts => cwV 2 hts gX3_price_X3_isOne rfl rfl rfl (by decide +kernel) ⟨Nat.le_of_ble_eq_true rfl, Nat.le_of_ble_eq_true rfl⟩) obj_m (rfl : vwCl[3]? = some (RX3, TX3, 21)) rfl rfl rfl rfl (Nat.le_of_ble_eq_true rfl) dX3_price_4 ⟨Nat.le_of_ble_eq_true rfl, Nat.le_of_ble_eq_true rfl⟩ hf (fun u1 σ2 hf => ?_)
  refine g_if_eq (tgt := 14) X dX3_price_7 (by decide) hf (fun hf => ?_) (fun hf => ?_)
  · refine g_iconst (v := (1 : Int32)) X dX3_price_14 (by decide) ?_
    exact tX3_price_15 X hq v1 v2 (1 : Int32) σ2 hf
  · refine g_iconst (v := (0 : Int32)) X dX3_price_10 (by decide) ?_
    refine g_goto (tgt := 15) X dX3_price_11 (by decide) ?_
    exact tX3_price_15 X hq v1 v2 (0 : Int32) σ2 hf
def fX3_price (v1 : Int32) (v2 : Int32) (σ : Mem) : Option (Int32 × Mem) := fX3_price_e v1 v2 σ
theorem kX3_price (l : Launch) (v1 : Int32) (v2 : Int32) (σ : Mem) : KI l yX3_price wsX3_price rmX3_price (fun ad => [.ref (ad 35), .int v1, .int v2]) σ (fX3_price v1 v2 σ) := fun r hr => kt_of (by decide +kernel) rfl (fun _ => Nat.le_of_ble_eq_true rfl) (fun C X hne hq => tX3_price_e X hq v1 v2 σ hr)
/-! ### X3_tollOf -/
abbrev rmX3_tollOf : Room := { frames := 9, cells := 0, slots := 0, locals := 209 }
theorem infX3_tollOf_X3 : ∀ w ∈ u_ws RX3 TX3 21, w ∈ wsX3_tollOf := by decide +kernel
def fX3_tollOf_48 (s0 : Int32) (σ : Mem) : Option (Int32 × Mem) :=
  some (s0, σ)
set_option maxHeartbeats 4000000 in
set_option maxRecDepth 100000 in
theorem tX3_tollOf_48 {C : Ctx} (X : CX C cX3_tollOf 4 RX3 wsX3_tollOf rmX3_tollOf (some .int)) {r : Int32 × Mem} (hq : QI C r) (s0 : Int32) (σ : Mem) (hf : fX3_tollOf_48 s0 σ = some r) : G C 4 0 0 48 [] [.int s0] σ := by
  unfold fX3_tollOf_48 at hf
  exact r_iret X hq dX3_tollOf_48 hf
def fX3_tollOf_38 (s0 : Int32) (σ : Mem) : Option (Int32 × Mem) :=
  if s0 ≤ 0 then (fX3_tollOf_48 (0 : Int32) σ)
  else (fX3_tollOf_48 s0 σ)
set_option maxHeartbeats 4000000 in
set_option maxRecDepth 100000 in
theorem tX3_tollOf_38 {C : Ctx} (X : CX C cX3_tollOf 4 RX3 wsX3_tollOf rmX3_tollOf (some .int)) {r : Int32 × Mem} (hq : QI C r) (s0 : Int32) (σ : Mem) (hf : fX3_tollOf_38 s0 σ = some r) : G C 4 0 0 38 [] [.int s0] σ := by
  unfold fX3_tollOf_38 at hf
  refine g_istore_n (L' := [(3, .int s0)]) X dX3_tollOf_38 rfl (by decide) rfl ?_
  refine g_iload_n X dX3_tollOf_39 0 rfl rfl ?_
  refine g_if_le (tgt := 47) X dX3_tollOf_40 (by decide) hf (fun hf => ?_) (fun hf => ?_)
  · refine g_iconst (v := (0 : Int32)) X dX3_tollOf_47 (by decide) ?_
    refine g_sub [] (L' := []) rfl ?_
    exact tX3_tollOf_48 X hq (0 : Int32) σ hf
  · refine g_iload_n X dX3_tollOf_43 0 rfl rfl ?_
    refine g_goto (tgt := 48) X dX3_tollOf_44 (by decide) ?_
    refine g_sub [] (L' := []) rfl ?_
    exact tX3_tollOf_48 X hq s0 σ hf
def fX3_tollOf_e (v1 : Int32) (v2 : Int32) (σ : Mem) : Option (Int32 × Mem) :=
  grd (inb (((5 : Int32) * v1) + v2) 25) (if (rI σ 41 (ix (((5 : Int32) * v1) + v2))) = (-1 : Int32) then (fX3_tollOf_38 (0 : Int32) σ)
  else (bnd (fX3_priceOf (0 : Int32) v1 σ) fun u1 σ2 =>
  bnd (fX3_priceOf (1 : Int32) v2 σ2) fun u3 σ4 =>
  bnd (fX3_unitOf v1 v2 σ4) fun u5 σ6 =>
  fX3_tollOf_38 ((u1 + u3) - u5) σ6))
set_option maxHeartbeats 4000000 in
set_option maxRecDepth 100000 in
theorem tX3_tollOf_e {C : Ctx} (X : CX C cX3_tollOf 4 RX3 wsX3_tollOf rmX3_tollOf (some .int)) {r : Int32 × Mem} (hq : QI C r) (v1 : Int32) (v2 : Int32) (σ : Mem) (hf : fX3_tollOf_e v1 v2 σ = some r) : G C 4 0 0 0 [(0, .ref (adr C 35)), (1, .int v1), (2, .int v2)] [] σ := by
  unfold fX3_tollOf_e at hf
  refine g_aload_n X dX3_tollOf_0 0 rfl rfl ?_
  refine g_get (q := 35) (kf := 10) (v := .ref (adr C 41)) X obj_m rfl infX3_tollOf_X3 (by decide) (by decide +kernel) rfl dX3_tollOf_1 ?_
  refine g_iconst (v := (5 : Int32)) X dX3_tollOf_4 (by decide) ?_
  refine g_iload_n X dX3_tollOf_5 1 rfl rfl ?_
  refine g_imul X dX3_tollOf_6 ?_
  refine g_iload_n X dX3_tollOf_7 2 rfl rfl ?_
  refine g_iadd X dX3_tollOf_8 ?_
  refine g_iald (q := 41) (n := 25) X rfl rfl dX3_tollOf_9 hf (fun hf => ?_)
  refine g_iconst (v := (-1 : Int32)) X dX3_tollOf_10 (by decide) ?_
  refine g_icmp_ne (tgt := 18) X dX3_tollOf_11 (by decide) hf (fun hf => ?_) (fun hf => ?_)
  · refine g_aload_n X dX3_tollOf_18 0 rfl rfl ?_
    refine g_iconst (v := (0 : Int32)) X dX3_tollOf_19 (by decide) ?_
    refine g_iload_n X dX3_tollOf_20 1 rfl rfl ?_
    refine c_VI (q := 35) (vs := [.int (0 : Int32), .int v1]) (rest := []) X (kX3_priceOf (cL C) (0 : Int32) v1 σ) (fun s a hts => cwV 2 hts gX3_tollOf_X3_priceOf rfl rfl rfl (by decide +kernel) ⟨Nat.le_of_ble_eq_true rfl, Nat.le_of_ble_eq_true rfl⟩) obj_m (rfl : vwCl[3]? = some (RX3, TX3, 21)) rfl rfl rfl rfl (Nat.le_of_ble_eq_true rfl) dX3_tollOf_21 ⟨Nat.le_of_ble_eq_true rfl, Nat.le_of_ble_eq_true rfl⟩ hf (fun u1 σ2 hf => ?_)
    refine g_aload_n X dX3_tollOf_24 0 rfl rfl ?_
    refine g_iconst (v := (1 : Int32)) X dX3_tollOf_25 (by decide) ?_
    refine g_iload_n X dX3_tollOf_26 2 rfl rfl ?_
    refine c_VI (q := 35) (vs := [.int (1 : Int32), .int v2]) (rest := [.int u1]) X (kX3_priceOf (cL C) (1 : Int32) v2 σ2) (fun s a hts => cwV 2 hts gX3_tollOf_X3_priceOf rfl rfl rfl (by decide +kernel) ⟨Nat.le_of_ble_eq_true rfl, Nat.le_of_ble_eq_true rfl⟩) obj_m (rfl : vwCl[3]? = some (RX3, TX3, 21)) rfl rfl rfl rfl (Nat.le_of_ble_eq_true rfl) dX3_tollOf_27 ⟨Nat.le_of_ble_eq_true rfl, Nat.le_of_ble_eq_true rfl⟩ hf (fun u3 σ4 hf => ?_)
    refine g_iadd X dX3_tollOf_30 ?_
    refine g_aload_n X dX3_tollOf_31 0 rfl rfl ?_
    refine g_iload_n X dX3_tollOf_32 1 rfl rfl ?_
    refine g_iload_n X dX3_tollOf_33 2 rfl rfl ?_
    refine c_VI (q := 35) (vs := [.int v1, .int v2]) (rest := [.int (u1 + u3)]) X (kX3_unitOf (cL C) v1 v2 σ4) (fun s a hts => cwV 2 hts gX3_tollOf_X3_unitOf rfl rfl rfl (by decide +kernel) ⟨Nat.le_of_ble_eq_true rfl, Nat.le_of_ble_eq_true rfl⟩) obj_m (rfl : vwCl[3]? = some (RX3, TX3, 21)) rfl rfl rfl rfl (Nat.le_of_ble_eq_true rfl) dX3_tollOf_34 ⟨Nat.le_of_ble_eq_true rfl, Nat.le_of_ble_eq_true rfl⟩ hf (fun u5 σ6 hf => ?_)
    refine g_isub X dX3_tollOf_37 ?_
    refine g_sub [] (L' := []) rfl ?_
    exact tX3_tollOf_38 X hq ((u1 + u3) - u5) σ6 hf
  · refine g_iconst (v := (0 : Int32)) X dX3_tollOf_14 (by decide) ?_
    refine g_goto (tgt := 38) X dX3_tollOf_15 (by decide) ?_
    refine g_sub [] (L' := []) rfl ?_
    exact tX3_tollOf_38 X hq (0 : Int32) σ hf
def fX3_tollOf (v1 : Int32) (v2 : Int32) (σ : Mem) : Option (Int32 × Mem) := fX3_tollOf_e v1 v2 σ
theorem kX3_tollOf (l : Launch) (v1 : Int32) (v2 : Int32) (σ : Mem) : KI l yX3_tollOf wsX3_tollOf rmX3_tollOf (fun ad => [.ref (ad 35), .int v1, .int v2]) σ (fX3_tollOf v1 v2 σ) := fun r hr => kt_of (by decide +kernel) rfl (fun _ => Nat.le_of_ble_eq_true rfl) (fun C X hne hq => tX3_tollOf_e X hq v1 v2 σ hr)
/-! ### X3_toll -/
abbrev rmX3_toll : Room := { frames := 10, cells := 0, slots := 0, locals := 232 }
def fX3_toll_31 (s0 : Int32) (σ : Mem) : Option (Int32 × Mem) :=
  some (s0, σ)
set_option maxHeartbeats 4000000 in
set_option maxRecDepth 100000 in
theorem tX3_toll_31 {C : Ctx} (X : CX C cX3_toll 3 RX3 wsX3_toll rmX3_toll (some .int)) {r : Int32 × Mem} (hq : QI C r) (s0 : Int32) (σ : Mem) (hf : fX3_toll_31 s0 σ = some r) : G C 3 0 0 31 [] [.int s0] σ := by
  unfold fX3_toll_31 at hf
  exact r_iret X hq dX3_toll_31 hf
def fX3_toll_15 (v1 : Int32) (v2 : Int32) (s0 : Int32) (σ : Mem) : Option (Int32 × Mem) :=
  bnd (fX3_goesWell s0 σ) fun u1 σ2 =>
  if u1 = 0 then (fX3_toll_31 (0 : Int32) σ2)
  else (bnd (fX3_tollOf v1 v2 σ2) fun u3 σ4 =>
  fX3_toll_31 u3 σ4)
set_option maxHeartbeats 4000000 in
set_option maxRecDepth 100000 in
theorem tX3_toll_15 {C : Ctx} (X : CX C cX3_toll 3 RX3 wsX3_toll rmX3_toll (some .int)) {r : Int32 × Mem} (hq : QI C r) (v1 : Int32) (v2 : Int32) (s0 : Int32) (σ : Mem) (hf : fX3_toll_15 v1 v2 s0 σ = some r) : G C 3 0 0 15 [(0, .ref (adr C 35)), (1, .int v1), (2, .int v2)] [.int s0, .ref (adr C 35)] σ := by
  unfold fX3_toll_15 at hf
  refine c_VI (q := 35) (vs := [.int s0]) (rest := []) X (kX3_goesWell (cL C) s0 σ) (fun s a hts => cwV 1 hts gX3_toll_X3_goesWell rfl rfl rfl (by decide +kernel) ⟨Nat.le_of_ble_eq_true rfl, Nat.le_of_ble_eq_true rfl⟩) obj_m (rfl : vwCl[3]? = some (RX3, TX3, 21)) rfl rfl rfl rfl (Nat.le_of_ble_eq_true rfl) dX3_toll_15 ⟨Nat.le_of_ble_eq_true rfl, Nat.le_of_ble_eq_true rfl⟩ hf (fun u1 σ2 hf => ?_)
  refine g_if_eq (tgt := 30) X dX3_toll_18 (by decide) hf (fun hf => ?_) (fun hf => ?_)
  · refine g_iconst (v := (0 : Int32)) X dX3_toll_30 (by decide) ?_
    refine g_sub [] (L' := []) rfl ?_
    exact tX3_toll_31 X hq (0 : Int32) σ2 hf
  · refine g_aload_n X dX3_toll_21 0 rfl rfl ?_
    refine g_iload_n X dX3_toll_22 1 rfl rfl ?_
    refine g_iload_n X dX3_toll_23 2 rfl rfl ?_
    refine c_VI (q := 35) (vs := [.int v1, .int v2]) (rest := []) X (kX3_tollOf (cL C) v1 v2 σ2) (fun s a hts => cwV 2 hts gX3_toll_X3_tollOf rfl rfl rfl (by decide +kernel) ⟨Nat.le_of_ble_eq_true rfl, Nat.le_of_ble_eq_true rfl⟩) obj_m (rfl : vwCl[3]? = some (RX3, TX3, 21)) rfl rfl rfl rfl (Nat.le_of_ble_eq_true rfl) dX3_toll_24 ⟨Nat.le_of_ble_eq_true rfl, Nat.le_of_ble_eq_true rfl⟩ hf (fun u3 σ4 hf => ?_)
    refine g_goto (tgt := 31) X dX3_toll_27 (by decide) ?_
    refine g_sub [] (L' := []) rfl ?_
    exact tX3_toll_31 X hq u3 σ4 hf
def fX3_toll_e (v1 : Int32) (v2 : Int32) (σ : Mem) : Option (Int32 × Mem) :=
  bnd (fX3_isWay v1 v2 σ) fun u1 σ2 =>
  if u1 = 0 then (fX3_toll_15 v1 v2 (1 : Int32) σ2)
  else (fX3_toll_15 v1 v2 (0 : Int32) σ2)
set_option maxHeartbeats 4000000 in
set_option maxRecDepth 100000 in
theorem tX3_toll_e {C : Ctx} (X : CX C cX3_toll 3 RX3 wsX3_toll rmX3_toll (some .int)) {r : Int32 × Mem} (hq : QI C r) (v1 : Int32) (v2 : Int32) (σ : Mem) (hf : fX3_toll_e v1 v2 σ = some r) : G C 3 0 0 0 [(0, .ref (adr C 35)), (1, .int v1), (2, .int v2)] [] σ := by
  unfold fX3_toll_e at hf
  refine g_aload_n X dX3_toll_0 0 rfl rfl ?_
  refine g_aload_n X dX3_toll_1 0 rfl rfl ?_
  refine g_iload_n X dX3_toll_2 1 rfl rfl ?_
  refine g_iload_n X dX3_toll_3 2 rfl rfl ?_
  refine c_VI (q := 35) (vs := [.int v1, .int v2]) (rest := [.ref (adr C 35)]) X (kX3_isWay (cL C) v1 v2 σ) (fun s a hts => cwV 2 hts gX3_toll_X3_isWay rfl rfl rfl (by decide +kernel) ⟨Nat.le_of_ble_eq_true rfl, Nat.le_of_ble_eq_true rfl⟩) obj_m (rfl : vwCl[3]? = some (RX3, TX3, 21)) rfl rfl rfl rfl (Nat.le_of_ble_eq_true rfl) dX3_toll_4 ⟨Nat.le_of_ble_eq_true rfl, Nat.le_of_ble_eq_true rfl⟩ hf (fun u1 σ2 hf => ?_)
  refine g_if_eq (tgt := 14) X dX3_toll_7 (by decide) hf (fun hf => ?_) (fun hf => ?_)
  · refine g_iconst (v := (1 : Int32)) X dX3_toll_14 (by decide) ?_
    exact tX3_toll_15 X hq v1 v2 (1 : Int32) σ2 hf
  · refine g_iconst (v := (0 : Int32)) X dX3_toll_10 (by decide) ?_
    refine g_goto (tgt := 15) X dX3_toll_11 (by decide) ?_
    exact tX3_toll_15 X hq v1 v2 (0 : Int32) σ2 hf
def fX3_toll (v1 : Int32) (v2 : Int32) (σ : Mem) : Option (Int32 × Mem) := fX3_toll_e v1 v2 σ
theorem kX3_toll (l : Launch) (v1 : Int32) (v2 : Int32) (σ : Mem) : KI l yX3_toll wsX3_toll rmX3_toll (fun ad => [.ref (ad 35), .int v1, .int v2]) σ (fX3_toll v1 v2 σ) := fun r hr => kt_of (by decide +kernel) rfl (fun _ => Nat.le_of_ble_eq_true rfl) (fun C X hne hq => tX3_toll_e X hq v1 v2 σ hr)
/-! ### X3_proof -/
abbrev rmX3_proof : Room := { frames := 10, cells := 0, slots := 0, locals := 232 }
theorem infX3_proof_X3 : ∀ w ∈ u_ws RX3 TX3 21, w ∈ wsX3_proof := by decide +kernel
def fX3_proof_94b (r94 : Int32 → Int32 → Mem → Option (Int32 × Mem)) (v1 : Int32) (v2 : Int32) (σ : Mem) : Option (Int32 × Mem) :=
  if (rI σ 35 2) ≤ v2 then (some (v1, σ))
  else (bnd (fX3_priceOf (1 : Int32) v2 σ) fun u1 σ2 =>
  grd (inb v2 5) (ltI (v1 + (u1 * (rI σ2 39 (ix v2)))) fun x3 =>
  r94 x3 (v2 + 1) σ2))
def fX3_proof_94 : Nat → Int32 → Int32 → Mem → Option (Int32 × Mem)
  | 0 => fun _ _ _ => none
  | n + 1 => fX3_proof_94b (fX3_proof_94 n)
set_option maxHeartbeats 4000000 in
set_option maxRecDepth 100000 in
theorem tX3_proof_94b {C : Ctx} (X : CX C cX3_proof 4 RX3 wsX3_proof rmX3_proof (some .int)) {r : Int32 × Mem} (hq : QI C r) (r94 : Int32 → Int32 → Mem → Option (Int32 × Mem)) (ih94 : ∀ (v1 : Int32) (v2 : Int32) (σ : Mem), r94 v1 v2 σ = some r → G C 4 0 0 94 [(0, .ref (adr C 35)), (1, .int v1), (2, .int v2)] [] σ) (v1 : Int32) (v2 : Int32) (σ : Mem) (hf : fX3_proof_94b r94 v1 v2 σ = some r) : G C 4 0 0 94 [(0, .ref (adr C 35)), (1, .int v1), (2, .int v2)] [] σ := by
  unfold fX3_proof_94b at hf
  refine g_iload_n X dX3_proof_94 2 rfl rfl ?_
  refine g_aload_n X dX3_proof_95 0 rfl rfl ?_
  refine g_get (q := 35) (kf := 2) (v := .int (rI σ 35 2)) X obj_m rfl infX3_proof_X3 (by decide) (by decide +kernel) rfl dX3_proof_96 ?_
  refine g_icmp_ge (tgt := 124) X dX3_proof_99 (by decide) hf (fun hf => ?_) (fun hf => ?_)
  · refine g_iload_n X dX3_proof_124 1 rfl rfl ?_
    exact r_iret X hq dX3_proof_125 hf
  · refine g_iload_n X dX3_proof_102 1 rfl rfl ?_
    refine g_aload_n X dX3_proof_103 0 rfl rfl ?_
    refine g_iconst (v := (1 : Int32)) X dX3_proof_104 (by decide) ?_
    refine g_iload_n X dX3_proof_105 2 rfl rfl ?_
    refine c_VI (q := 35) (vs := [.int (1 : Int32), .int v2]) (rest := [.int v1]) X (kX3_priceOf (cL C) (1 : Int32) v2 σ) (fun s a hts => cwV 2 hts gX3_proof_X3_priceOf rfl rfl rfl (by decide +kernel) ⟨Nat.le_of_ble_eq_true rfl, Nat.le_of_ble_eq_true rfl⟩) obj_m (rfl : vwCl[3]? = some (RX3, TX3, 21)) rfl rfl rfl rfl (Nat.le_of_ble_eq_true rfl) dX3_proof_106 ⟨Nat.le_of_ble_eq_true rfl, Nat.le_of_ble_eq_true rfl⟩ hf (fun u1 σ2 hf => ?_)
    refine g_aload_n X dX3_proof_109 0 rfl rfl ?_
    refine g_get (q := 35) (kf := 6) (v := .ref (adr C 39)) X obj_m rfl infX3_proof_X3 (by decide) (by decide +kernel) rfl dX3_proof_110 ?_
    refine g_iload_n X dX3_proof_113 2 rfl rfl ?_
    refine g_iald (q := 39) (n := 5) X rfl rfl dX3_proof_114 hf (fun hf => ?_)
    refine g_imul X dX3_proof_115 ?_
    refine g_iadd X dX3_proof_116 ?_
    refine s_istore_n (M := fun x3 => [(1, .int x3), (0, .ref (adr C 35)), (2, .int v2)]) X dX3_proof_117 rfl (by decide) (fun _ => rfl) hf (fun x3 hf => ?_)
    refine g_iinc (v := (v2 + 1)) (L' := [(2, .int (v2 + 1)), (1, .int x3), (0, .ref (adr C 35))]) X dX3_proof_118 2 rfl rfl (by decide) rfl ?_
    refine g_goto (tgt := 94) X dX3_proof_121 (by decide) ?_
    refine g_sub [2, 1, 0] (L' := [(0, .ref (adr C 35)), (1, .int x3), (2, .int (v2 + 1))]) rfl ?_
    exact ih94 x3 (v2 + 1) σ2 hf
set_option maxHeartbeats 4000000 in
set_option maxRecDepth 100000 in
theorem tX3_proof_94 {C : Ctx} (X : CX C cX3_proof 4 RX3 wsX3_proof rmX3_proof (some .int)) {r : Int32 × Mem} (hq : QI C r) : ∀ (n : Nat) (v1 : Int32) (v2 : Int32) (σ : Mem) (hf : fX3_proof_94 n v1 v2 σ = some r), G C 4 0 0 94 [(0, .ref (adr C 35)), (1, .int v1), (2, .int v2)] [] σ := by
  intro n
  induction n with
  | zero => intros; rename_i hf; exact absurd (show (none : Option (Int32 × Mem)) = some r from hf) (by simp)
  | succ n ih =>
    intro v1 v2 σ hf
    exact tX3_proof_94b X hq (fX3_proof_94 n) (fun v1 v2 σ hf => ih v1 v2 σ hf) v1 v2 σ hf
def fX3_proof_78 (r9 : Int32 → Int32 → Mem → Option (Int32 × Mem)) (r35 : Int32 → Int32 → Int32 → Mem → Option (Int32 × Mem)) (v2 : Int32) (v3 : Int32) (s0 : Int32) (s1 : Int32) (σ : Mem) : Option (Int32 × Mem) :=
  ltI (s1 - s0) fun x1 =>
  r35 x1 v2 (v3 + 1) σ
set_option maxHeartbeats 4000000 in
set_option maxRecDepth 100000 in
theorem tX3_proof_78 {C : Ctx} (X : CX C cX3_proof 4 RX3 wsX3_proof rmX3_proof (some .int)) {r : Int32 × Mem} (hq : QI C r) (r9 : Int32 → Int32 → Mem → Option (Int32 × Mem)) (r35 : Int32 → Int32 → Int32 → Mem → Option (Int32 × Mem)) (ih9 : ∀ (v1 : Int32) (v2 : Int32) (σ : Mem), r9 v1 v2 σ = some r → G C 4 0 0 9 [(0, .ref (adr C 35)), (1, .int v1), (2, .int v2)] [] σ) (ih35 : ∀ (v1 : Int32) (v2 : Int32) (v3 : Int32) (σ : Mem), r35 v1 v2 v3 σ = some r → G C 4 0 0 35 [(0, .ref (adr C 35)), (1, .int v1), (2, .int v2), (3, .int v3)] [] σ) (v2 : Int32) (v3 : Int32) (s0 : Int32) (s1 : Int32) (σ : Mem) (hf : fX3_proof_78 r9 r35 v2 v3 s0 s1 σ = some r) : G C 4 0 0 78 [(0, .ref (adr C 35)), (2, .int v2), (3, .int v3)] [.int s0, .int s1] σ := by
  unfold fX3_proof_78 at hf
  refine g_isub X dX3_proof_78 ?_
  refine s_istore_n (M := fun x1 => [(1, .int x1), (0, .ref (adr C 35)), (2, .int v2), (3, .int v3)]) X dX3_proof_79 rfl (by decide) (fun _ => rfl) hf (fun x1 hf => ?_)
  refine g_iinc (v := (v3 + 1)) (L' := [(3, .int (v3 + 1)), (1, .int x1), (0, .ref (adr C 35)), (2, .int v2)]) X dX3_proof_80 3 rfl rfl (by decide) rfl ?_
  refine g_goto (tgt := 35) X dX3_proof_83 (by decide) ?_
  refine g_sub [2, 1, 3, 0] (L' := [(0, .ref (adr C 35)), (1, .int x1), (2, .int v2), (3, .int (v3 + 1))]) rfl ?_
  exact ih35 x1 v2 (v3 + 1) σ hf
def fX3_proof_35b (r9 : Int32 → Int32 → Mem → Option (Int32 × Mem)) (r35 : Int32 → Int32 → Int32 → Mem → Option (Int32 × Mem)) (v1 : Int32) (v2 : Int32) (v3 : Int32) (σ : Mem) : Option (Int32 × Mem) :=
  if (rI σ 35 2) ≤ v3 then (r9 v1 (v2 + 1) σ)
  else (grd (inb (((5 : Int32) * v2) + v3) 25) (if (rI σ 41 (ix (((5 : Int32) * v2) + v3))) ≤ 0 then (fX3_proof_78 r9 r35 v2 v3 (0 : Int32) v1 σ)
  else (bnd (fX3_tollOf v2 v3 σ) fun u1 σ2 =>
  grd (inb (((5 : Int32) * v2) + v3) 25) (fX3_proof_78 r9 r35 v2 v3 (u1 * (rI σ2 41 (ix (((5 : Int32) * v2) + v3)))) v1 σ2))))
def fX3_proof_35 (r9 : Int32 → Int32 → Mem → Option (Int32 × Mem)) : Nat → Int32 → Int32 → Int32 → Mem → Option (Int32 × Mem)
  | 0 => fun _ _ _ _ => none
  | n + 1 => fX3_proof_35b r9 (fX3_proof_35 r9 n)
set_option maxHeartbeats 4000000 in
set_option maxRecDepth 100000 in
theorem tX3_proof_35b {C : Ctx} (X : CX C cX3_proof 4 RX3 wsX3_proof rmX3_proof (some .int)) {r : Int32 × Mem} (hq : QI C r) (r9 : Int32 → Int32 → Mem → Option (Int32 × Mem)) (ih9 : ∀ (v1 : Int32) (v2 : Int32) (σ : Mem), r9 v1 v2 σ = some r → G C 4 0 0 9 [(0, .ref (adr C 35)), (1, .int v1), (2, .int v2)] [] σ) (r35 : Int32 → Int32 → Int32 → Mem → Option (Int32 × Mem)) (ih35 : ∀ (v1 : Int32) (v2 : Int32) (v3 : Int32) (σ : Mem), r35 v1 v2 v3 σ = some r → G C 4 0 0 35 [(0, .ref (adr C 35)), (1, .int v1), (2, .int v2), (3, .int v3)] [] σ) (v1 : Int32) (v2 : Int32) (v3 : Int32) (σ : Mem) (hf : fX3_proof_35b r9 r35 v1 v2 v3 σ = some r) : G C 4 0 0 35 [(0, .ref (adr C 35)), (1, .int v1), (2, .int v2), (3, .int v3)] [] σ := by
  unfold fX3_proof_35b at hf
  refine g_iload_n X dX3_proof_35 3 rfl rfl ?_
  refine g_aload_n X dX3_proof_36 0 rfl rfl ?_
  refine g_get (q := 35) (kf := 2) (v := .int (rI σ 35 2)) X obj_m rfl infX3_proof_X3 (by decide) (by decide +kernel) rfl dX3_proof_37 ?_
  refine g_icmp_ge (tgt := 86) X dX3_proof_40 (by decide) hf (fun hf => ?_) (fun hf => ?_)
  · refine g_iinc (v := (v2 + 1)) (L' := [(2, .int (v2 + 1)), (0, .ref (adr C 35)), (1, .int v1), (3, .int v3)]) X dX3_proof_86 2 rfl rfl (by decide) rfl ?_
    refine g_goto (tgt := 9) X dX3_proof_89 (by decide) ?_
    refine g_sub [1, 2, 0] (L' := [(0, .ref (adr C 35)), (1, .int v1), (2, .int (v2 + 1))]) rfl ?_
    exact ih9 v1 (v2 + 1) σ hf
  · refine g_iload_n X dX3_proof_43 1 rfl rfl ?_
    refine g_aload_n X dX3_proof_44 0 rfl rfl ?_
    refine g_get (q := 35) (kf := 10) (v := .ref (adr C 41)) X obj_m rfl infX3_proof_X3 (by decide) (by decide +kernel) rfl dX3_proof_45 ?_
    refine g_iconst (v := (5 : Int32)) X dX3_proof_48 (by decide) ?_
    refine g_iload_n X dX3_proof_49 2 rfl rfl ?_
    refine g_imul X dX3_proof_50 ?_
    refine g_iload_n X dX3_proof_51 3 rfl rfl ?_
    refine g_iadd X dX3_proof_52 ?_
    refine g_iald (q := 41) (n := 25) X rfl rfl dX3_proof_53 hf (fun hf => ?_)
    refine g_if_le (tgt := 77) X dX3_proof_54 (by decide) hf (fun hf => ?_) (fun hf => ?_)
    · refine g_iconst (v := (0 : Int32)) X dX3_proof_77 (by decide) ?_
      refine g_sub [0, 2, 3] (L' := [(0, .ref (adr C 35)), (2, .int v2), (3, .int v3)]) rfl ?_
      exact tX3_proof_78 X hq r9 r35 ih9 ih35 v2 v3 (0 : Int32) v1 σ hf
    · refine g_aload_n X dX3_proof_57 0 rfl rfl ?_
      refine g_iload_n X dX3_proof_58 2 rfl rfl ?_
      refine g_iload_n X dX3_proof_59 3 rfl rfl ?_
      refine c_VI (q := 35) (vs := [.int v2, .int v3]) (rest := [.int v1]) X (kX3_tollOf (cL C) v2 v3 σ) (fun s a hts => cwV 2 hts gX3_proof_X3_tollOf rfl rfl rfl (by decide +kernel) ⟨Nat.le_of_ble_eq_true rfl, Nat.le_of_ble_eq_true rfl⟩) obj_m (rfl : vwCl[3]? = some (RX3, TX3, 21)) rfl rfl rfl rfl (Nat.le_of_ble_eq_true rfl) dX3_proof_60 ⟨Nat.le_of_ble_eq_true rfl, Nat.le_of_ble_eq_true rfl⟩ hf (fun u1 σ2 hf => ?_)
      refine g_aload_n X dX3_proof_63 0 rfl rfl ?_
      refine g_get (q := 35) (kf := 10) (v := .ref (adr C 41)) X obj_m rfl infX3_proof_X3 (by decide) (by decide +kernel) rfl dX3_proof_64 ?_
      refine g_iconst (v := (5 : Int32)) X dX3_proof_67 (by decide) ?_
      refine g_iload_n X dX3_proof_68 2 rfl rfl ?_
      refine g_imul X dX3_proof_69 ?_
      refine g_iload_n X dX3_proof_70 3 rfl rfl ?_
      refine g_iadd X dX3_proof_71 ?_
      refine g_iald (q := 41) (n := 25) X rfl rfl dX3_proof_72 hf (fun hf => ?_)
      refine g_imul X dX3_proof_73 ?_
      refine g_goto (tgt := 78) X dX3_proof_74 (by decide) ?_
      refine g_sub [0, 2, 3] (L' := [(0, .ref (adr C 35)), (2, .int v2), (3, .int v3)]) rfl ?_
      exact tX3_proof_78 X hq r9 r35 ih9 ih35 v2 v3 (u1 * (rI σ2 41 (ix (((5 : Int32) * v2) + v3)))) v1 σ2 hf
set_option maxHeartbeats 4000000 in
set_option maxRecDepth 100000 in
theorem tX3_proof_35 {C : Ctx} (X : CX C cX3_proof 4 RX3 wsX3_proof rmX3_proof (some .int)) {r : Int32 × Mem} (hq : QI C r) (r9 : Int32 → Int32 → Mem → Option (Int32 × Mem)) (ih9 : ∀ (v1 : Int32) (v2 : Int32) (σ : Mem), r9 v1 v2 σ = some r → G C 4 0 0 9 [(0, .ref (adr C 35)), (1, .int v1), (2, .int v2)] [] σ) : ∀ (n : Nat) (v1 : Int32) (v2 : Int32) (v3 : Int32) (σ : Mem) (hf : fX3_proof_35 r9 n v1 v2 v3 σ = some r), G C 4 0 0 35 [(0, .ref (adr C 35)), (1, .int v1), (2, .int v2), (3, .int v3)] [] σ := by
  intro n
  induction n with
  | zero => intros; rename_i hf; exact absurd (show (none : Option (Int32 × Mem)) = some r from hf) (by simp)
  | succ n ih =>
    intro v1 v2 v3 σ hf
    exact tX3_proof_35b X hq r9 ih9 (fX3_proof_35 r9 n) (fun v1 v2 v3 σ hf => ih v1 v2 v3 σ hf) v1 v2 v3 σ hf
def fX3_proof_9b (r9 : Int32 → Int32 → Mem → Option (Int32 × Mem)) (v1 : Int32) (v2 : Int32) (σ : Mem) : Option (Int32 × Mem) :=
  if (rI σ 35 1) ≤ v2 then (fX3_proof_94 FU v1 (0 : Int32) σ)
  else (bnd (fX3_priceOf (0 : Int32) v2 σ) fun u1 σ2 =>
  grd (inb v2 5) (ltI (v1 + (u1 * (rI σ2 37 (ix v2)))) fun x3 =>
  fX3_proof_35 r9 FU x3 v2 (0 : Int32) σ2))
def fX3_proof_9 : Nat → Int32 → Int32 → Mem → Option (Int32 × Mem)
  | 0 => fun _ _ _ => none
  | n + 1 => fX3_proof_9b (fX3_proof_9 n)
set_option maxHeartbeats 4000000 in
set_option maxRecDepth 100000 in
theorem tX3_proof_9b {C : Ctx} (X : CX C cX3_proof 4 RX3 wsX3_proof rmX3_proof (some .int)) {r : Int32 × Mem} (hq : QI C r) (r9 : Int32 → Int32 → Mem → Option (Int32 × Mem)) (ih9 : ∀ (v1 : Int32) (v2 : Int32) (σ : Mem), r9 v1 v2 σ = some r → G C 4 0 0 9 [(0, .ref (adr C 35)), (1, .int v1), (2, .int v2)] [] σ) (v1 : Int32) (v2 : Int32) (σ : Mem) (hf : fX3_proof_9b r9 v1 v2 σ = some r) : G C 4 0 0 9 [(0, .ref (adr C 35)), (1, .int v1), (2, .int v2)] [] σ := by
  unfold fX3_proof_9b at hf
  refine g_iload_n X dX3_proof_9 2 rfl rfl ?_
  refine g_aload_n X dX3_proof_10 0 rfl rfl ?_
  refine g_get (q := 35) (kf := 1) (v := .int (rI σ 35 1)) X obj_m rfl infX3_proof_X3 (by decide) (by decide +kernel) rfl dX3_proof_11 ?_
  refine g_icmp_ge (tgt := 92) X dX3_proof_14 (by decide) hf (fun hf => ?_) (fun hf => ?_)
  · refine g_iconst (v := (0 : Int32)) X dX3_proof_92 (by decide) ?_
    refine g_istore_n (L' := [(2, .int (0 : Int32)), (0, .ref (adr C 35)), (1, .int v1)]) X dX3_proof_93 rfl (by decide) rfl ?_
    refine g_sub [1, 2, 0] (L' := [(0, .ref (adr C 35)), (1, .int v1), (2, .int (0 : Int32))]) rfl ?_
    exact tX3_proof_94 X hq FU v1 (0 : Int32) σ hf
  · refine g_iload_n X dX3_proof_17 1 rfl rfl ?_
    refine g_aload_n X dX3_proof_18 0 rfl rfl ?_
    refine g_iconst (v := (0 : Int32)) X dX3_proof_19 (by decide) ?_
    refine g_iload_n X dX3_proof_20 2 rfl rfl ?_
    refine c_VI (q := 35) (vs := [.int (0 : Int32), .int v2]) (rest := [.int v1]) X (kX3_priceOf (cL C) (0 : Int32) v2 σ) (fun s a hts => cwV 2 hts gX3_proof_X3_priceOf rfl rfl rfl (by decide +kernel) ⟨Nat.le_of_ble_eq_true rfl, Nat.le_of_ble_eq_true rfl⟩) obj_m (rfl : vwCl[3]? = some (RX3, TX3, 21)) rfl rfl rfl rfl (Nat.le_of_ble_eq_true rfl) dX3_proof_21 ⟨Nat.le_of_ble_eq_true rfl, Nat.le_of_ble_eq_true rfl⟩ hf (fun u1 σ2 hf => ?_)
    refine g_aload_n X dX3_proof_24 0 rfl rfl ?_
    refine g_get (q := 35) (kf := 4) (v := .ref (adr C 37)) X obj_m rfl infX3_proof_X3 (by decide) (by decide +kernel) rfl dX3_proof_25 ?_
    refine g_iload_n X dX3_proof_28 2 rfl rfl ?_
    refine g_iald (q := 37) (n := 5) X rfl rfl dX3_proof_29 hf (fun hf => ?_)
    refine g_imul X dX3_proof_30 ?_
    refine g_iadd X dX3_proof_31 ?_
    refine s_istore_n (M := fun x3 => [(1, .int x3), (0, .ref (adr C 35)), (2, .int v2)]) X dX3_proof_32 rfl (by decide) (fun _ => rfl) hf (fun x3 hf => ?_)
    refine g_iconst (v := (0 : Int32)) X dX3_proof_33 (by decide) ?_
    refine g_istore_n (L' := [(3, .int (0 : Int32)), (1, .int x3), (0, .ref (adr C 35)), (2, .int v2)]) X dX3_proof_34 rfl (by decide) rfl ?_
    refine g_sub [2, 1, 3, 0] (L' := [(0, .ref (adr C 35)), (1, .int x3), (2, .int v2), (3, .int (0 : Int32))]) rfl ?_
    exact tX3_proof_35 X hq r9 ih9 FU x3 v2 (0 : Int32) σ2 hf
set_option maxHeartbeats 4000000 in
set_option maxRecDepth 100000 in
theorem tX3_proof_9 {C : Ctx} (X : CX C cX3_proof 4 RX3 wsX3_proof rmX3_proof (some .int)) {r : Int32 × Mem} (hq : QI C r) : ∀ (n : Nat) (v1 : Int32) (v2 : Int32) (σ : Mem) (hf : fX3_proof_9 n v1 v2 σ = some r), G C 4 0 0 9 [(0, .ref (adr C 35)), (1, .int v1), (2, .int v2)] [] σ := by
  intro n
  induction n with
  | zero => intros; rename_i hf; exact absurd (show (none : Option (Int32 × Mem)) = some r from hf) (by simp)
  | succ n ih =>
    intro v1 v2 σ hf
    exact tX3_proof_9b X hq (fX3_proof_9 n) (fun v1 v2 σ hf => ih v1 v2 σ hf) v1 v2 σ hf
def fX3_proof_e (σ : Mem) : Option (Int32 × Mem) :=
  ltM (wI σ 35 0 (0 : Int32)) fun σ1 =>
  fX3_proof_9 FU (0 : Int32) (0 : Int32) σ1
set_option maxHeartbeats 4000000 in
set_option maxRecDepth 100000 in
theorem tX3_proof_e {C : Ctx} (X : CX C cX3_proof 4 RX3 wsX3_proof rmX3_proof (some .int)) {r : Int32 × Mem} (hq : QI C r) (σ : Mem) (hf : fX3_proof_e σ = some r) : G C 4 0 0 0 [(0, .ref (adr C 35))] [] σ := by
  unfold fX3_proof_e at hf
  refine g_aload_n X dX3_proof_0 0 rfl rfl ?_
  refine g_iconst (v := (0 : Int32)) X dX3_proof_1 (by decide) ?_
  refine s_put (q := 35) (kf := 0) X obj_m rfl infX3_proof_X3 tyX3_ok nmX3 (by decide) (by decide +kernel) rfl rfl rfl rfl (fun _ _ => rfl) (fun _ _ => Nat.le_of_ble_eq_true rfl) dX3_proof_2 hf (fun σ1 hf => ?_)
  refine g_iconst (v := (0 : Int32)) X dX3_proof_5 (by decide) ?_
  refine g_istore_n (L' := [(1, .int (0 : Int32)), (0, .ref (adr C 35))]) X dX3_proof_6 rfl (by decide) rfl ?_
  refine g_iconst (v := (0 : Int32)) X dX3_proof_7 (by decide) ?_
  refine g_istore_n (L' := [(2, .int (0 : Int32)), (1, .int (0 : Int32)), (0, .ref (adr C 35))]) X dX3_proof_8 rfl (by decide) rfl ?_
  refine g_sub [2, 1, 0] (L' := [(0, .ref (adr C 35)), (1, .int (0 : Int32)), (2, .int (0 : Int32))]) rfl ?_
  exact tX3_proof_9 X hq FU (0 : Int32) (0 : Int32) σ1 hf
def fX3_proof (σ : Mem) : Option (Int32 × Mem) := fX3_proof_e σ
theorem kX3_proof (l : Launch) (σ : Mem) : KI l yX3_proof wsX3_proof rmX3_proof (fun ad => [.ref (ad 35)]) σ (fX3_proof σ) := fun r hr => kt_of (by decide +kernel) rfl (fun _ => Nat.le_of_ble_eq_true rfl) (fun C X hne hq => tX3_proof_e X hq σ hr)
/-! ### X3_canOrder -/
abbrev rmX3_canOrder : Room := { frames := 3, cells := 0, slots := 0, locals := 73 }
theorem infX3_canOrder_X3 : ∀ w ∈ u_ws RX3 TX3 21, w ∈ wsX3_canOrder := by decide +kernel
def fX3_canOrder_123 (r75 : Int32 → Int32 → Mem → Option (Int32 × Mem)) (v3 : Int32) (s0 : Int32) (σ : Mem) : Option (Int32 × Mem) :=
  r75 s0 (v3 + 1) σ
set_option maxHeartbeats 4000000 in
set_option maxRecDepth 100000 in
theorem tX3_canOrder_123 {C : Ctx} (X : CX C cX3_canOrder 4 RX3 wsX3_canOrder rmX3_canOrder (some .boolean)) {r : Int32 × Mem} (hq : QI C r) (r75 : Int32 → Int32 → Mem → Option (Int32 × Mem)) (ih75 : ∀ (v2 : Int32) (v3 : Int32) (σ : Mem), r75 v2 v3 σ = some r → G C 4 0 0 75 [(0, .ref (adr C 35)), (2, .int v2), (3, .int v3)] [] σ) (v3 : Int32) (s0 : Int32) (σ : Mem) (hf : fX3_canOrder_123 r75 v3 s0 σ = some r) : G C 4 0 0 123 [(0, .ref (adr C 35)), (3, .int v3)] [.int s0] σ := by
  unfold fX3_canOrder_123 at hf
  refine g_istore_n (L' := [(2, .int s0), (0, .ref (adr C 35)), (3, .int v3)]) X dX3_canOrder_123 rfl (by decide) rfl ?_
  refine g_iinc (v := (v3 + 1)) (L' := [(3, .int (v3 + 1)), (2, .int s0), (0, .ref (adr C 35))]) X dX3_canOrder_124 2 rfl rfl (by decide) rfl ?_
  refine g_goto (tgt := 75) X dX3_canOrder_127 (by decide) ?_
  refine g_sub [2, 1, 0] (L' := [(0, .ref (adr C 35)), (2, .int s0), (3, .int (v3 + 1))]) rfl ?_
  exact ih75 s0 (v3 + 1) σ hf
def fX3_canOrder_122 (r75 : Int32 → Int32 → Mem → Option (Int32 × Mem)) (v3 : Int32) (σ : Mem) : Option (Int32 × Mem) :=
  fX3_canOrder_123 r75 v3 (0 : Int32) σ
set_option maxHeartbeats 4000000 in
set_option maxRecDepth 100000 in
theorem tX3_canOrder_122 {C : Ctx} (X : CX C cX3_canOrder 4 RX3 wsX3_canOrder rmX3_canOrder (some .boolean)) {r : Int32 × Mem} (hq : QI C r) (r75 : Int32 → Int32 → Mem → Option (Int32 × Mem)) (ih75 : ∀ (v2 : Int32) (v3 : Int32) (σ : Mem), r75 v2 v3 σ = some r → G C 4 0 0 75 [(0, .ref (adr C 35)), (2, .int v2), (3, .int v3)] [] σ) (v3 : Int32) (σ : Mem) (hf : fX3_canOrder_122 r75 v3 σ = some r) : G C 4 0 0 122 [(0, .ref (adr C 35)), (3, .int v3)] [] σ := by
  unfold fX3_canOrder_122 at hf
  refine g_iconst (v := (0 : Int32)) X dX3_canOrder_122 (by decide) ?_
  exact tX3_canOrder_123 X hq r75 ih75 v3 (0 : Int32) σ hf
def fX3_canOrder_118 (r75 : Int32 → Int32 → Mem → Option (Int32 × Mem)) (v3 : Int32) (σ : Mem) : Option (Int32 × Mem) :=
  fX3_canOrder_123 r75 v3 (1 : Int32) σ
set_option maxHeartbeats 4000000 in
set_option maxRecDepth 100000 in
theorem tX3_canOrder_118 {C : Ctx} (X : CX C cX3_canOrder 4 RX3 wsX3_canOrder rmX3_canOrder (some .boolean)) {r : Int32 × Mem} (hq : QI C r) (r75 : Int32 → Int32 → Mem → Option (Int32 × Mem)) (ih75 : ∀ (v2 : Int32) (v3 : Int32) (σ : Mem), r75 v2 v3 σ = some r → G C 4 0 0 75 [(0, .ref (adr C 35)), (2, .int v2), (3, .int v3)] [] σ) (v3 : Int32) (σ : Mem) (hf : fX3_canOrder_118 r75 v3 σ = some r) : G C 4 0 0 118 [(0, .ref (adr C 35)), (3, .int v3)] [] σ := by
  unfold fX3_canOrder_118 at hf
  refine g_iconst (v := (1 : Int32)) X dX3_canOrder_118 (by decide) ?_
  refine g_goto (tgt := 123) X dX3_canOrder_119 (by decide) ?_
  exact tX3_canOrder_123 X hq r75 ih75 v3 (1 : Int32) σ hf
def fX3_canOrder_75b (r75 : Int32 → Int32 → Mem → Option (Int32 × Mem)) (v2 : Int32) (v3 : Int32) (σ : Mem) : Option (Int32 × Mem) :=
  if (25 : Int32) ≤ v3 then (grd (decide (v2 = 0 ∨ v2 = 1)) (some (v2, σ)))
  else (if v2 = 0 then (fX3_canOrder_122 r75 v3 σ)
  else (bnd (fX3_isWay (v3 / (5 : Int32)) (v3 - v3 / (5 : Int32) * (5 : Int32)) σ) fun u1 σ2 =>
  if u1 = 0 then (fX3_canOrder_118 r75 v3 σ2)
  else (grd (inb v3 25) (if (rI σ2 40 (ix v3)) = (-1 : Int32) then (grd (inb v3 25) (if (rI σ2 41 (ix v3)) = (-1 : Int32) then (fX3_canOrder_118 r75 v3 σ2)
  else (fX3_canOrder_122 r75 v3 σ2)))
  else (fX3_canOrder_122 r75 v3 σ2)))))
def fX3_canOrder_75 : Nat → Int32 → Int32 → Mem → Option (Int32 × Mem)
  | 0 => fun _ _ _ => none
  | n + 1 => fX3_canOrder_75b (fX3_canOrder_75 n)
set_option maxHeartbeats 4000000 in
set_option maxRecDepth 100000 in
theorem tX3_canOrder_75b {C : Ctx} (X : CX C cX3_canOrder 4 RX3 wsX3_canOrder rmX3_canOrder (some .boolean)) {r : Int32 × Mem} (hq : QI C r) (r75 : Int32 → Int32 → Mem → Option (Int32 × Mem)) (ih75 : ∀ (v2 : Int32) (v3 : Int32) (σ : Mem), r75 v2 v3 σ = some r → G C 4 0 0 75 [(0, .ref (adr C 35)), (2, .int v2), (3, .int v3)] [] σ) (v2 : Int32) (v3 : Int32) (σ : Mem) (hf : fX3_canOrder_75b r75 v2 v3 σ = some r) : G C 4 0 0 75 [(0, .ref (adr C 35)), (2, .int v2), (3, .int v3)] [] σ := by
  unfold fX3_canOrder_75b at hf
  refine g_iload_n X dX3_canOrder_75 2 rfl rfl ?_
  refine g_bipush (v := (25 : Int32)) X dX3_canOrder_76 (by decide) ?_
  refine g_icmp_ge (tgt := 130) X dX3_canOrder_78 (by decide) hf (fun hf => ?_) (fun hf => ?_)
  · refine g_iload_n X dX3_canOrder_130 1 rfl rfl ?_
    exact r_zret X hq dX3_canOrder_131 hf
  · refine g_iload_n X dX3_canOrder_81 1 rfl rfl ?_
    refine g_if_eq (tgt := 122) X dX3_canOrder_82 (by decide) hf (fun hf => ?_) (fun hf => ?_)
    · refine g_sub [0, 2] (L' := [(0, .ref (adr C 35)), (3, .int v3)]) rfl ?_
      exact tX3_canOrder_122 X hq r75 ih75 v3 σ hf
    · refine g_aload_n X dX3_canOrder_85 0 rfl rfl ?_
      refine g_iload_n X dX3_canOrder_86 2 rfl rfl ?_
      refine g_iconst (v := (5 : Int32)) X dX3_canOrder_87 (by decide) ?_
      refine g_idivC X dX3_canOrder_88 (by decide) ?_
      refine g_iload_n X dX3_canOrder_89 2 rfl rfl ?_
      refine g_iconst (v := (5 : Int32)) X dX3_canOrder_90 (by decide) ?_
      refine g_iremC X dX3_canOrder_91 (by decide) ?_
      refine c_VI (q := 35) (vs := [.int (v3 / (5 : Int32)), .int (v3 - v3 / (5 : Int32) * (5 : Int32))]) (rest := []) X (kX3_isWay (cL C) (v3 / (5 : Int32)) (v3 - v3 / (5 : Int32) * (5 : Int32)) σ) (fun s a hts => cwV 2 hts gX3_canOrder_X3_isWay rfl rfl rfl (by decide +kernel) ⟨Nat.le_of_ble_eq_true rfl, Nat.le_of_ble_eq_true rfl⟩) obj_m (rfl : vwCl[3]? = some (RX3, TX3, 21)) rfl rfl rfl rfl (Nat.le_of_ble_eq_true rfl) dX3_canOrder_92 ⟨Nat.le_of_ble_eq_true rfl, Nat.le_of_ble_eq_true rfl⟩ hf (fun u1 σ2 hf => ?_)
      refine g_if_eq (tgt := 118) X dX3_canOrder_95 (by decide) hf (fun hf => ?_) (fun hf => ?_)
      · refine g_sub [0, 2] (L' := [(0, .ref (adr C 35)), (3, .int v3)]) rfl ?_
        exact tX3_canOrder_118 X hq r75 ih75 v3 σ2 hf
      · refine g_aload_n X dX3_canOrder_98 0 rfl rfl ?_
        refine g_get (q := 35) (kf := 9) (v := .ref (adr C 40)) X obj_m rfl infX3_canOrder_X3 (by decide) (by decide +kernel) rfl dX3_canOrder_99 ?_
        refine g_iload_n X dX3_canOrder_102 2 rfl rfl ?_
        refine g_iald (q := 40) (n := 25) X rfl rfl dX3_canOrder_103 hf (fun hf => ?_)
        refine g_iconst (v := (-1 : Int32)) X dX3_canOrder_104 (by decide) ?_
        refine g_icmp_ne (tgt := 122) X dX3_canOrder_105 (by decide) hf (fun hf => ?_) (fun hf => ?_)
        · refine g_sub [0, 2] (L' := [(0, .ref (adr C 35)), (3, .int v3)]) rfl ?_
          exact tX3_canOrder_122 X hq r75 ih75 v3 σ2 hf
        · refine g_aload_n X dX3_canOrder_108 0 rfl rfl ?_
          refine g_get (q := 35) (kf := 10) (v := .ref (adr C 41)) X obj_m rfl infX3_canOrder_X3 (by decide) (by decide +kernel) rfl dX3_canOrder_109 ?_
          refine g_iload_n X dX3_canOrder_112 2 rfl rfl ?_
          refine g_iald (q := 41) (n := 25) X rfl rfl dX3_canOrder_113 hf (fun hf => ?_)
          refine g_iconst (v := (-1 : Int32)) X dX3_canOrder_114 (by decide) ?_
          refine g_icmp_ne (tgt := 122) X dX3_canOrder_115 (by decide) hf (fun hf => ?_) (fun hf => ?_)
          · refine g_sub [0, 2] (L' := [(0, .ref (adr C 35)), (3, .int v3)]) rfl ?_
            exact tX3_canOrder_122 X hq r75 ih75 v3 σ2 hf
          · refine g_sub [0, 2] (L' := [(0, .ref (adr C 35)), (3, .int v3)]) rfl ?_
            exact tX3_canOrder_118 X hq r75 ih75 v3 σ2 hf
set_option maxHeartbeats 4000000 in
set_option maxRecDepth 100000 in
theorem tX3_canOrder_75 {C : Ctx} (X : CX C cX3_canOrder 4 RX3 wsX3_canOrder rmX3_canOrder (some .boolean)) {r : Int32 × Mem} (hq : QI C r) : ∀ (n : Nat) (v2 : Int32) (v3 : Int32) (σ : Mem) (hf : fX3_canOrder_75 n v2 v3 σ = some r), G C 4 0 0 75 [(0, .ref (adr C 35)), (2, .int v2), (3, .int v3)] [] σ := by
  intro n
  induction n with
  | zero => intros; rename_i hf; exact absurd (show (none : Option (Int32 × Mem)) = some r from hf) (by simp)
  | succ n ih =>
    intro v2 v3 σ hf
    exact tX3_canOrder_75b X hq (fX3_canOrder_75 n) (fun v2 v3 σ hf => ih v2 v3 σ hf) v2 v3 σ hf
def fX3_canOrder_72 (s0 : Int32) (σ : Mem) : Option (Int32 × Mem) :=
  fX3_canOrder_75 FU s0 (0 : Int32) σ
set_option maxHeartbeats 4000000 in
set_option maxRecDepth 100000 in
theorem tX3_canOrder_72 {C : Ctx} (X : CX C cX3_canOrder 4 RX3 wsX3_canOrder rmX3_canOrder (some .boolean)) {r : Int32 × Mem} (hq : QI C r) (s0 : Int32) (σ : Mem) (hf : fX3_canOrder_72 s0 σ = some r) : G C 4 0 0 72 [(0, .ref (adr C 35))] [.int s0] σ := by
  unfold fX3_canOrder_72 at hf
  refine g_istore_n (L' := [(2, .int s0), (0, .ref (adr C 35))]) X dX3_canOrder_72 rfl (by decide) rfl ?_
  refine g_iconst (v := (0 : Int32)) X dX3_canOrder_73 (by decide) ?_
  refine g_istore_n (L' := [(3, .int (0 : Int32)), (2, .int s0), (0, .ref (adr C 35))]) X dX3_canOrder_74 rfl (by decide) rfl ?_
  refine g_sub [2, 1, 0] (L' := [(0, .ref (adr C 35)), (2, .int s0), (3, .int (0 : Int32))]) rfl ?_
  exact tX3_canOrder_75 X hq FU s0 (0 : Int32) σ hf
def fX3_canOrder_71 (σ : Mem) : Option (Int32 × Mem) :=
  fX3_canOrder_72 (0 : Int32) σ
set_option maxHeartbeats 4000000 in
set_option maxRecDepth 100000 in
theorem tX3_canOrder_71 {C : Ctx} (X : CX C cX3_canOrder 4 RX3 wsX3_canOrder rmX3_canOrder (some .boolean)) {r : Int32 × Mem} (hq : QI C r) (σ : Mem) (hf : fX3_canOrder_71 σ = some r) : G C 4 0 0 71 [(0, .ref (adr C 35))] [] σ := by
  unfold fX3_canOrder_71 at hf
  refine g_iconst (v := (0 : Int32)) X dX3_canOrder_71 (by decide) ?_
  exact tX3_canOrder_72 X hq (0 : Int32) σ hf
def fX3_canOrder_46 (r4 : Int32 → Int32 → Mem → Option (Int32 × Mem)) (v2 : Int32) (s0 : Int32) (s1 : Int32) (s2 : Int32) (σ : Mem) : Option (Int32 × Mem) :=
  ltI (s2 + (s1 - s0)) fun x1 =>
  r4 x1 (v2 + 1) σ
set_option maxHeartbeats 4000000 in
set_option maxRecDepth 100000 in
theorem tX3_canOrder_46 {C : Ctx} (X : CX C cX3_canOrder 4 RX3 wsX3_canOrder rmX3_canOrder (some .boolean)) {r : Int32 × Mem} (hq : QI C r) (r4 : Int32 → Int32 → Mem → Option (Int32 × Mem)) (ih4 : ∀ (v1 : Int32) (v2 : Int32) (σ : Mem), r4 v1 v2 σ = some r → G C 4 0 0 4 [(0, .ref (adr C 35)), (1, .int v1), (2, .int v2)] [] σ) (v2 : Int32) (s0 : Int32) (s1 : Int32) (s2 : Int32) (σ : Mem) (hf : fX3_canOrder_46 r4 v2 s0 s1 s2 σ = some r) : G C 4 0 0 46 [(0, .ref (adr C 35)), (2, .int v2)] [.int s0, .int s1, .int s2] σ := by
  unfold fX3_canOrder_46 at hf
  refine g_isub X dX3_canOrder_46 ?_
  refine g_iadd X dX3_canOrder_47 ?_
  refine s_istore_n (M := fun x1 => [(1, .int x1), (0, .ref (adr C 35)), (2, .int v2)]) X dX3_canOrder_48 rfl (by decide) (fun _ => rfl) hf (fun x1 hf => ?_)
  refine g_iinc (v := (v2 + 1)) (L' := [(2, .int (v2 + 1)), (1, .int x1), (0, .ref (adr C 35))]) X dX3_canOrder_49 2 rfl rfl (by decide) rfl ?_
  refine g_goto (tgt := 4) X dX3_canOrder_52 (by decide) ?_
  refine g_sub [2, 1, 0] (L' := [(0, .ref (adr C 35)), (1, .int x1), (2, .int (v2 + 1))]) rfl ?_
  exact ih4 x1 (v2 + 1) σ hf
def fX3_canOrder_28 (r4 : Int32 → Int32 → Mem → Option (Int32 × Mem)) (v2 : Int32) (s0 : Int32) (s1 : Int32) (σ : Mem) : Option (Int32 × Mem) :=
  if (rI σ 35 2) ≤ v2 then (fX3_canOrder_46 r4 v2 (0 : Int32) s0 s1 σ)
  else (grd (inb v2 5) (fX3_canOrder_46 r4 v2 (rI σ 39 (ix v2)) s0 s1 σ))
set_option maxHeartbeats 4000000 in
set_option maxRecDepth 100000 in
theorem tX3_canOrder_28 {C : Ctx} (X : CX C cX3_canOrder 4 RX3 wsX3_canOrder rmX3_canOrder (some .boolean)) {r : Int32 × Mem} (hq : QI C r) (r4 : Int32 → Int32 → Mem → Option (Int32 × Mem)) (ih4 : ∀ (v1 : Int32) (v2 : Int32) (σ : Mem), r4 v1 v2 σ = some r → G C 4 0 0 4 [(0, .ref (adr C 35)), (1, .int v1), (2, .int v2)] [] σ) (v2 : Int32) (s0 : Int32) (s1 : Int32) (σ : Mem) (hf : fX3_canOrder_28 r4 v2 s0 s1 σ = some r) : G C 4 0 0 28 [(0, .ref (adr C 35)), (2, .int v2)] [.int s0, .int s1] σ := by
  unfold fX3_canOrder_28 at hf
  refine g_iload_n X dX3_canOrder_28 1 rfl rfl ?_
  refine g_aload_n X dX3_canOrder_29 0 rfl rfl ?_
  refine g_get (q := 35) (kf := 2) (v := .int (rI σ 35 2)) X obj_m rfl infX3_canOrder_X3 (by decide) (by decide +kernel) rfl dX3_canOrder_30 ?_
  refine g_icmp_ge (tgt := 45) X dX3_canOrder_33 (by decide) hf (fun hf => ?_) (fun hf => ?_)
  · refine g_iconst (v := (0 : Int32)) X dX3_canOrder_45 (by decide) ?_
    exact tX3_canOrder_46 X hq r4 ih4 v2 (0 : Int32) s0 s1 σ hf
  · refine g_aload_n X dX3_canOrder_36 0 rfl rfl ?_
    refine g_get (q := 35) (kf := 6) (v := .ref (adr C 39)) X obj_m rfl infX3_canOrder_X3 (by decide) (by decide +kernel) rfl dX3_canOrder_37 ?_
    refine g_iload_n X dX3_canOrder_40 1 rfl rfl ?_
    refine g_iald (q := 39) (n := 5) X rfl rfl dX3_canOrder_41 hf (fun hf => ?_)
    refine g_goto (tgt := 46) X dX3_canOrder_42 (by decide) ?_
    exact tX3_canOrder_46 X hq r4 ih4 v2 (rI σ 39 (ix v2)) s0 s1 σ hf
def fX3_canOrder_4b (r4 : Int32 → Int32 → Mem → Option (Int32 × Mem)) (v1 : Int32) (v2 : Int32) (σ : Mem) : Option (Int32 × Mem) :=
  if (5 : Int32) ≤ v2 then (if (rI σ 35 7) = (1 : Int32) then (fX3_canOrder_71 σ)
  else (if v1 = 0 then (fX3_canOrder_72 (1 : Int32) σ)
  else (fX3_canOrder_71 σ)))
  else (if (rI σ 35 1) ≤ v2 then (fX3_canOrder_28 r4 v2 (0 : Int32) v1 σ)
  else (grd (inb v2 5) (fX3_canOrder_28 r4 v2 (rI σ 37 (ix v2)) v1 σ)))
def fX3_canOrder_4 : Nat → Int32 → Int32 → Mem → Option (Int32 × Mem)
  | 0 => fun _ _ _ => none
  | n + 1 => fX3_canOrder_4b (fX3_canOrder_4 n)
set_option maxHeartbeats 4000000 in
set_option maxRecDepth 100000 in
theorem tX3_canOrder_4b {C : Ctx} (X : CX C cX3_canOrder 4 RX3 wsX3_canOrder rmX3_canOrder (some .boolean)) {r : Int32 × Mem} (hq : QI C r) (r4 : Int32 → Int32 → Mem → Option (Int32 × Mem)) (ih4 : ∀ (v1 : Int32) (v2 : Int32) (σ : Mem), r4 v1 v2 σ = some r → G C 4 0 0 4 [(0, .ref (adr C 35)), (1, .int v1), (2, .int v2)] [] σ) (v1 : Int32) (v2 : Int32) (σ : Mem) (hf : fX3_canOrder_4b r4 v1 v2 σ = some r) : G C 4 0 0 4 [(0, .ref (adr C 35)), (1, .int v1), (2, .int v2)] [] σ := by
  unfold fX3_canOrder_4b at hf
  refine g_iload_n X dX3_canOrder_4 2 rfl rfl ?_
  refine g_iconst (v := (5 : Int32)) X dX3_canOrder_5 (by decide) ?_
  refine g_icmp_ge (tgt := 55) X dX3_canOrder_6 (by decide) hf (fun hf => ?_) (fun hf => ?_)
  · refine g_aload_n X dX3_canOrder_55 0 rfl rfl ?_
    refine g_get (q := 35) (kf := 7) (v := .int (rI σ 35 7)) X obj_m rfl infX3_canOrder_X3 (by decide) (by decide +kernel) rfl dX3_canOrder_56 ?_
    refine g_iconst (v := (1 : Int32)) X dX3_canOrder_59 (by decide) ?_
    refine g_icmp_eq (tgt := 71) X dX3_canOrder_60 (by decide) hf (fun hf => ?_) (fun hf => ?_)
    · refine g_sub [0] (L' := [(0, .ref (adr C 35))]) rfl ?_
      exact tX3_canOrder_71 X hq σ hf
    · refine g_iload_n X dX3_canOrder_63 1 rfl rfl ?_
      refine g_if_ne (tgt := 71) X dX3_canOrder_64 (by decide) hf (fun hf => ?_) (fun hf => ?_)
      · refine g_sub [0] (L' := [(0, .ref (adr C 35))]) rfl ?_
        exact tX3_canOrder_71 X hq σ hf
      · refine g_iconst (v := (1 : Int32)) X dX3_canOrder_67 (by decide) ?_
        refine g_goto (tgt := 72) X dX3_canOrder_68 (by decide) ?_
        refine g_sub [0] (L' := [(0, .ref (adr C 35))]) rfl ?_
        exact tX3_canOrder_72 X hq (1 : Int32) σ hf
  · refine g_iload_n X dX3_canOrder_9 1 rfl rfl ?_
    refine g_iload_n X dX3_canOrder_10 2 rfl rfl ?_
    refine g_aload_n X dX3_canOrder_11 0 rfl rfl ?_
    refine g_get (q := 35) (kf := 1) (v := .int (rI σ 35 1)) X obj_m rfl infX3_canOrder_X3 (by decide) (by decide +kernel) rfl dX3_canOrder_12 ?_
    refine g_icmp_ge (tgt := 27) X dX3_canOrder_15 (by decide) hf (fun hf => ?_) (fun hf => ?_)
    · refine g_iconst (v := (0 : Int32)) X dX3_canOrder_27 (by decide) ?_
      refine g_sub [0, 2] (L' := [(0, .ref (adr C 35)), (2, .int v2)]) rfl ?_
      exact tX3_canOrder_28 X hq r4 ih4 v2 (0 : Int32) v1 σ hf
    · refine g_aload_n X dX3_canOrder_18 0 rfl rfl ?_
      refine g_get (q := 35) (kf := 4) (v := .ref (adr C 37)) X obj_m rfl infX3_canOrder_X3 (by decide) (by decide +kernel) rfl dX3_canOrder_19 ?_
      refine g_iload_n X dX3_canOrder_22 2 rfl rfl ?_
      refine g_iald (q := 37) (n := 5) X rfl rfl dX3_canOrder_23 hf (fun hf => ?_)
      refine g_goto (tgt := 28) X dX3_canOrder_24 (by decide) ?_
      refine g_sub [0, 2] (L' := [(0, .ref (adr C 35)), (2, .int v2)]) rfl ?_
      exact tX3_canOrder_28 X hq r4 ih4 v2 (rI σ 37 (ix v2)) v1 σ hf
set_option maxHeartbeats 4000000 in
set_option maxRecDepth 100000 in
theorem tX3_canOrder_4 {C : Ctx} (X : CX C cX3_canOrder 4 RX3 wsX3_canOrder rmX3_canOrder (some .boolean)) {r : Int32 × Mem} (hq : QI C r) : ∀ (n : Nat) (v1 : Int32) (v2 : Int32) (σ : Mem) (hf : fX3_canOrder_4 n v1 v2 σ = some r), G C 4 0 0 4 [(0, .ref (adr C 35)), (1, .int v1), (2, .int v2)] [] σ := by
  intro n
  induction n with
  | zero => intros; rename_i hf; exact absurd (show (none : Option (Int32 × Mem)) = some r from hf) (by simp)
  | succ n ih =>
    intro v1 v2 σ hf
    exact tX3_canOrder_4b X hq (fX3_canOrder_4 n) (fun v1 v2 σ hf => ih v1 v2 σ hf) v1 v2 σ hf
def fX3_canOrder_e (σ : Mem) : Option (Int32 × Mem) :=
  fX3_canOrder_4 FU (0 : Int32) (0 : Int32) σ
set_option maxHeartbeats 4000000 in
set_option maxRecDepth 100000 in
theorem tX3_canOrder_e {C : Ctx} (X : CX C cX3_canOrder 4 RX3 wsX3_canOrder rmX3_canOrder (some .boolean)) {r : Int32 × Mem} (hq : QI C r) (σ : Mem) (hf : fX3_canOrder_e σ = some r) : G C 4 0 0 0 [(0, .ref (adr C 35))] [] σ := by
  unfold fX3_canOrder_e at hf
  refine g_iconst (v := (0 : Int32)) X dX3_canOrder_0 (by decide) ?_
  refine g_istore_n (L' := [(1, .int (0 : Int32)), (0, .ref (adr C 35))]) X dX3_canOrder_1 rfl (by decide) rfl ?_
  refine g_iconst (v := (0 : Int32)) X dX3_canOrder_2 (by decide) ?_
  refine g_istore_n (L' := [(2, .int (0 : Int32)), (1, .int (0 : Int32)), (0, .ref (adr C 35))]) X dX3_canOrder_3 rfl (by decide) rfl ?_
  refine g_sub [2, 1, 0] (L' := [(0, .ref (adr C 35)), (1, .int (0 : Int32)), (2, .int (0 : Int32))]) rfl ?_
  exact tX3_canOrder_4 X hq FU (0 : Int32) (0 : Int32) σ hf
def fX3_canOrder (σ : Mem) : Option (Int32 × Mem) := fX3_canOrder_e σ
theorem kX3_canOrder (l : Launch) (σ : Mem) : KI l yX3_canOrder wsX3_canOrder rmX3_canOrder (fun ad => [.ref (ad 35)]) σ (fX3_canOrder σ) := fun r hr => kt_of (by decide +kernel) rfl (fun _ => Nat.le_of_ble_eq_true rfl) (fun C X hne hq => tX3_canOrder_e X hq σ hr)
/-! ### X3_surplus -/
abbrev rmX3_surplus : Room := { frames := 0, cells := 0, slots := 0, locals := 8 }
theorem infX3_surplus_X3 : ∀ w ∈ u_ws RX3 TX3 21, w ∈ wsX3_surplus := by decide +kernel
def fX3_surplus_121 (r4 : Int32 → Int32 → Int32 → Mem → Option (Int32 × Mem)) (v1 : Int32) (v3 : Int32) (s0 : Int32) (s1 : Int32) (σ : Mem) : Option (Int32 × Mem) :=
  ltI (s1 - s0) fun x1 =>
  r4 v1 x1 (v3 + 1) σ
set_option maxHeartbeats 4000000 in
set_option maxRecDepth 100000 in
theorem tX3_surplus_121 {C : Ctx} (X : CX C cX3_surplus 6 RX3 wsX3_surplus rmX3_surplus (some .int)) {r : Int32 × Mem} (hq : QI C r) (r4 : Int32 → Int32 → Int32 → Mem → Option (Int32 × Mem)) (ih4 : ∀ (v1 : Int32) (v2 : Int32) (v3 : Int32) (σ : Mem), r4 v1 v2 v3 σ = some r → G C 6 0 0 4 [(0, .ref (adr C 35)), (1, .int v1), (2, .int v2), (3, .int v3)] [] σ) (v1 : Int32) (v3 : Int32) (s0 : Int32) (s1 : Int32) (σ : Mem) (hf : fX3_surplus_121 r4 v1 v3 s0 s1 σ = some r) : G C 6 0 0 121 [(0, .ref (adr C 35)), (1, .int v1), (3, .int v3)] [.int s0, .int s1] σ := by
  unfold fX3_surplus_121 at hf
  refine g_isub X dX3_surplus_121 ?_
  refine s_istore_n (M := fun x1 => [(2, .int x1), (0, .ref (adr C 35)), (1, .int v1), (3, .int v3)]) X dX3_surplus_122 rfl (by decide) (fun _ => rfl) hf (fun x1 hf => ?_)
  refine g_iinc (v := (v3 + 1)) (L' := [(3, .int (v3 + 1)), (2, .int x1), (0, .ref (adr C 35)), (1, .int v1)]) X dX3_surplus_123 3 rfl rfl (by decide) rfl ?_
  refine g_goto (tgt := 4) X dX3_surplus_126 (by decide) ?_
  refine g_sub [2, 3, 1, 0] (L' := [(0, .ref (adr C 35)), (1, .int v1), (2, .int x1), (3, .int (v3 + 1))]) rfl ?_
  exact ih4 v1 x1 (v3 + 1) σ hf
def fX3_surplus_120 (r4 : Int32 → Int32 → Int32 → Mem → Option (Int32 × Mem)) (v1 : Int32) (v3 : Int32) (s0 : Int32) (σ : Mem) : Option (Int32 × Mem) :=
  fX3_surplus_121 r4 v1 v3 (0 : Int32) s0 σ
set_option maxHeartbeats 4000000 in
set_option maxRecDepth 100000 in
theorem tX3_surplus_120 {C : Ctx} (X : CX C cX3_surplus 6 RX3 wsX3_surplus rmX3_surplus (some .int)) {r : Int32 × Mem} (hq : QI C r) (r4 : Int32 → Int32 → Int32 → Mem → Option (Int32 × Mem)) (ih4 : ∀ (v1 : Int32) (v2 : Int32) (v3 : Int32) (σ : Mem), r4 v1 v2 v3 σ = some r → G C 6 0 0 4 [(0, .ref (adr C 35)), (1, .int v1), (2, .int v2), (3, .int v3)] [] σ) (v1 : Int32) (v3 : Int32) (s0 : Int32) (σ : Mem) (hf : fX3_surplus_120 r4 v1 v3 s0 σ = some r) : G C 6 0 0 120 [(0, .ref (adr C 35)), (1, .int v1), (3, .int v3)] [.int s0] σ := by
  unfold fX3_surplus_120 at hf
  refine g_iconst (v := (0 : Int32)) X dX3_surplus_120 (by decide) ?_
  exact tX3_surplus_121 X hq r4 ih4 v1 v3 (0 : Int32) s0 σ hf
def fX3_surplus_94 (r4 : Int32 → Int32 → Int32 → Mem → Option (Int32 × Mem)) (v1 : Int32) (v3 : Int32) (v5 : Int32) (s0 : Int32) (s1 : Int32) (σ : Mem) : Option (Int32 × Mem) :=
  ltI (s1 + s0) fun x1 =>
  if (rI σ 35 2) ≤ v3 then (fX3_surplus_120 r4 v1 v3 x1 σ)
  else (if v1 < v5 then (fX3_surplus_120 r4 v1 v3 x1 σ)
  else (grd (inb v3 5) (fX3_surplus_121 r4 v1 v3 (rI σ 39 (ix v3)) x1 σ)))
set_option maxHeartbeats 4000000 in
set_option maxRecDepth 100000 in
theorem tX3_surplus_94 {C : Ctx} (X : CX C cX3_surplus 6 RX3 wsX3_surplus rmX3_surplus (some .int)) {r : Int32 × Mem} (hq : QI C r) (r4 : Int32 → Int32 → Int32 → Mem → Option (Int32 × Mem)) (ih4 : ∀ (v1 : Int32) (v2 : Int32) (v3 : Int32) (σ : Mem), r4 v1 v2 v3 σ = some r → G C 6 0 0 4 [(0, .ref (adr C 35)), (1, .int v1), (2, .int v2), (3, .int v3)] [] σ) (v1 : Int32) (v3 : Int32) (v5 : Int32) (s0 : Int32) (s1 : Int32) (σ : Mem) (hf : fX3_surplus_94 r4 v1 v3 v5 s0 s1 σ = some r) : G C 6 0 0 94 [(0, .ref (adr C 35)), (1, .int v1), (3, .int v3), (5, .int v5)] [.int s0, .int s1] σ := by
  unfold fX3_surplus_94 at hf
  refine g_iadd X dX3_surplus_94 ?_
  refine s_istore_n (M := fun x1 => [(2, .int x1), (0, .ref (adr C 35)), (1, .int v1), (3, .int v3), (5, .int v5)]) X dX3_surplus_95 rfl (by decide) (fun _ => rfl) hf (fun x1 hf => ?_)
  refine g_iload_n X dX3_surplus_96 0 rfl rfl ?_
  refine g_iload_n X dX3_surplus_97 3 rfl rfl ?_
  refine g_aload_n X dX3_surplus_98 1 rfl rfl ?_
  refine g_get (q := 35) (kf := 2) (v := .int (rI σ 35 2)) X obj_m rfl infX3_surplus_X3 (by decide) (by decide +kernel) rfl dX3_surplus_99 ?_
  refine g_icmp_ge (tgt := 120) X dX3_surplus_102 (by decide) hf (fun hf => ?_) (fun hf => ?_)
  · refine g_sub [1, 2, 3] (L' := [(0, .ref (adr C 35)), (1, .int v1), (3, .int v3)]) rfl ?_
    exact tX3_surplus_120 X hq r4 ih4 v1 v3 x1 σ hf
  · refine g_iload X dX3_surplus_105 4 rfl ?_
    refine g_iload_n X dX3_surplus_107 2 rfl rfl ?_
    refine g_icmp_gt (tgt := 120) X dX3_surplus_108 (by decide) hf (fun hf => ?_) (fun hf => ?_)
    · refine g_sub [1, 2, 3] (L' := [(0, .ref (adr C 35)), (1, .int v1), (3, .int v3)]) rfl ?_
      exact tX3_surplus_120 X hq r4 ih4 v1 v3 x1 σ hf
    · refine g_aload_n X dX3_surplus_111 1 rfl rfl ?_
      refine g_get (q := 35) (kf := 6) (v := .ref (adr C 39)) X obj_m rfl infX3_surplus_X3 (by decide) (by decide +kernel) rfl dX3_surplus_112 ?_
      refine g_iload_n X dX3_surplus_115 3 rfl rfl ?_
      refine g_iald (q := 39) (n := 5) X rfl rfl dX3_surplus_116 hf (fun hf => ?_)
      refine g_goto (tgt := 121) X dX3_surplus_117 (by decide) ?_
      refine g_sub [1, 2, 3] (L' := [(0, .ref (adr C 35)), (1, .int v1), (3, .int v3)]) rfl ?_
      exact tX3_surplus_121 X hq r4 ih4 v1 v3 (rI σ 39 (ix v3)) x1 σ hf
def fX3_surplus_93 (r4 : Int32 → Int32 → Int32 → Mem → Option (Int32 × Mem)) (v1 : Int32) (v3 : Int32) (v5 : Int32) (s0 : Int32) (σ : Mem) : Option (Int32 × Mem) :=
  fX3_surplus_94 r4 v1 v3 v5 (0 : Int32) s0 σ
set_option maxHeartbeats 4000000 in
set_option maxRecDepth 100000 in
theorem tX3_surplus_93 {C : Ctx} (X : CX C cX3_surplus 6 RX3 wsX3_surplus rmX3_surplus (some .int)) {r : Int32 × Mem} (hq : QI C r) (r4 : Int32 → Int32 → Int32 → Mem → Option (Int32 × Mem)) (ih4 : ∀ (v1 : Int32) (v2 : Int32) (v3 : Int32) (σ : Mem), r4 v1 v2 v3 σ = some r → G C 6 0 0 4 [(0, .ref (adr C 35)), (1, .int v1), (2, .int v2), (3, .int v3)] [] σ) (v1 : Int32) (v3 : Int32) (v5 : Int32) (s0 : Int32) (σ : Mem) (hf : fX3_surplus_93 r4 v1 v3 v5 s0 σ = some r) : G C 6 0 0 93 [(0, .ref (adr C 35)), (1, .int v1), (3, .int v3), (5, .int v5)] [.int s0] σ := by
  unfold fX3_surplus_93 at hf
  refine g_iconst (v := (0 : Int32)) X dX3_surplus_93 (by decide) ?_
  exact tX3_surplus_94 X hq r4 ih4 v1 v3 v5 (0 : Int32) s0 σ hf
def fX3_surplus_67 (r4 : Int32 → Int32 → Int32 → Mem → Option (Int32 × Mem)) (v1 : Int32) (v2 : Int32) (v3 : Int32) (v4 : Int32) (s0 : Int32) (σ : Mem) : Option (Int32 × Mem) :=
  if (rI σ 35 1) ≤ v3 then (fX3_surplus_93 r4 v1 v3 s0 v2 σ)
  else (if v1 < v4 then (fX3_surplus_93 r4 v1 v3 s0 v2 σ)
  else (grd (inb v3 5) (fX3_surplus_94 r4 v1 v3 s0 (rI σ 37 (ix v3)) v2 σ)))
set_option maxHeartbeats 4000000 in
set_option maxRecDepth 100000 in
theorem tX3_surplus_67 {C : Ctx} (X : CX C cX3_surplus 6 RX3 wsX3_surplus rmX3_surplus (some .int)) {r : Int32 × Mem} (hq : QI C r) (r4 : Int32 → Int32 → Int32 → Mem → Option (Int32 × Mem)) (ih4 : ∀ (v1 : Int32) (v2 : Int32) (v3 : Int32) (σ : Mem), r4 v1 v2 v3 σ = some r → G C 6 0 0 4 [(0, .ref (adr C 35)), (1, .int v1), (2, .int v2), (3, .int v3)] [] σ) (v1 : Int32) (v2 : Int32) (v3 : Int32) (v4 : Int32) (s0 : Int32) (σ : Mem) (hf : fX3_surplus_67 r4 v1 v2 v3 v4 s0 σ = some r) : G C 6 0 0 67 [(0, .ref (adr C 35)), (1, .int v1), (2, .int v2), (3, .int v3), (4, .int v4)] [.int s0] σ := by
  unfold fX3_surplus_67 at hf
  refine g_istore (L' := [(5, .int s0), (0, .ref (adr C 35)), (1, .int v1), (2, .int v2), (3, .int v3), (4, .int v4)]) X dX3_surplus_67 (by decide) rfl ?_
  refine g_iload_n X dX3_surplus_69 3 rfl rfl ?_
  refine g_iload_n X dX3_surplus_70 4 rfl rfl ?_
  refine g_aload_n X dX3_surplus_71 1 rfl rfl ?_
  refine g_get (q := 35) (kf := 1) (v := .int (rI σ 35 1)) X obj_m rfl infX3_surplus_X3 (by decide) (by decide +kernel) rfl dX3_surplus_72 ?_
  refine g_icmp_ge (tgt := 93) X dX3_surplus_75 (by decide) hf (fun hf => ?_) (fun hf => ?_)
  · refine g_sub [1, 2, 4, 0] (L' := [(0, .ref (adr C 35)), (1, .int v1), (3, .int v3), (5, .int s0)]) rfl ?_
    exact tX3_surplus_93 X hq r4 ih4 v1 v3 s0 v2 σ hf
  · refine g_iload X dX3_surplus_78 5 rfl ?_
    refine g_iload_n X dX3_surplus_80 2 rfl rfl ?_
    refine g_icmp_gt (tgt := 93) X dX3_surplus_81 (by decide) hf (fun hf => ?_) (fun hf => ?_)
    · refine g_sub [1, 2, 4, 0] (L' := [(0, .ref (adr C 35)), (1, .int v1), (3, .int v3), (5, .int s0)]) rfl ?_
      exact tX3_surplus_93 X hq r4 ih4 v1 v3 s0 v2 σ hf
    · refine g_aload_n X dX3_surplus_84 1 rfl rfl ?_
      refine g_get (q := 35) (kf := 4) (v := .ref (adr C 37)) X obj_m rfl infX3_surplus_X3 (by decide) (by decide +kernel) rfl dX3_surplus_85 ?_
      refine g_iload_n X dX3_surplus_88 4 rfl rfl ?_
      refine g_iald (q := 37) (n := 5) X rfl rfl dX3_surplus_89 hf (fun hf => ?_)
      refine g_goto (tgt := 94) X dX3_surplus_90 (by decide) ?_
      refine g_sub [1, 2, 4, 0] (L' := [(0, .ref (adr C 35)), (1, .int v1), (3, .int v3), (5, .int s0)]) rfl ?_
      exact tX3_surplus_94 X hq r4 ih4 v1 v3 s0 (rI σ 37 (ix v3)) v2 σ hf
def fX3_surplus_37 (r4 : Int32 → Int32 → Int32 → Mem → Option (Int32 × Mem)) (v1 : Int32) (v2 : Int32) (v3 : Int32) (s0 : Int32) (σ : Mem) : Option (Int32 × Mem) :=
  if (rI σ 35 7) = (2 : Int32) then (grd (inb v3 5) (grd (decide ((rI σ 35 8) ≠ 0)) (fX3_surplus_67 r4 v1 v2 v3 s0 ((rI σ 38 (ix v3)) - (rI σ 38 (ix v3)) / (rI σ 35 8) * (rI σ 35 8)) σ)))
  else (grd (inb v3 5) (fX3_surplus_67 r4 v1 v2 v3 s0 (rI σ 38 (ix v3)) σ))
set_option maxHeartbeats 4000000 in
set_option maxRecDepth 100000 in
theorem tX3_surplus_37 {C : Ctx} (X : CX C cX3_surplus 6 RX3 wsX3_surplus rmX3_surplus (some .int)) {r : Int32 × Mem} (hq : QI C r) (r4 : Int32 → Int32 → Int32 → Mem → Option (Int32 × Mem)) (ih4 : ∀ (v1 : Int32) (v2 : Int32) (v3 : Int32) (σ : Mem), r4 v1 v2 v3 σ = some r → G C 6 0 0 4 [(0, .ref (adr C 35)), (1, .int v1), (2, .int v2), (3, .int v3)] [] σ) (v1 : Int32) (v2 : Int32) (v3 : Int32) (s0 : Int32) (σ : Mem) (hf : fX3_surplus_37 r4 v1 v2 v3 s0 σ = some r) : G C 6 0 0 37 [(0, .ref (adr C 35)), (1, .int v1), (2, .int v2), (3, .int v3)] [.int s0] σ := by
  unfold fX3_surplus_37 at hf
  refine g_istore (L' := [(4, .int s0), (0, .ref (adr C 35)), (1, .int v1), (2, .int v2), (3, .int v3)]) X dX3_surplus_37 (by decide) rfl ?_
  refine g_aload_n X dX3_surplus_39 1 rfl rfl ?_
  refine g_get (q := 35) (kf := 7) (v := .int (rI σ 35 7)) X obj_m rfl infX3_surplus_X3 (by decide) (by decide +kernel) rfl dX3_surplus_40 ?_
  refine g_iconst (v := (2 : Int32)) X dX3_surplus_43 (by decide) ?_
  refine g_icmp_ne (tgt := 61) X dX3_surplus_44 (by decide) hf (fun hf => ?_) (fun hf => ?_)
  · refine g_aload_n X dX3_surplus_61 1 rfl rfl ?_
    refine g_get (q := 35) (kf := 5) (v := .ref (adr C 38)) X obj_m rfl infX3_surplus_X3 (by decide) (by decide +kernel) rfl dX3_surplus_62 ?_
    refine g_iload_n X dX3_surplus_65 4 rfl rfl ?_
    refine g_iald (q := 38) (n := 5) X rfl rfl dX3_surplus_66 hf (fun hf => ?_)
    refine g_sub [1, 2, 3, 4, 0] (L' := [(0, .ref (adr C 35)), (1, .int v1), (2, .int v2), (3, .int v3), (4, .int s0)]) rfl ?_
    exact tX3_surplus_67 X hq r4 ih4 v1 v2 v3 s0 (rI σ 38 (ix v3)) σ hf
  · refine g_aload_n X dX3_surplus_47 1 rfl rfl ?_
    refine g_get (q := 35) (kf := 5) (v := .ref (adr C 38)) X obj_m rfl infX3_surplus_X3 (by decide) (by decide +kernel) rfl dX3_surplus_48 ?_
    refine g_iload_n X dX3_surplus_51 4 rfl rfl ?_
    refine g_iald (q := 38) (n := 5) X rfl rfl dX3_surplus_52 hf (fun hf => ?_)
    refine g_aload_n X dX3_surplus_53 1 rfl rfl ?_
    refine g_get (q := 35) (kf := 8) (v := .int (rI σ 35 8)) X obj_m rfl infX3_surplus_X3 (by decide) (by decide +kernel) rfl dX3_surplus_54 ?_
    refine g_irem X dX3_surplus_57 hf (fun hf => ?_)
    refine g_goto (tgt := 67) X dX3_surplus_58 (by decide) ?_
    refine g_sub [1, 2, 3, 4, 0] (L' := [(0, .ref (adr C 35)), (1, .int v1), (2, .int v2), (3, .int v3), (4, .int s0)]) rfl ?_
    exact tX3_surplus_67 X hq r4 ih4 v1 v2 v3 s0 ((rI σ 38 (ix v3)) - (rI σ 38 (ix v3)) / (rI σ 35 8) * (rI σ 35 8)) σ hf
def fX3_surplus_4b (r4 : Int32 → Int32 → Int32 → Mem → Option (Int32 × Mem)) (v1 : Int32) (v2 : Int32) (v3 : Int32) (σ : Mem) : Option (Int32 × Mem) :=
  if (5 : Int32) ≤ v3 then (some (v2, σ))
  else (if (rI σ 35 7) = (2 : Int32) then (grd (inb v3 5) (grd (decide ((rI σ 35 8) ≠ 0)) (fX3_surplus_37 r4 v1 v2 v3 ((rI σ 36 (ix v3)) - (rI σ 36 (ix v3)) / (rI σ 35 8) * (rI σ 35 8)) σ)))
  else (grd (inb v3 5) (fX3_surplus_37 r4 v1 v2 v3 (rI σ 36 (ix v3)) σ)))
def fX3_surplus_4 : Nat → Int32 → Int32 → Int32 → Mem → Option (Int32 × Mem)
  | 0 => fun _ _ _ _ => none
  | n + 1 => fX3_surplus_4b (fX3_surplus_4 n)
set_option maxHeartbeats 4000000 in
set_option maxRecDepth 100000 in
theorem tX3_surplus_4b {C : Ctx} (X : CX C cX3_surplus 6 RX3 wsX3_surplus rmX3_surplus (some .int)) {r : Int32 × Mem} (hq : QI C r) (r4 : Int32 → Int32 → Int32 → Mem → Option (Int32 × Mem)) (ih4 : ∀ (v1 : Int32) (v2 : Int32) (v3 : Int32) (σ : Mem), r4 v1 v2 v3 σ = some r → G C 6 0 0 4 [(0, .ref (adr C 35)), (1, .int v1), (2, .int v2), (3, .int v3)] [] σ) (v1 : Int32) (v2 : Int32) (v3 : Int32) (σ : Mem) (hf : fX3_surplus_4b r4 v1 v2 v3 σ = some r) : G C 6 0 0 4 [(0, .ref (adr C 35)), (1, .int v1), (2, .int v2), (3, .int v3)] [] σ := by
  unfold fX3_surplus_4b at hf
  refine g_iload_n X dX3_surplus_4 3 rfl rfl ?_
  refine g_iconst (v := (5 : Int32)) X dX3_surplus_5 (by decide) ?_
  refine g_icmp_ge (tgt := 129) X dX3_surplus_6 (by decide) hf (fun hf => ?_) (fun hf => ?_)
  · refine g_iload_n X dX3_surplus_129 2 rfl rfl ?_
    exact r_iret X hq dX3_surplus_130 hf
  · refine g_aload_n X dX3_surplus_9 0 rfl rfl ?_
    refine g_get (q := 35) (kf := 7) (v := .int (rI σ 35 7)) X obj_m rfl infX3_surplus_X3 (by decide) (by decide +kernel) rfl dX3_surplus_10 ?_
    refine g_iconst (v := (2 : Int32)) X dX3_surplus_13 (by decide) ?_
    refine g_icmp_ne (tgt := 31) X dX3_surplus_14 (by decide) hf (fun hf => ?_) (fun hf => ?_)
    · refine g_aload_n X dX3_surplus_31 0 rfl rfl ?_
      refine g_get (q := 35) (kf := 3) (v := .ref (adr C 36)) X obj_m rfl infX3_surplus_X3 (by decide) (by decide +kernel) rfl dX3_surplus_32 ?_
      refine g_iload_n X dX3_surplus_35 3 rfl rfl ?_
      refine g_iald (q := 36) (n := 5) X rfl rfl dX3_surplus_36 hf (fun hf => ?_)
      exact tX3_surplus_37 X hq r4 ih4 v1 v2 v3 (rI σ 36 (ix v3)) σ hf
    · refine g_aload_n X dX3_surplus_17 0 rfl rfl ?_
      refine g_get (q := 35) (kf := 3) (v := .ref (adr C 36)) X obj_m rfl infX3_surplus_X3 (by decide) (by decide +kernel) rfl dX3_surplus_18 ?_
      refine g_iload_n X dX3_surplus_21 3 rfl rfl ?_
      refine g_iald (q := 36) (n := 5) X rfl rfl dX3_surplus_22 hf (fun hf => ?_)
      refine g_aload_n X dX3_surplus_23 0 rfl rfl ?_
      refine g_get (q := 35) (kf := 8) (v := .int (rI σ 35 8)) X obj_m rfl infX3_surplus_X3 (by decide) (by decide +kernel) rfl dX3_surplus_24 ?_
      refine g_irem X dX3_surplus_27 hf (fun hf => ?_)
      refine g_goto (tgt := 37) X dX3_surplus_28 (by decide) ?_
      exact tX3_surplus_37 X hq r4 ih4 v1 v2 v3 ((rI σ 36 (ix v3)) - (rI σ 36 (ix v3)) / (rI σ 35 8) * (rI σ 35 8)) σ hf
set_option maxHeartbeats 4000000 in
set_option maxRecDepth 100000 in
theorem tX3_surplus_4 {C : Ctx} (X : CX C cX3_surplus 6 RX3 wsX3_surplus rmX3_surplus (some .int)) {r : Int32 × Mem} (hq : QI C r) : ∀ (n : Nat) (v1 : Int32) (v2 : Int32) (v3 : Int32) (σ : Mem) (hf : fX3_surplus_4 n v1 v2 v3 σ = some r), G C 6 0 0 4 [(0, .ref (adr C 35)), (1, .int v1), (2, .int v2), (3, .int v3)] [] σ := by
  intro n
  induction n with
  | zero => intros; rename_i hf; exact absurd (show (none : Option (Int32 × Mem)) = some r from hf) (by simp)
  | succ n ih =>
    intro v1 v2 v3 σ hf
    exact tX3_surplus_4b X hq (fX3_surplus_4 n) (fun v1 v2 v3 σ hf => ih v1 v2 v3 σ hf) v1 v2 v3 σ hf
def fX3_surplus_e (v1 : Int32) (σ : Mem) : Option (Int32 × Mem) :=
  fX3_surplus_4 FU v1 (0 : Int32) (0 : Int32) σ
set_option maxHeartbeats 4000000 in
set_option maxRecDepth 100000 in
theorem tX3_surplus_e {C : Ctx} (X : CX C cX3_surplus 6 RX3 wsX3_surplus rmX3_surplus (some .int)) {r : Int32 × Mem} (hq : QI C r) (v1 : Int32) (σ : Mem) (hf : fX3_surplus_e v1 σ = some r) : G C 6 0 0 0 [(0, .ref (adr C 35)), (1, .int v1)] [] σ := by
  unfold fX3_surplus_e at hf
  refine g_iconst (v := (0 : Int32)) X dX3_surplus_0 (by decide) ?_
  refine g_istore_n (L' := [(2, .int (0 : Int32)), (0, .ref (adr C 35)), (1, .int v1)]) X dX3_surplus_1 rfl (by decide) rfl ?_
  refine g_iconst (v := (0 : Int32)) X dX3_surplus_2 (by decide) ?_
  refine g_istore_n (L' := [(3, .int (0 : Int32)), (2, .int (0 : Int32)), (0, .ref (adr C 35)), (1, .int v1)]) X dX3_surplus_3 rfl (by decide) rfl ?_
  refine g_sub [2, 3, 1, 0] (L' := [(0, .ref (adr C 35)), (1, .int v1), (2, .int (0 : Int32)), (3, .int (0 : Int32))]) rfl ?_
  exact tX3_surplus_4 X hq FU v1 (0 : Int32) (0 : Int32) σ hf
def fX3_surplus (v1 : Int32) (σ : Mem) : Option (Int32 × Mem) := fX3_surplus_e v1 σ
theorem kX3_surplus (l : Launch) (v1 : Int32) (σ : Mem) : KI l yX3_surplus wsX3_surplus rmX3_surplus (fun ad => [.ref (ad 35), .int v1]) σ (fX3_surplus v1 σ) := fun r hr => kt_of (by decide +kernel) rfl (fun _ => Nat.le_of_ble_eq_true rfl) (fun C X hne hq => tX3_surplus_e X hq v1 σ hr)
/-! ### X3_orderBy -/
abbrev rmX3_orderBy : Room := { frames := 1, cells := 0, slots := 0, locals := 33 }
theorem infX3_orderBy_X3 : ∀ w ∈ u_ws RX3 TX3 21, w ∈ wsX3_orderBy := by decide +kernel
def fX3_orderBy_48 (r4 : Int32 → Int32 → Int32 → Mem → Option (Int32 × Mem)) (v1 : Int32) (v3 : Int32) (s0 : Int32) (s1 : Int32) (σ : Mem) : Option (Int32 × Mem) :=
  ltI (s1 + s0) fun x1 =>
  r4 v1 x1 (v3 + 1) σ
set_option maxHeartbeats 4000000 in
set_option maxRecDepth 100000 in
theorem tX3_orderBy_48 {C : Ctx} (X : CX C cX3_orderBy 5 RX3 wsX3_orderBy rmX3_orderBy (some .int)) {r : Int32 × Mem} (hq : QI C r) (r4 : Int32 → Int32 → Int32 → Mem → Option (Int32 × Mem)) (ih4 : ∀ (v1 : Int32) (v2 : Int32) (v3 : Int32) (σ : Mem), r4 v1 v2 v3 σ = some r → G C 5 0 0 4 [(0, .ref (adr C 35)), (1, .int v1), (2, .int v2), (3, .int v3)] [] σ) (v1 : Int32) (v3 : Int32) (s0 : Int32) (s1 : Int32) (σ : Mem) (hf : fX3_orderBy_48 r4 v1 v3 s0 s1 σ = some r) : G C 5 0 0 48 [(0, .ref (adr C 35)), (1, .int v1), (3, .int v3)] [.int s0, .int s1] σ := by
  unfold fX3_orderBy_48 at hf
  refine g_iadd X dX3_orderBy_48 ?_
  refine s_istore_n (M := fun x1 => [(2, .int x1), (0, .ref (adr C 35)), (1, .int v1), (3, .int v3)]) X dX3_orderBy_49 rfl (by decide) (fun _ => rfl) hf (fun x1 hf => ?_)
  refine g_iinc (v := (v3 + 1)) (L' := [(3, .int (v3 + 1)), (2, .int x1), (0, .ref (adr C 35)), (1, .int v1)]) X dX3_orderBy_50 3 rfl rfl (by decide) rfl ?_
  refine g_goto (tgt := 4) X dX3_orderBy_53 (by decide) ?_
  refine g_sub [2, 3, 1, 0] (L' := [(0, .ref (adr C 35)), (1, .int v1), (2, .int x1), (3, .int (v3 + 1))]) rfl ?_
  exact ih4 v1 x1 (v3 + 1) σ hf
def fX3_orderBy_22 (r4 : Int32 → Int32 → Int32 → Mem → Option (Int32 × Mem)) (v1 : Int32) (v2 : Int32) (v3 : Int32) (s0 : Int32) (s1 : Int32) (σ : Mem) : Option (Int32 × Mem) :=
  if s0 ≤ s1 then (some (v2, σ))
  else (bnd (fX3_surplus v3 σ) fun u1 σ2 =>
  ltI (u1 - v1) fun x3 =>
  if 0 ≤ x3 then (fX3_orderBy_48 r4 v1 v3 x3 v2 σ2)
  else (fX3_orderBy_48 r4 v1 v3 (-x3) v2 σ2))
set_option maxHeartbeats 4000000 in
set_option maxRecDepth 100000 in
theorem tX3_orderBy_22 {C : Ctx} (X : CX C cX3_orderBy 5 RX3 wsX3_orderBy rmX3_orderBy (some .int)) {r : Int32 × Mem} (hq : QI C r) (r4 : Int32 → Int32 → Int32 → Mem → Option (Int32 × Mem)) (ih4 : ∀ (v1 : Int32) (v2 : Int32) (v3 : Int32) (σ : Mem), r4 v1 v2 v3 σ = some r → G C 5 0 0 4 [(0, .ref (adr C 35)), (1, .int v1), (2, .int v2), (3, .int v3)] [] σ) (v1 : Int32) (v2 : Int32) (v3 : Int32) (s0 : Int32) (s1 : Int32) (σ : Mem) (hf : fX3_orderBy_22 r4 v1 v2 v3 s0 s1 σ = some r) : G C 5 0 0 22 [(0, .ref (adr C 35)), (1, .int v1), (2, .int v2), (3, .int v3)] [.int s0, .int s1] σ := by
  unfold fX3_orderBy_22 at hf
  refine g_icmp_ge (tgt := 56) X dX3_orderBy_22 (by decide) hf (fun hf => ?_) (fun hf => ?_)
  · refine g_iload_n X dX3_orderBy_56 2 rfl rfl ?_
    exact r_iret X hq dX3_orderBy_57 hf
  · refine g_aload_n X dX3_orderBy_25 0 rfl rfl ?_
    refine g_iload_n X dX3_orderBy_26 3 rfl rfl ?_
    refine c_VI (q := 35) (vs := [.int v3]) (rest := []) X (kX3_surplus (cL C) v3 σ) (fun s a hts => cwV 1 hts gX3_orderBy_X3_surplus rfl rfl rfl (by decide +kernel) ⟨Nat.le_of_ble_eq_true rfl, Nat.le_of_ble_eq_true rfl⟩) obj_m (rfl : vwCl[3]? = some (RX3, TX3, 21)) rfl rfl rfl rfl (Nat.le_of_ble_eq_true rfl) dX3_orderBy_27 ⟨Nat.le_of_ble_eq_true rfl, Nat.le_of_ble_eq_true rfl⟩ hf (fun u1 σ2 hf => ?_)
    refine g_iload_n X dX3_orderBy_30 1 rfl rfl ?_
    refine g_isub X dX3_orderBy_31 ?_
    refine s_istore (M := fun x3 => [(4, .int x3), (0, .ref (adr C 35)), (1, .int v1), (2, .int v2), (3, .int v3)]) X dX3_orderBy_32 (by decide) (fun _ => rfl) hf (fun x3 hf => ?_)
    refine g_iload_n X dX3_orderBy_34 3 rfl rfl ?_
    refine g_iload X dX3_orderBy_35 0 rfl ?_
    refine g_if_ge (tgt := 46) X dX3_orderBy_37 (by decide) hf (fun hf => ?_) (fun hf => ?_)
    · refine g_iload X dX3_orderBy_46 0 rfl ?_
      refine g_sub [1, 2, 4] (L' := [(0, .ref (adr C 35)), (1, .int v1), (3, .int v3)]) rfl ?_
      exact tX3_orderBy_48 X hq r4 ih4 v1 v3 x3 v2 σ2 hf
    · refine g_iload X dX3_orderBy_40 0 rfl ?_
      refine g_ineg X dX3_orderBy_42 ?_
      refine g_goto (tgt := 48) X dX3_orderBy_43 (by decide) ?_
      refine g_sub [1, 2, 4] (L' := [(0, .ref (adr C 35)), (1, .int v1), (3, .int v3)]) rfl ?_
      exact tX3_orderBy_48 X hq r4 ih4 v1 v3 (-x3) v2 σ2 hf
def fX3_orderBy_4b (r4 : Int32 → Int32 → Int32 → Mem → Option (Int32 × Mem)) (v1 : Int32) (v2 : Int32) (v3 : Int32) (σ : Mem) : Option (Int32 × Mem) :=
  if (rI σ 35 7) = (2 : Int32) then (fX3_orderBy_22 r4 v1 v2 v3 (rI σ 35 8) v3 σ)
  else (fX3_orderBy_22 r4 v1 v2 v3 (100 : Int32) v3 σ)
def fX3_orderBy_4 : Nat → Int32 → Int32 → Int32 → Mem → Option (Int32 × Mem)
  | 0 => fun _ _ _ _ => none
  | n + 1 => fX3_orderBy_4b (fX3_orderBy_4 n)
set_option maxHeartbeats 4000000 in
set_option maxRecDepth 100000 in
theorem tX3_orderBy_4b {C : Ctx} (X : CX C cX3_orderBy 5 RX3 wsX3_orderBy rmX3_orderBy (some .int)) {r : Int32 × Mem} (hq : QI C r) (r4 : Int32 → Int32 → Int32 → Mem → Option (Int32 × Mem)) (ih4 : ∀ (v1 : Int32) (v2 : Int32) (v3 : Int32) (σ : Mem), r4 v1 v2 v3 σ = some r → G C 5 0 0 4 [(0, .ref (adr C 35)), (1, .int v1), (2, .int v2), (3, .int v3)] [] σ) (v1 : Int32) (v2 : Int32) (v3 : Int32) (σ : Mem) (hf : fX3_orderBy_4b r4 v1 v2 v3 σ = some r) : G C 5 0 0 4 [(0, .ref (adr C 35)), (1, .int v1), (2, .int v2), (3, .int v3)] [] σ := by
  unfold fX3_orderBy_4b at hf
  refine g_iload_n X dX3_orderBy_4 3 rfl rfl ?_
  refine g_aload_n X dX3_orderBy_5 0 rfl rfl ?_
  refine g_get (q := 35) (kf := 7) (v := .int (rI σ 35 7)) X obj_m rfl infX3_orderBy_X3 (by decide) (by decide +kernel) rfl dX3_orderBy_6 ?_
  refine g_iconst (v := (2 : Int32)) X dX3_orderBy_9 (by decide) ?_
  refine g_icmp_ne (tgt := 20) X dX3_orderBy_10 (by decide) hf (fun hf => ?_) (fun hf => ?_)
  · refine g_bipush (v := (100 : Int32)) X dX3_orderBy_20 (by decide) ?_
    exact tX3_orderBy_22 X hq r4 ih4 v1 v2 v3 (100 : Int32) v3 σ hf
  · refine g_aload_n X dX3_orderBy_13 0 rfl rfl ?_
    refine g_get (q := 35) (kf := 8) (v := .int (rI σ 35 8)) X obj_m rfl infX3_orderBy_X3 (by decide) (by decide +kernel) rfl dX3_orderBy_14 ?_
    refine g_goto (tgt := 22) X dX3_orderBy_17 (by decide) ?_
    exact tX3_orderBy_22 X hq r4 ih4 v1 v2 v3 (rI σ 35 8) v3 σ hf
set_option maxHeartbeats 4000000 in
set_option maxRecDepth 100000 in
theorem tX3_orderBy_4 {C : Ctx} (X : CX C cX3_orderBy 5 RX3 wsX3_orderBy rmX3_orderBy (some .int)) {r : Int32 × Mem} (hq : QI C r) : ∀ (n : Nat) (v1 : Int32) (v2 : Int32) (v3 : Int32) (σ : Mem) (hf : fX3_orderBy_4 n v1 v2 v3 σ = some r), G C 5 0 0 4 [(0, .ref (adr C 35)), (1, .int v1), (2, .int v2), (3, .int v3)] [] σ := by
  intro n
  induction n with
  | zero => intros; rename_i hf; exact absurd (show (none : Option (Int32 × Mem)) = some r from hf) (by simp)
  | succ n ih =>
    intro v1 v2 v3 σ hf
    exact tX3_orderBy_4b X hq (fX3_orderBy_4 n) (fun v1 v2 v3 σ hf => ih v1 v2 v3 σ hf) v1 v2 v3 σ hf
def fX3_orderBy_e (v1 : Int32) (σ : Mem) : Option (Int32 × Mem) :=
  fX3_orderBy_4 FU v1 (0 : Int32) (0 : Int32) σ
set_option maxHeartbeats 4000000 in
set_option maxRecDepth 100000 in
theorem tX3_orderBy_e {C : Ctx} (X : CX C cX3_orderBy 5 RX3 wsX3_orderBy rmX3_orderBy (some .int)) {r : Int32 × Mem} (hq : QI C r) (v1 : Int32) (σ : Mem) (hf : fX3_orderBy_e v1 σ = some r) : G C 5 0 0 0 [(0, .ref (adr C 35)), (1, .int v1)] [] σ := by
  unfold fX3_orderBy_e at hf
  refine g_iconst (v := (0 : Int32)) X dX3_orderBy_0 (by decide) ?_
  refine g_istore_n (L' := [(2, .int (0 : Int32)), (0, .ref (adr C 35)), (1, .int v1)]) X dX3_orderBy_1 rfl (by decide) rfl ?_
  refine g_iconst (v := (0 : Int32)) X dX3_orderBy_2 (by decide) ?_
  refine g_istore_n (L' := [(3, .int (0 : Int32)), (2, .int (0 : Int32)), (0, .ref (adr C 35)), (1, .int v1)]) X dX3_orderBy_3 rfl (by decide) rfl ?_
  refine g_sub [2, 3, 1, 0] (L' := [(0, .ref (adr C 35)), (1, .int v1), (2, .int (0 : Int32)), (3, .int (0 : Int32))]) rfl ?_
  exact tX3_orderBy_4 X hq FU v1 (0 : Int32) (0 : Int32) σ hf
def fX3_orderBy (v1 : Int32) (σ : Mem) : Option (Int32 × Mem) := fX3_orderBy_e v1 σ
theorem kX3_orderBy (l : Launch) (v1 : Int32) (σ : Mem) : KI l yX3_orderBy wsX3_orderBy rmX3_orderBy (fun ad => [.ref (ad 35), .int v1]) σ (fX3_orderBy v1 σ) := fun r hr => kt_of (by decide +kernel) rfl (fun _ => Nat.le_of_ble_eq_true rfl) (fun C X hne hq => tX3_orderBy_e X hq v1 σ hr)
/-! ### X3_order -/
abbrev rmX3_order : Room := { frames := 4, cells := 0, slots := 0, locals := 96 }
theorem infX3_order_X3 : ∀ w ∈ u_ws RX3 TX3 21, w ∈ wsX3_order := by decide +kernel
def fX3_order_60 (v1 : Int32) (σ : Mem) : Option (Int32 × Mem) :=
  some (v1, σ)
set_option maxHeartbeats 4000000 in
set_option maxRecDepth 100000 in
theorem tX3_order_60 {C : Ctx} (X : CX C cX3_order 3 RX3 wsX3_order rmX3_order (some .int)) {r : Int32 × Mem} (hq : QI C r) (v1 : Int32) (σ : Mem) (hf : fX3_order_60 v1 σ = some r) : G C 3 0 0 60 [(1, .int v1)] [] σ := by
  unfold fX3_order_60 at hf
  refine g_iload_n X dX3_order_60 0 rfl rfl ?_
  exact r_iret X hq dX3_order_61 hf
def fX3_order_30b (r30 : Int32 → Int32 → Mem → Option (Int32 × Mem)) (v1 : Int32) (v2 : Int32) (σ : Mem) : Option (Int32 × Mem) :=
  if (100 : Int32) < v2 then (fX3_order_60 v1 σ)
  else (if (rI σ 35 7) = (2 : Int32) then (bnd (fX3_orderBy v2 σ) fun u1 σ2 =>
  bnd (fX3_lesser v1 u1 σ2) fun u3 σ4 =>
  r30 u3 (v2 + 1) σ4)
  else (fX3_order_60 v1 σ))
def fX3_order_30 : Nat → Int32 → Int32 → Mem → Option (Int32 × Mem)
  | 0 => fun _ _ _ => none
  | n + 1 => fX3_order_30b (fX3_order_30 n)
set_option maxHeartbeats 4000000 in
set_option maxRecDepth 100000 in
theorem tX3_order_30b {C : Ctx} (X : CX C cX3_order 3 RX3 wsX3_order rmX3_order (some .int)) {r : Int32 × Mem} (hq : QI C r) (r30 : Int32 → Int32 → Mem → Option (Int32 × Mem)) (ih30 : ∀ (v1 : Int32) (v2 : Int32) (σ : Mem), r30 v1 v2 σ = some r → G C 3 0 0 30 [(0, .ref (adr C 35)), (1, .int v1), (2, .int v2)] [] σ) (v1 : Int32) (v2 : Int32) (σ : Mem) (hf : fX3_order_30b r30 v1 v2 σ = some r) : G C 3 0 0 30 [(0, .ref (adr C 35)), (1, .int v1), (2, .int v2)] [] σ := by
  unfold fX3_order_30b at hf
  refine g_iload_n X dX3_order_30 2 rfl rfl ?_
  refine g_bipush (v := (100 : Int32)) X dX3_order_31 (by decide) ?_
  refine g_icmp_gt (tgt := 60) X dX3_order_33 (by decide) hf (fun hf => ?_) (fun hf => ?_)
  · refine g_sub [1] (L' := [(1, .int v1)]) rfl ?_
    exact tX3_order_60 X hq v1 σ hf
  · refine g_aload_n X dX3_order_36 0 rfl rfl ?_
    refine g_get (q := 35) (kf := 7) (v := .int (rI σ 35 7)) X obj_m rfl infX3_order_X3 (by decide) (by decide +kernel) rfl dX3_order_37 ?_
    refine g_iconst (v := (2 : Int32)) X dX3_order_40 (by decide) ?_
    refine g_icmp_ne (tgt := 60) X dX3_order_41 (by decide) hf (fun hf => ?_) (fun hf => ?_)
    · refine g_sub [1] (L' := [(1, .int v1)]) rfl ?_
      exact tX3_order_60 X hq v1 σ hf
    · refine g_iload_n X dX3_order_44 1 rfl rfl ?_
      refine g_aload_n X dX3_order_45 0 rfl rfl ?_
      refine g_iload_n X dX3_order_46 2 rfl rfl ?_
      refine c_VI (q := 35) (vs := [.int v2]) (rest := [.int v1]) X (kX3_orderBy (cL C) v2 σ) (fun s a hts => cwV 1 hts gX3_order_X3_orderBy rfl rfl rfl (by decide +kernel) ⟨Nat.le_of_ble_eq_true rfl, Nat.le_of_ble_eq_true rfl⟩) obj_m (rfl : vwCl[3]? = some (RX3, TX3, 21)) rfl rfl rfl rfl (Nat.le_of_ble_eq_true rfl) dX3_order_47 ⟨Nat.le_of_ble_eq_true rfl, Nat.le_of_ble_eq_true rfl⟩ hf (fun u1 σ2 hf => ?_)
      refine c_SI (vs := [.int v1, .int u1]) (rest := []) X (kX3_lesser (cL C) v1 u1 σ2) (fun s a hts => va_cwS 2 hts gX3_order_X3_lesser rfl rfl rfl (by decide +kernel) ⟨Nat.le_of_ble_eq_true rfl, Nat.le_of_ble_eq_true rfl⟩) rfl rfl rfl (Nat.le_of_ble_eq_true rfl) dX3_order_50 ⟨Nat.le_of_ble_eq_true rfl, Nat.le_of_ble_eq_true rfl⟩ hf (fun u3 σ4 hf => ?_)
      refine g_istore_n (L' := [(1, .int u3), (0, .ref (adr C 35)), (2, .int v2)]) X dX3_order_53 rfl (by decide) rfl ?_
      refine g_iinc (v := (v2 + 1)) (L' := [(2, .int (v2 + 1)), (1, .int u3), (0, .ref (adr C 35))]) X dX3_order_54 2 rfl rfl (by decide) rfl ?_
      refine g_goto (tgt := 30) X dX3_order_57 (by decide) ?_
      refine g_sub [2, 1, 0] (L' := [(0, .ref (adr C 35)), (1, .int u3), (2, .int (v2 + 1))]) rfl ?_
      exact ih30 u3 (v2 + 1) σ4 hf
set_option maxHeartbeats 4000000 in
set_option maxRecDepth 100000 in
theorem tX3_order_30 {C : Ctx} (X : CX C cX3_order 3 RX3 wsX3_order rmX3_order (some .int)) {r : Int32 × Mem} (hq : QI C r) : ∀ (n : Nat) (v1 : Int32) (v2 : Int32) (σ : Mem) (hf : fX3_order_30 n v1 v2 σ = some r), G C 3 0 0 30 [(0, .ref (adr C 35)), (1, .int v1), (2, .int v2)] [] σ := by
  intro n
  induction n with
  | zero => intros; rename_i hf; exact absurd (show (none : Option (Int32 × Mem)) = some r from hf) (by simp)
  | succ n ih =>
    intro v1 v2 σ hf
    exact tX3_order_30b X hq (fX3_order_30 n) (fun v1 v2 σ hf => ih v1 v2 σ hf) v1 v2 σ hf
def fX3_order_13 (s0 : Int32) (σ : Mem) : Option (Int32 × Mem) :=
  bnd (fX3_goesWell s0 σ) fun u1 σ2 =>
  if u1 = 0 then (some ((0 : Int32), σ2))
  else (bnd (fX3_orderBy (0 : Int32) σ2) fun u3 σ4 =>
  fX3_order_30 FU u3 (-100 : Int32) σ4)
set_option maxHeartbeats 4000000 in
set_option maxRecDepth 100000 in
theorem tX3_order_13 {C : Ctx} (X : CX C cX3_order 3 RX3 wsX3_order rmX3_order (some .int)) {r : Int32 × Mem} (hq : QI C r) (s0 : Int32) (σ : Mem) (hf : fX3_order_13 s0 σ = some r) : G C 3 0 0 13 [(0, .ref (adr C 35))] [.int s0, .ref (adr C 35)] σ := by
  unfold fX3_order_13 at hf
  refine c_VI (q := 35) (vs := [.int s0]) (rest := []) X (kX3_goesWell (cL C) s0 σ) (fun s a hts => cwV 1 hts gX3_order_X3_goesWell rfl rfl rfl (by decide +kernel) ⟨Nat.le_of_ble_eq_true rfl, Nat.le_of_ble_eq_true rfl⟩) obj_m (rfl : vwCl[3]? = some (RX3, TX3, 21)) rfl rfl rfl rfl (Nat.le_of_ble_eq_true rfl) dX3_order_13 ⟨Nat.le_of_ble_eq_true rfl, Nat.le_of_ble_eq_true rfl⟩ hf (fun u1 σ2 hf => ?_)
  refine g_if_ne (tgt := 21) X dX3_order_16 (by decide) hf (fun hf => ?_) (fun hf => ?_)
  · refine g_aload_n X dX3_order_21 0 rfl rfl ?_
    refine g_iconst (v := (0 : Int32)) X dX3_order_22 (by decide) ?_
    refine c_VI (q := 35) (vs := [.int (0 : Int32)]) (rest := []) X (kX3_orderBy (cL C) (0 : Int32) σ2) (fun s a hts => cwV 1 hts gX3_order_X3_orderBy rfl rfl rfl (by decide +kernel) ⟨Nat.le_of_ble_eq_true rfl, Nat.le_of_ble_eq_true rfl⟩) obj_m (rfl : vwCl[3]? = some (RX3, TX3, 21)) rfl rfl rfl rfl (Nat.le_of_ble_eq_true rfl) dX3_order_23 ⟨Nat.le_of_ble_eq_true rfl, Nat.le_of_ble_eq_true rfl⟩ hf (fun u3 σ4 hf => ?_)
    refine g_istore_n (L' := [(1, .int u3), (0, .ref (adr C 35))]) X dX3_order_26 rfl (by decide) rfl ?_
    refine g_bipush (v := (-100 : Int32)) X dX3_order_27 (by decide) ?_
    refine g_istore_n (L' := [(2, .int (-100 : Int32)), (1, .int u3), (0, .ref (adr C 35))]) X dX3_order_29 rfl (by decide) rfl ?_
    refine g_sub [2, 1, 0] (L' := [(0, .ref (adr C 35)), (1, .int u3), (2, .int (-100 : Int32))]) rfl ?_
    exact tX3_order_30 X hq FU u3 (-100 : Int32) σ4 hf
  · refine g_iconst (v := (0 : Int32)) X dX3_order_19 (by decide) ?_
    exact r_iret X hq dX3_order_20 hf
def fX3_order_e (σ : Mem) : Option (Int32 × Mem) :=
  bnd (fX3_canOrder σ) fun u1 σ2 =>
  if u1 = 0 then (fX3_order_13 (1 : Int32) σ2)
  else (fX3_order_13 (0 : Int32) σ2)
set_option maxHeartbeats 4000000 in
set_option maxRecDepth 100000 in
theorem tX3_order_e {C : Ctx} (X : CX C cX3_order 3 RX3 wsX3_order rmX3_order (some .int)) {r : Int32 × Mem} (hq : QI C r) (σ : Mem) (hf : fX3_order_e σ = some r) : G C 3 0 0 0 [(0, .ref (adr C 35))] [] σ := by
  unfold fX3_order_e at hf
  refine g_aload_n X dX3_order_0 0 rfl rfl ?_
  refine g_aload_n X dX3_order_1 0 rfl rfl ?_
  refine c_VI (q := 35) (vs := []) (rest := [.ref (adr C 35)]) X (kX3_canOrder (cL C) σ) (fun s a hts => cwV 0 hts gX3_order_X3_canOrder rfl rfl rfl (by decide +kernel) ⟨Nat.le_of_ble_eq_true rfl, Nat.le_of_ble_eq_true rfl⟩) obj_m (rfl : vwCl[3]? = some (RX3, TX3, 21)) rfl rfl rfl rfl (Nat.le_of_ble_eq_true rfl) dX3_order_2 ⟨Nat.le_of_ble_eq_true rfl, Nat.le_of_ble_eq_true rfl⟩ hf (fun u1 σ2 hf => ?_)
  refine g_if_eq (tgt := 12) X dX3_order_5 (by decide) hf (fun hf => ?_) (fun hf => ?_)
  · refine g_iconst (v := (1 : Int32)) X dX3_order_12 (by decide) ?_
    exact tX3_order_13 X hq (1 : Int32) σ2 hf
  · refine g_iconst (v := (0 : Int32)) X dX3_order_8 (by decide) ?_
    refine g_goto (tgt := 13) X dX3_order_9 (by decide) ?_
    exact tX3_order_13 X hq (0 : Int32) σ2 hf
def fX3_order (σ : Mem) : Option (Int32 × Mem) := fX3_order_e σ
theorem kX3_order (l : Launch) (σ : Mem) : KI l yX3_order wsX3_order rmX3_order (fun ad => [.ref (ad 35)]) σ (fX3_order σ) := fun r hr => kt_of (by decide +kernel) rfl (fun _ => Nat.le_of_ble_eq_true rfl) (fun C X hne hq => tX3_order_e X hq σ hr)
/-! ### X3_carry -/
abbrev rmX3_carry : Room := { frames := 3, cells := 0, slots := 0, locals := 73 }
theorem infX3_carry_X3 : ∀ w ∈ u_ws RX3 TX3 21, w ∈ wsX3_carry := by decide +kernel
def fX3_carry_33 (v1 : Int32) (v2 : Int32) (v3 : Int32) (s0 : Int32) (σ : Mem) : Option (Int32 × Mem) :=
  bnd (fX3_goesWell s0 σ) fun u1 σ2 =>
  if u1 = 0 then (some ((0 : Int32), σ2))
  else (grd (inb (((5 : Int32) * v1) + v2) 25) (ltI (rI σ2 42 (ix (((5 : Int32) * v1) + v2))) fun x3 =>
  grd (inb (((5 : Int32) * v1) + v2) 25) (ltM (wI σ2 42 (ix (((5 : Int32) * v1) + v2)) v3) fun σ4 =>
  some (x3, σ4))))
set_option maxHeartbeats 4000000 in
set_option maxRecDepth 100000 in
theorem tX3_carry_33 {C : Ctx} (X : CX C cX3_carry 6 RX3 wsX3_carry rmX3_carry (some .int)) {r : Int32 × Mem} (hq : QI C r) (v1 : Int32) (v2 : Int32) (v3 : Int32) (s0 : Int32) (σ : Mem) (hf : fX3_carry_33 v1 v2 v3 s0 σ = some r) : G C 6 0 0 33 [(0, .ref (adr C 35)), (1, .int v1), (2, .int v2), (3, .int v3)] [.int s0, .ref (adr C 35)] σ := by
  unfold fX3_carry_33 at hf
  refine c_VI (q := 35) (vs := [.int s0]) (rest := []) X (kX3_goesWell (cL C) s0 σ) (fun s a hts => cwV 1 hts gX3_carry_X3_goesWell rfl rfl rfl (by decide +kernel) ⟨Nat.le_of_ble_eq_true rfl, Nat.le_of_ble_eq_true rfl⟩) obj_m (rfl : vwCl[3]? = some (RX3, TX3, 21)) rfl rfl rfl rfl (Nat.le_of_ble_eq_true rfl) dX3_carry_33 ⟨Nat.le_of_ble_eq_true rfl, Nat.le_of_ble_eq_true rfl⟩ hf (fun u1 σ2 hf => ?_)
  refine g_if_ne (tgt := 41) X dX3_carry_36 (by decide) hf (fun hf => ?_) (fun hf => ?_)
  · refine g_aload_n X dX3_carry_41 0 rfl rfl ?_
    refine g_get (q := 35) (kf := 11) (v := .ref (adr C 42)) X obj_m rfl infX3_carry_X3 (by decide) (by decide +kernel) rfl dX3_carry_42 ?_
    refine g_iconst (v := (5 : Int32)) X dX3_carry_45 (by decide) ?_
    refine g_iload_n X dX3_carry_46 1 rfl rfl ?_
    refine g_imul X dX3_carry_47 ?_
    refine g_iload_n X dX3_carry_48 2 rfl rfl ?_
    refine g_iadd X dX3_carry_49 ?_
    refine g_iald (q := 42) (n := 25) X rfl rfl dX3_carry_50 hf (fun hf => ?_)
    refine s_istore (M := fun x3 => [(5, .int x3), (0, .ref (adr C 35)), (1, .int v1), (2, .int v2), (3, .int v3)]) X dX3_carry_51 (by decide) (fun _ => rfl) hf (fun x3 hf => ?_)
    refine g_aload_n X dX3_carry_53 1 rfl rfl ?_
    refine g_get (q := 35) (kf := 11) (v := .ref (adr C 42)) X obj_m rfl infX3_carry_X3 (by decide) (by decide +kernel) rfl dX3_carry_54 ?_
    refine g_iconst (v := (5 : Int32)) X dX3_carry_57 (by decide) ?_
    refine g_iload_n X dX3_carry_58 2 rfl rfl ?_
    refine g_imul X dX3_carry_59 ?_
    refine g_iload_n X dX3_carry_60 3 rfl rfl ?_
    refine g_iadd X dX3_carry_61 ?_
    refine g_iload_n X dX3_carry_62 4 rfl rfl ?_
    refine s_iast (q := 42) (n := 25) X rfl rfl dX3_carry_63 hf (fun σ4 hf => ?_)
    refine g_iload X dX3_carry_64 0 rfl ?_
    exact r_iret X hq dX3_carry_66 hf
  · refine g_iconst (v := (0 : Int32)) X dX3_carry_39 (by decide) ?_
    exact r_iret X hq dX3_carry_40 hf
def fX3_carry_e (v1 : Int32) (v2 : Int32) (v3 : Int32) (σ : Mem) : Option (Int32 × Mem) :=
  bnd (fX3_isWay v1 v2 σ) fun u1 σ2 =>
  if u1 = 0 then (fX3_carry_33 v1 v2 v3 (1 : Int32) σ2)
  else (bnd (fX3_in v3 (0 : Int32) (20 : Int32) σ2) fun u3 σ4 =>
  if u3 = 0 then (fX3_carry_33 v1 v2 v3 (2 : Int32) σ4)
  else (fX3_carry_33 v1 v2 v3 (0 : Int32) σ4))
set_option maxHeartbeats 4000000 in
set_option maxRecDepth 100000 in
theorem tX3_carry_e {C : Ctx} (X : CX C cX3_carry 6 RX3 wsX3_carry rmX3_carry (some .int)) {r : Int32 × Mem} (hq : QI C r) (v1 : Int32) (v2 : Int32) (v3 : Int32) (σ : Mem) (hf : fX3_carry_e v1 v2 v3 σ = some r) : G C 6 0 0 0 [(0, .ref (adr C 35)), (1, .int v1), (2, .int v2), (3, .int v3)] [] σ := by
  unfold fX3_carry_e at hf
  refine g_aload_n X dX3_carry_0 0 rfl rfl ?_
  refine g_iload_n X dX3_carry_1 1 rfl rfl ?_
  refine g_iload_n X dX3_carry_2 2 rfl rfl ?_
  refine c_VI (q := 35) (vs := [.int v1, .int v2]) (rest := []) X (kX3_isWay (cL C) v1 v2 σ) (fun s a hts => cwV 2 hts gX3_carry_X3_isWay rfl rfl rfl (by decide +kernel) ⟨Nat.le_of_ble_eq_true rfl, Nat.le_of_ble_eq_true rfl⟩) obj_m (rfl : vwCl[3]? = some (RX3, TX3, 21)) rfl rfl rfl rfl (Nat.le_of_ble_eq_true rfl) dX3_carry_3 ⟨Nat.le_of_ble_eq_true rfl, Nat.le_of_ble_eq_true rfl⟩ hf (fun u1 σ2 hf => ?_)
  refine g_istore (L' := [(4, .int u1), (0, .ref (adr C 35)), (1, .int v1), (2, .int v2), (3, .int v3)]) X dX3_carry_6 (by decide) rfl ?_
  refine g_aload_n X dX3_carry_8 1 rfl rfl ?_
  refine g_iload X dX3_carry_9 0 rfl ?_
  refine g_if_ne (tgt := 18) X dX3_carry_11 (by decide) hf (fun hf => ?_) (fun hf => ?_)
  · refine g_iload_n X dX3_carry_18 4 rfl rfl ?_
    refine g_iconst (v := (0 : Int32)) X dX3_carry_19 (by decide) ?_
    refine g_bipush (v := (20 : Int32)) X dX3_carry_20 (by decide) ?_
    refine c_SI (vs := [.int v3, .int (0 : Int32), .int (20 : Int32)]) (rest := [.ref (adr C 35)]) X (kX3_in (cL C) v3 (0 : Int32) (20 : Int32) σ2) (fun s a hts => va_cwS 3 hts gX3_carry_X3_in rfl rfl rfl (by decide +kernel) ⟨Nat.le_of_ble_eq_true rfl, Nat.le_of_ble_eq_true rfl⟩) rfl rfl rfl (Nat.le_of_ble_eq_true rfl) dX3_carry_22 ⟨Nat.le_of_ble_eq_true rfl, Nat.le_of_ble_eq_true rfl⟩ hf (fun u3 σ4 hf => ?_)
    refine g_if_eq (tgt := 32) X dX3_carry_25 (by decide) hf (fun hf => ?_) (fun hf => ?_)
    · refine g_iconst (v := (2 : Int32)) X dX3_carry_32 (by decide) ?_
      refine g_sub [1, 2, 3, 4] (L' := [(0, .ref (adr C 35)), (1, .int v1), (2, .int v2), (3, .int v3)]) rfl ?_
      exact tX3_carry_33 X hq v1 v2 v3 (2 : Int32) σ4 hf
    · refine g_iconst (v := (0 : Int32)) X dX3_carry_28 (by decide) ?_
      refine g_goto (tgt := 33) X dX3_carry_29 (by decide) ?_
      refine g_sub [1, 2, 3, 4] (L' := [(0, .ref (adr C 35)), (1, .int v1), (2, .int v2), (3, .int v3)]) rfl ?_
      exact tX3_carry_33 X hq v1 v2 v3 (0 : Int32) σ4 hf
  · refine g_iconst (v := (1 : Int32)) X dX3_carry_14 (by decide) ?_
    refine g_goto (tgt := 33) X dX3_carry_15 (by decide) ?_
    refine g_sub [1, 2, 3, 4] (L' := [(0, .ref (adr C 35)), (1, .int v1), (2, .int v2), (3, .int v3)]) rfl ?_
    exact tX3_carry_33 X hq v1 v2 v3 (1 : Int32) σ2 hf
def fX3_carry (v1 : Int32) (v2 : Int32) (v3 : Int32) (σ : Mem) : Option (Int32 × Mem) := fX3_carry_e v1 v2 v3 σ
theorem kX3_carry (l : Launch) (v1 : Int32) (v2 : Int32) (v3 : Int32) (σ : Mem) : KI l yX3_carry wsX3_carry rmX3_carry (fun ad => [.ref (ad 35), .int v1, .int v2, .int v3]) σ (fX3_carry v1 v2 v3 σ) := fun r hr => kt_of (by decide +kernel) rfl (fun _ => Nat.le_of_ble_eq_true rfl) (fun C X hne hq => tX3_carry_e X hq v1 v2 v3 σ hr)
/-! ### X3_take -/
abbrev rmX3_take : Room := { frames := 9, cells := 0, slots := 0, locals := 218 }
theorem infX3_take_X3 : ∀ w ∈ u_ws RX3 TX3 21, w ∈ wsX3_take := by decide +kernel
def fX3_take_40 (r13 : Int32 → Int32 → Mem → Option (Int32 × Mem)) (v2 : Int32) (s0 : Int32) (s1 : Int32) (σ : Mem) : Option (Int32 × Mem) :=
  ltI (s1 + s0) fun x1 =>
  grd (inb v2 25) (grd (inb v2 25) (ltM (wI σ 42 (ix v2) (rI σ 49 (ix v2))) fun σ2 =>
  r13 x1 (v2 + 1) σ2))
set_option maxHeartbeats 4000000 in
set_option maxRecDepth 100000 in
theorem tX3_take_40 {C : Ctx} (X : CX C cX3_take 3 RX3 wsX3_take rmX3_take (some .int)) {r : Int32 × Mem} (hq : QI C r) (r13 : Int32 → Int32 → Mem → Option (Int32 × Mem)) (ih13 : ∀ (v1 : Int32) (v2 : Int32) (σ : Mem), r13 v1 v2 σ = some r → G C 3 0 0 13 [(0, .ref (adr C 35)), (1, .int v1), (2, .int v2)] [] σ) (v2 : Int32) (s0 : Int32) (s1 : Int32) (σ : Mem) (hf : fX3_take_40 r13 v2 s0 s1 σ = some r) : G C 3 0 0 40 [(0, .ref (adr C 35)), (2, .int v2)] [.int s0, .int s1] σ := by
  unfold fX3_take_40 at hf
  refine g_iadd X dX3_take_40 ?_
  refine s_istore_n (M := fun x1 => [(1, .int x1), (0, .ref (adr C 35)), (2, .int v2)]) X dX3_take_41 rfl (by decide) (fun _ => rfl) hf (fun x1 hf => ?_)
  refine g_aload_n X dX3_take_42 1 rfl rfl ?_
  refine g_get (q := 35) (kf := 11) (v := .ref (adr C 42)) X obj_m rfl infX3_take_X3 (by decide) (by decide +kernel) rfl dX3_take_43 ?_
  refine g_iload_n X dX3_take_46 2 rfl rfl ?_
  refine g_aload_n X dX3_take_47 1 rfl rfl ?_
  refine g_get (q := 35) (kf := 20) (v := .ref (adr C 49)) X obj_m rfl infX3_take_X3 (by decide) (by decide +kernel) rfl dX3_take_48 ?_
  refine g_iload_n X dX3_take_51 2 rfl rfl ?_
  refine g_iald (q := 49) (n := 25) X rfl rfl dX3_take_52 hf (fun hf => ?_)
  refine s_iast (q := 42) (n := 25) X rfl rfl dX3_take_53 hf (fun σ2 hf => ?_)
  refine g_iinc (v := (v2 + 1)) (L' := [(2, .int (v2 + 1)), (1, .int x1), (0, .ref (adr C 35))]) X dX3_take_54 2 rfl rfl (by decide) rfl ?_
  refine g_goto (tgt := 13) X dX3_take_57 (by decide) ?_
  refine g_sub [2, 1, 0] (L' := [(0, .ref (adr C 35)), (1, .int x1), (2, .int (v2 + 1))]) rfl ?_
  exact ih13 x1 (v2 + 1) σ2 hf
def fX3_take_13b (r13 : Int32 → Int32 → Mem → Option (Int32 × Mem)) (v1 : Int32) (v2 : Int32) (σ : Mem) : Option (Int32 × Mem) :=
  if (25 : Int32) ≤ v2 then (some (v1, σ))
  else (grd (inb v2 25) (grd (inb v2 25) (if (rI σ 42 (ix v2)) = (rI σ 49 (ix v2)) then (fX3_take_40 r13 v2 (0 : Int32) v1 σ)
  else (fX3_take_40 r13 v2 (1 : Int32) v1 σ))))
def fX3_take_13 : Nat → Int32 → Int32 → Mem → Option (Int32 × Mem)
  | 0 => fun _ _ _ => none
  | n + 1 => fX3_take_13b (fX3_take_13 n)
set_option maxHeartbeats 4000000 in
set_option maxRecDepth 100000 in
theorem tX3_take_13b {C : Ctx} (X : CX C cX3_take 3 RX3 wsX3_take rmX3_take (some .int)) {r : Int32 × Mem} (hq : QI C r) (r13 : Int32 → Int32 → Mem → Option (Int32 × Mem)) (ih13 : ∀ (v1 : Int32) (v2 : Int32) (σ : Mem), r13 v1 v2 σ = some r → G C 3 0 0 13 [(0, .ref (adr C 35)), (1, .int v1), (2, .int v2)] [] σ) (v1 : Int32) (v2 : Int32) (σ : Mem) (hf : fX3_take_13b r13 v1 v2 σ = some r) : G C 3 0 0 13 [(0, .ref (adr C 35)), (1, .int v1), (2, .int v2)] [] σ := by
  unfold fX3_take_13b at hf
  refine g_iload_n X dX3_take_13 2 rfl rfl ?_
  refine g_bipush (v := (25 : Int32)) X dX3_take_14 (by decide) ?_
  refine g_icmp_ge (tgt := 60) X dX3_take_16 (by decide) hf (fun hf => ?_) (fun hf => ?_)
  · refine g_iload_n X dX3_take_60 1 rfl rfl ?_
    exact r_iret X hq dX3_take_61 hf
  · refine g_iload_n X dX3_take_19 1 rfl rfl ?_
    refine g_aload_n X dX3_take_20 0 rfl rfl ?_
    refine g_get (q := 35) (kf := 11) (v := .ref (adr C 42)) X obj_m rfl infX3_take_X3 (by decide) (by decide +kernel) rfl dX3_take_21 ?_
    refine g_iload_n X dX3_take_24 2 rfl rfl ?_
    refine g_iald (q := 42) (n := 25) X rfl rfl dX3_take_25 hf (fun hf => ?_)
    refine g_aload_n X dX3_take_26 0 rfl rfl ?_
    refine g_get (q := 35) (kf := 20) (v := .ref (adr C 49)) X obj_m rfl infX3_take_X3 (by decide) (by decide +kernel) rfl dX3_take_27 ?_
    refine g_iload_n X dX3_take_30 2 rfl rfl ?_
    refine g_iald (q := 49) (n := 25) X rfl rfl dX3_take_31 hf (fun hf => ?_)
    refine g_icmp_eq (tgt := 39) X dX3_take_32 (by decide) hf (fun hf => ?_) (fun hf => ?_)
    · refine g_iconst (v := (0 : Int32)) X dX3_take_39 (by decide) ?_
      refine g_sub [0, 2] (L' := [(0, .ref (adr C 35)), (2, .int v2)]) rfl ?_
      exact tX3_take_40 X hq r13 ih13 v2 (0 : Int32) v1 σ hf
    · refine g_iconst (v := (1 : Int32)) X dX3_take_35 (by decide) ?_
      refine g_goto (tgt := 40) X dX3_take_36 (by decide) ?_
      refine g_sub [0, 2] (L' := [(0, .ref (adr C 35)), (2, .int v2)]) rfl ?_
      exact tX3_take_40 X hq r13 ih13 v2 (1 : Int32) v1 σ hf
set_option maxHeartbeats 4000000 in
set_option maxRecDepth 100000 in
theorem tX3_take_13 {C : Ctx} (X : CX C cX3_take 3 RX3 wsX3_take rmX3_take (some .int)) {r : Int32 × Mem} (hq : QI C r) : ∀ (n : Nat) (v1 : Int32) (v2 : Int32) (σ : Mem) (hf : fX3_take_13 n v1 v2 σ = some r), G C 3 0 0 13 [(0, .ref (adr C 35)), (1, .int v1), (2, .int v2)] [] σ := by
  intro n
  induction n with
  | zero => intros; rename_i hf; exact absurd (show (none : Option (Int32 × Mem)) = some r from hf) (by simp)
  | succ n ih =>
    intro v1 v2 σ hf
    exact tX3_take_13b X hq (fX3_take_13 n) (fun v1 v2 σ hf => ih v1 v2 σ hf) v1 v2 σ hf
def fX3_take_e (σ : Mem) : Option (Int32 × Mem) :=
  ltM (wI σ 35 0 (0 : Int32)) fun σ1 =>
  bnd (fX3_findPlan σ1) fun u2 σ3 =>
  fX3_take_13 FU (0 : Int32) (0 : Int32) σ3
set_option maxHeartbeats 4000000 in
set_option maxRecDepth 100000 in
theorem tX3_take_e {C : Ctx} (X : CX C cX3_take 3 RX3 wsX3_take rmX3_take (some .int)) {r : Int32 × Mem} (hq : QI C r) (σ : Mem) (hf : fX3_take_e σ = some r) : G C 3 0 0 0 [(0, .ref (adr C 35))] [] σ := by
  unfold fX3_take_e at hf
  refine g_aload_n X dX3_take_0 0 rfl rfl ?_
  refine g_iconst (v := (0 : Int32)) X dX3_take_1 (by decide) ?_
  refine s_put (q := 35) (kf := 0) X obj_m rfl infX3_take_X3 tyX3_ok nmX3 (by decide) (by decide +kernel) rfl rfl rfl rfl (fun _ _ => rfl) (fun _ _ => Nat.le_of_ble_eq_true rfl) dX3_take_2 hf (fun σ1 hf => ?_)
  refine g_aload_n X dX3_take_5 0 rfl rfl ?_
  refine c_VV (q := 35) (vs := []) (rest := []) X (kX3_findPlan (cL C) σ1) (fun s a hts => cwV 0 hts gX3_take_X3_findPlan rfl rfl rfl (by decide +kernel) ⟨Nat.le_of_ble_eq_true rfl, Nat.le_of_ble_eq_true rfl⟩) obj_m (rfl : vwCl[3]? = some (RX3, TX3, 21)) rfl rfl rfl rfl (Nat.le_of_ble_eq_true rfl) dX3_take_6 ⟨Nat.le_of_ble_eq_true rfl, Nat.le_of_ble_eq_true rfl⟩ hf (fun u2 σ3 hf => ?_)
  refine g_iconst (v := (0 : Int32)) X dX3_take_9 (by decide) ?_
  refine g_istore_n (L' := [(1, .int (0 : Int32)), (0, .ref (adr C 35))]) X dX3_take_10 rfl (by decide) rfl ?_
  refine g_iconst (v := (0 : Int32)) X dX3_take_11 (by decide) ?_
  refine g_istore_n (L' := [(2, .int (0 : Int32)), (1, .int (0 : Int32)), (0, .ref (adr C 35))]) X dX3_take_12 rfl (by decide) rfl ?_
  refine g_sub [2, 1, 0] (L' := [(0, .ref (adr C 35)), (1, .int (0 : Int32)), (2, .int (0 : Int32))]) rfl ?_
  exact tX3_take_13 X hq FU (0 : Int32) (0 : Int32) σ3 hf
def fX3_take (σ : Mem) : Option (Int32 × Mem) := fX3_take_e σ
theorem kX3_take (l : Launch) (σ : Mem) : KI l yX3_take wsX3_take rmX3_take (fun ad => [.ref (ad 35)]) σ (fX3_take σ) := fun r hr => kt_of (by decide +kernel) rfl (fun _ => Nat.le_of_ble_eq_true rfl) (fun C X hne hq => tX3_take_e X hq σ hr)
/-! ### X3_byHand -/
abbrev rmX3_byHand : Room := { frames := 0, cells := 0, slots := 0, locals := 8 }
theorem infX3_byHand_X3 : ∀ w ∈ u_ws RX3 TX3 21, w ∈ wsX3_byHand := by decide +kernel
def fX3_byHand_35 (r5 : Int32 → Int32 → Int32 → Int32 → Mem → Option (Int32 × Mem)) (v1 : Int32) (v2 : Int32) (v4 : Int32) (s0 : Int32) (s2 : Int32) (σ : Mem) : Option (Int32 × Mem) :=
  grd (inb s0 25) (ltI (s2 + (rI σ 42 (ix s0))) fun x1 =>
  r5 v1 v2 x1 (v4 + 1) σ)
set_option maxHeartbeats 4000000 in
set_option maxRecDepth 100000 in
theorem tX3_byHand_35 {C : Ctx} (X : CX C cX3_byHand 5 RX3 wsX3_byHand rmX3_byHand (some .int)) {r : Int32 × Mem} (hq : QI C r) (r5 : Int32 → Int32 → Int32 → Int32 → Mem → Option (Int32 × Mem)) (ih5 : ∀ (v1 : Int32) (v2 : Int32) (v3 : Int32) (v4 : Int32) (σ : Mem), r5 v1 v2 v3 v4 σ = some r → G C 5 0 0 5 [(0, .ref (adr C 35)), (1, .int v1), (2, .int v2), (3, .int v3), (4, .int v4)] [] σ) (v1 : Int32) (v2 : Int32) (v4 : Int32) (s0 : Int32) (s2 : Int32) (σ : Mem) (hf : fX3_byHand_35 r5 v1 v2 v4 s0 s2 σ = some r) : G C 5 0 0 35 [(0, .ref (adr C 35)), (1, .int v1), (2, .int v2), (4, .int v4)] [.int s0, .ref (adr C 42), .int s2] σ := by
  unfold fX3_byHand_35 at hf
  refine g_iald (q := 42) (n := 25) X rfl rfl dX3_byHand_35 hf (fun hf => ?_)
  refine g_iadd X dX3_byHand_36 ?_
  refine s_istore_n (M := fun x1 => [(3, .int x1), (0, .ref (adr C 35)), (1, .int v1), (2, .int v2), (4, .int v4)]) X dX3_byHand_37 rfl (by decide) (fun _ => rfl) hf (fun x1 hf => ?_)
  refine g_iinc (v := (v4 + 1)) (L' := [(4, .int (v4 + 1)), (3, .int x1), (0, .ref (adr C 35)), (1, .int v1), (2, .int v2)]) X dX3_byHand_38 4 rfl rfl (by decide) rfl ?_
  refine g_goto (tgt := 5) X dX3_byHand_41 (by decide) ?_
  refine g_sub [2, 3, 4, 1, 0] (L' := [(0, .ref (adr C 35)), (1, .int v1), (2, .int v2), (3, .int x1), (4, .int (v4 + 1))]) rfl ?_
  exact ih5 v1 v2 x1 (v4 + 1) σ hf
def fX3_byHand_5b (r5 : Int32 → Int32 → Int32 → Int32 → Mem → Option (Int32 × Mem)) (v1 : Int32) (v2 : Int32) (v3 : Int32) (v4 : Int32) (σ : Mem) : Option (Int32 × Mem) :=
  if (5 : Int32) ≤ v4 then (some (v3, σ))
  else (if v1 = 0 then (fX3_byHand_35 r5 v1 v2 v4 (((5 : Int32) * v2) + v4) v3 σ)
  else (fX3_byHand_35 r5 v1 v2 v4 (((5 : Int32) * v4) + v2) v3 σ))
def fX3_byHand_5 : Nat → Int32 → Int32 → Int32 → Int32 → Mem → Option (Int32 × Mem)
  | 0 => fun _ _ _ _ _ => none
  | n + 1 => fX3_byHand_5b (fX3_byHand_5 n)
set_option maxHeartbeats 4000000 in
set_option maxRecDepth 100000 in
theorem tX3_byHand_5b {C : Ctx} (X : CX C cX3_byHand 5 RX3 wsX3_byHand rmX3_byHand (some .int)) {r : Int32 × Mem} (hq : QI C r) (r5 : Int32 → Int32 → Int32 → Int32 → Mem → Option (Int32 × Mem)) (ih5 : ∀ (v1 : Int32) (v2 : Int32) (v3 : Int32) (v4 : Int32) (σ : Mem), r5 v1 v2 v3 v4 σ = some r → G C 5 0 0 5 [(0, .ref (adr C 35)), (1, .int v1), (2, .int v2), (3, .int v3), (4, .int v4)] [] σ) (v1 : Int32) (v2 : Int32) (v3 : Int32) (v4 : Int32) (σ : Mem) (hf : fX3_byHand_5b r5 v1 v2 v3 v4 σ = some r) : G C 5 0 0 5 [(0, .ref (adr C 35)), (1, .int v1), (2, .int v2), (3, .int v3), (4, .int v4)] [] σ := by
  unfold fX3_byHand_5b at hf
  refine g_iload X dX3_byHand_5 4 rfl ?_
  refine g_iconst (v := (5 : Int32)) X dX3_byHand_7 (by decide) ?_
  refine g_icmp_ge (tgt := 44) X dX3_byHand_8 (by decide) hf (fun hf => ?_) (fun hf => ?_)
  · refine g_iload_n X dX3_byHand_44 3 rfl rfl ?_
    exact r_iret X hq dX3_byHand_45 hf
  · refine g_iload_n X dX3_byHand_11 3 rfl rfl ?_
    refine g_aload_n X dX3_byHand_12 0 rfl rfl ?_
    refine g_get (q := 35) (kf := 11) (v := .ref (adr C 42)) X obj_m rfl infX3_byHand_X3 (by decide) (by decide +kernel) rfl dX3_byHand_13 ?_
    refine g_iload_n X dX3_byHand_16 1 rfl rfl ?_
    refine g_if_eq (tgt := 29) X dX3_byHand_17 (by decide) hf (fun hf => ?_) (fun hf => ?_)
    · refine g_iconst (v := (5 : Int32)) X dX3_byHand_29 (by decide) ?_
      refine g_iload_n X dX3_byHand_30 2 rfl rfl ?_
      refine g_imul X dX3_byHand_31 ?_
      refine g_iload X dX3_byHand_32 4 rfl ?_
      refine g_iadd X dX3_byHand_34 ?_
      refine g_sub [0, 1, 2, 4] (L' := [(0, .ref (adr C 35)), (1, .int v1), (2, .int v2), (4, .int v4)]) rfl ?_
      exact tX3_byHand_35 X hq r5 ih5 v1 v2 v4 (((5 : Int32) * v2) + v4) v3 σ hf
    · refine g_iconst (v := (5 : Int32)) X dX3_byHand_20 (by decide) ?_
      refine g_iload X dX3_byHand_21 4 rfl ?_
      refine g_imul X dX3_byHand_23 ?_
      refine g_iload_n X dX3_byHand_24 2 rfl rfl ?_
      refine g_iadd X dX3_byHand_25 ?_
      refine g_goto (tgt := 35) X dX3_byHand_26 (by decide) ?_
      refine g_sub [0, 1, 2, 4] (L' := [(0, .ref (adr C 35)), (1, .int v1), (2, .int v2), (4, .int v4)]) rfl ?_
      exact tX3_byHand_35 X hq r5 ih5 v1 v2 v4 (((5 : Int32) * v4) + v2) v3 σ hf
set_option maxHeartbeats 4000000 in
set_option maxRecDepth 100000 in
theorem tX3_byHand_5 {C : Ctx} (X : CX C cX3_byHand 5 RX3 wsX3_byHand rmX3_byHand (some .int)) {r : Int32 × Mem} (hq : QI C r) : ∀ (n : Nat) (v1 : Int32) (v2 : Int32) (v3 : Int32) (v4 : Int32) (σ : Mem) (hf : fX3_byHand_5 n v1 v2 v3 v4 σ = some r), G C 5 0 0 5 [(0, .ref (adr C 35)), (1, .int v1), (2, .int v2), (3, .int v3), (4, .int v4)] [] σ := by
  intro n
  induction n with
  | zero => intros; rename_i hf; exact absurd (show (none : Option (Int32 × Mem)) = some r from hf) (by simp)
  | succ n ih =>
    intro v1 v2 v3 v4 σ hf
    exact tX3_byHand_5b X hq (fX3_byHand_5 n) (fun v1 v2 v3 v4 σ hf => ih v1 v2 v3 v4 σ hf) v1 v2 v3 v4 σ hf
def fX3_byHand_e (v1 : Int32) (v2 : Int32) (σ : Mem) : Option (Int32 × Mem) :=
  fX3_byHand_5 FU v1 v2 (0 : Int32) (0 : Int32) σ
set_option maxHeartbeats 4000000 in
set_option maxRecDepth 100000 in
theorem tX3_byHand_e {C : Ctx} (X : CX C cX3_byHand 5 RX3 wsX3_byHand rmX3_byHand (some .int)) {r : Int32 × Mem} (hq : QI C r) (v1 : Int32) (v2 : Int32) (σ : Mem) (hf : fX3_byHand_e v1 v2 σ = some r) : G C 5 0 0 0 [(0, .ref (adr C 35)), (1, .int v1), (2, .int v2)] [] σ := by
  unfold fX3_byHand_e at hf
  refine g_iconst (v := (0 : Int32)) X dX3_byHand_0 (by decide) ?_
  refine g_istore_n (L' := [(3, .int (0 : Int32)), (0, .ref (adr C 35)), (1, .int v1), (2, .int v2)]) X dX3_byHand_1 rfl (by decide) rfl ?_
  refine g_iconst (v := (0 : Int32)) X dX3_byHand_2 (by decide) ?_
  refine g_istore (L' := [(4, .int (0 : Int32)), (3, .int (0 : Int32)), (0, .ref (adr C 35)), (1, .int v1), (2, .int v2)]) X dX3_byHand_3 (by decide) rfl ?_
  refine g_sub [2, 3, 4, 1, 0] (L' := [(0, .ref (adr C 35)), (1, .int v1), (2, .int v2), (3, .int (0 : Int32)), (4, .int (0 : Int32))]) rfl ?_
  exact tX3_byHand_5 X hq FU v1 v2 (0 : Int32) (0 : Int32) σ hf
def fX3_byHand (v1 : Int32) (v2 : Int32) (σ : Mem) : Option (Int32 × Mem) := fX3_byHand_e v1 v2 σ
theorem kX3_byHand (l : Launch) (v1 : Int32) (v2 : Int32) (σ : Mem) : KI l yX3_byHand wsX3_byHand rmX3_byHand (fun ad => [.ref (ad 35), .int v1, .int v2]) σ (fX3_byHand v1 v2 σ) := fun r hr => kt_of (by decide +kernel) rfl (fun _ => Nat.le_of_ble_eq_true rfl) (fun C X hne hq => tX3_byHand_e X hq v1 v2 σ hr)
/-! ### X3_wrong -/
abbrev rmX3_wrong : Room := { frames := 1, cells := 0, slots := 0, locals := 32 }
theorem infX3_wrong_X3 : ∀ w ∈ u_ws RX3 TX3 21, w ∈ wsX3_wrong := by decide +kernel
def fX3_wrong_172 (s0 : Int32) (σ : Mem) : Option (Int32 × Mem) :=
  some (s0, σ)
set_option maxHeartbeats 4000000 in
set_option maxRecDepth 100000 in
theorem tX3_wrong_172 {C : Ctx} (X : CX C cX3_wrong 5 RX3 wsX3_wrong rmX3_wrong (some .int)) {r : Int32 × Mem} (hq : QI C r) (s0 : Int32) (σ : Mem) (hf : fX3_wrong_172 s0 σ = some r) : G C 5 0 0 172 [] [.int s0] σ := by
  unfold fX3_wrong_172 at hf
  exact r_iret X hq dX3_wrong_172 hf
def fX3_wrong_140 (r96 : Int32 → Int32 → Int32 → Int32 → Mem → Option (Int32 × Mem)) (v1 : Int32) (v2 : Int32) (v4 : Int32) (s0 : Int32) (σ : Mem) : Option (Int32 × Mem) :=
  r96 v1 v2 s0 (v4 + 1) σ
set_option maxHeartbeats 4000000 in
set_option maxRecDepth 100000 in
theorem tX3_wrong_140 {C : Ctx} (X : CX C cX3_wrong 5 RX3 wsX3_wrong rmX3_wrong (some .int)) {r : Int32 × Mem} (hq : QI C r) (r96 : Int32 → Int32 → Int32 → Int32 → Mem → Option (Int32 × Mem)) (ih96 : ∀ (v1 : Int32) (v2 : Int32) (v3 : Int32) (v4 : Int32) (σ : Mem), r96 v1 v2 v3 v4 σ = some r → G C 5 0 0 96 [(0, .ref (adr C 35)), (1, .int v1), (2, .int v2), (3, .int v3), (4, .int v4)] [] σ) (v1 : Int32) (v2 : Int32) (v4 : Int32) (s0 : Int32) (σ : Mem) (hf : fX3_wrong_140 r96 v1 v2 v4 s0 σ = some r) : G C 5 0 0 140 [(0, .ref (adr C 35)), (1, .int v1), (2, .int v2), (4, .int v4)] [.int s0] σ := by
  unfold fX3_wrong_140 at hf
  refine g_istore_n (L' := [(3, .int s0), (0, .ref (adr C 35)), (1, .int v1), (2, .int v2), (4, .int v4)]) X dX3_wrong_140 rfl (by decide) rfl ?_
  refine g_iinc (v := (v4 + 1)) (L' := [(4, .int (v4 + 1)), (3, .int s0), (0, .ref (adr C 35)), (1, .int v1), (2, .int v2)]) X dX3_wrong_141 4 rfl rfl (by decide) rfl ?_
  refine g_goto (tgt := 96) X dX3_wrong_144 (by decide) ?_
  refine g_sub [2, 3, 4, 1, 0] (L' := [(0, .ref (adr C 35)), (1, .int v1), (2, .int v2), (3, .int s0), (4, .int (v4 + 1))]) rfl ?_
  exact ih96 v1 v2 s0 (v4 + 1) σ hf
def fX3_wrong_139 (r96 : Int32 → Int32 → Int32 → Int32 → Mem → Option (Int32 × Mem)) (v1 : Int32) (v2 : Int32) (v4 : Int32) (σ : Mem) : Option (Int32 × Mem) :=
  fX3_wrong_140 r96 v1 v2 v4 (0 : Int32) σ
set_option maxHeartbeats 4000000 in
set_option maxRecDepth 100000 in
theorem tX3_wrong_139 {C : Ctx} (X : CX C cX3_wrong 5 RX3 wsX3_wrong rmX3_wrong (some .int)) {r : Int32 × Mem} (hq : QI C r) (r96 : Int32 → Int32 → Int32 → Int32 → Mem → Option (Int32 × Mem)) (ih96 : ∀ (v1 : Int32) (v2 : Int32) (v3 : Int32) (v4 : Int32) (σ : Mem), r96 v1 v2 v3 v4 σ = some r → G C 5 0 0 96 [(0, .ref (adr C 35)), (1, .int v1), (2, .int v2), (3, .int v3), (4, .int v4)] [] σ) (v1 : Int32) (v2 : Int32) (v4 : Int32) (σ : Mem) (hf : fX3_wrong_139 r96 v1 v2 v4 σ = some r) : G C 5 0 0 139 [(0, .ref (adr C 35)), (1, .int v1), (2, .int v2), (4, .int v4)] [] σ := by
  unfold fX3_wrong_139 at hf
  refine g_iconst (v := (0 : Int32)) X dX3_wrong_139 (by decide) ?_
  exact tX3_wrong_140 X hq r96 ih96 v1 v2 v4 (0 : Int32) σ hf
def fX3_wrong_135 (r96 : Int32 → Int32 → Int32 → Int32 → Mem → Option (Int32 × Mem)) (v1 : Int32) (v2 : Int32) (v4 : Int32) (σ : Mem) : Option (Int32 × Mem) :=
  fX3_wrong_140 r96 v1 v2 v4 (1 : Int32) σ
set_option maxHeartbeats 4000000 in
set_option maxRecDepth 100000 in
theorem tX3_wrong_135 {C : Ctx} (X : CX C cX3_wrong 5 RX3 wsX3_wrong rmX3_wrong (some .int)) {r : Int32 × Mem} (hq : QI C r) (r96 : Int32 → Int32 → Int32 → Int32 → Mem → Option (Int32 × Mem)) (ih96 : ∀ (v1 : Int32) (v2 : Int32) (v3 : Int32) (v4 : Int32) (σ : Mem), r96 v1 v2 v3 v4 σ = some r → G C 5 0 0 96 [(0, .ref (adr C 35)), (1, .int v1), (2, .int v2), (3, .int v3), (4, .int v4)] [] σ) (v1 : Int32) (v2 : Int32) (v4 : Int32) (σ : Mem) (hf : fX3_wrong_135 r96 v1 v2 v4 σ = some r) : G C 5 0 0 135 [(0, .ref (adr C 35)), (1, .int v1), (2, .int v2), (4, .int v4)] [] σ := by
  unfold fX3_wrong_135 at hf
  refine g_iconst (v := (1 : Int32)) X dX3_wrong_135 (by decide) ?_
  refine g_goto (tgt := 140) X dX3_wrong_136 (by decide) ?_
  exact tX3_wrong_140 X hq r96 ih96 v1 v2 v4 (1 : Int32) σ hf
def fX3_wrong_96b (r96 : Int32 → Int32 → Int32 → Int32 → Mem → Option (Int32 × Mem)) (v1 : Int32) (v2 : Int32) (v3 : Int32) (v4 : Int32) (σ : Mem) : Option (Int32 × Mem) :=
  if (25 : Int32) ≤ v4 then (if v1 = 0 then (if v2 = 0 then (if v3 = 0 then (fX3_wrong_172 (0 : Int32) σ)
  else (fX3_wrong_172 (3 : Int32) σ))
  else (fX3_wrong_172 (2 : Int32) σ))
  else (fX3_wrong_172 (1 : Int32) σ))
  else (if v3 = 0 then (grd (inb v4 25) (if (rI σ 41 (ix v4)) = (-1 : Int32) then (fX3_wrong_139 r96 v1 v2 v4 σ)
  else (grd (inb v4 25) (grd (inb v4 25) (if (rI σ 42 (ix v4)) ≤ (rI σ 41 (ix v4)) then (fX3_wrong_139 r96 v1 v2 v4 σ)
  else (fX3_wrong_135 r96 v1 v2 v4 σ))))))
  else (fX3_wrong_135 r96 v1 v2 v4 σ))
def fX3_wrong_96 : Nat → Int32 → Int32 → Int32 → Int32 → Mem → Option (Int32 × Mem)
  | 0 => fun _ _ _ _ _ => none
  | n + 1 => fX3_wrong_96b (fX3_wrong_96 n)
set_option maxHeartbeats 4000000 in
set_option maxRecDepth 100000 in
theorem tX3_wrong_96b {C : Ctx} (X : CX C cX3_wrong 5 RX3 wsX3_wrong rmX3_wrong (some .int)) {r : Int32 × Mem} (hq : QI C r) (r96 : Int32 → Int32 → Int32 → Int32 → Mem → Option (Int32 × Mem)) (ih96 : ∀ (v1 : Int32) (v2 : Int32) (v3 : Int32) (v4 : Int32) (σ : Mem), r96 v1 v2 v3 v4 σ = some r → G C 5 0 0 96 [(0, .ref (adr C 35)), (1, .int v1), (2, .int v2), (3, .int v3), (4, .int v4)] [] σ) (v1 : Int32) (v2 : Int32) (v3 : Int32) (v4 : Int32) (σ : Mem) (hf : fX3_wrong_96b r96 v1 v2 v3 v4 σ = some r) : G C 5 0 0 96 [(0, .ref (adr C 35)), (1, .int v1), (2, .int v2), (3, .int v3), (4, .int v4)] [] σ := by
  unfold fX3_wrong_96b at hf
  refine g_iload X dX3_wrong_96 4 rfl ?_
  refine g_bipush (v := (25 : Int32)) X dX3_wrong_98 (by decide) ?_
  refine g_icmp_ge (tgt := 147) X dX3_wrong_100 (by decide) hf (fun hf => ?_) (fun hf => ?_)
  · refine g_iload_n X dX3_wrong_147 1 rfl rfl ?_
    refine g_if_eq (tgt := 155) X dX3_wrong_148 (by decide) hf (fun hf => ?_) (fun hf => ?_)
    · refine g_iload_n X dX3_wrong_155 2 rfl rfl ?_
      refine g_if_eq (tgt := 163) X dX3_wrong_156 (by decide) hf (fun hf => ?_) (fun hf => ?_)
      · refine g_iload_n X dX3_wrong_163 3 rfl rfl ?_
        refine g_if_eq (tgt := 171) X dX3_wrong_164 (by decide) hf (fun hf => ?_) (fun hf => ?_)
        · refine g_iconst (v := (0 : Int32)) X dX3_wrong_171 (by decide) ?_
          refine g_sub [] (L' := []) rfl ?_
          exact tX3_wrong_172 X hq (0 : Int32) σ hf
        · refine g_iconst (v := (3 : Int32)) X dX3_wrong_167 (by decide) ?_
          refine g_goto (tgt := 172) X dX3_wrong_168 (by decide) ?_
          refine g_sub [] (L' := []) rfl ?_
          exact tX3_wrong_172 X hq (3 : Int32) σ hf
      · refine g_iconst (v := (2 : Int32)) X dX3_wrong_159 (by decide) ?_
        refine g_goto (tgt := 172) X dX3_wrong_160 (by decide) ?_
        refine g_sub [] (L' := []) rfl ?_
        exact tX3_wrong_172 X hq (2 : Int32) σ hf
    · refine g_iconst (v := (1 : Int32)) X dX3_wrong_151 (by decide) ?_
      refine g_goto (tgt := 172) X dX3_wrong_152 (by decide) ?_
      refine g_sub [] (L' := []) rfl ?_
      exact tX3_wrong_172 X hq (1 : Int32) σ hf
  · refine g_iload_n X dX3_wrong_103 3 rfl rfl ?_
    refine g_if_ne (tgt := 135) X dX3_wrong_104 (by decide) hf (fun hf => ?_) (fun hf => ?_)
    · refine g_sub [0, 1, 2, 4] (L' := [(0, .ref (adr C 35)), (1, .int v1), (2, .int v2), (4, .int v4)]) rfl ?_
      exact tX3_wrong_135 X hq r96 ih96 v1 v2 v4 σ hf
    · refine g_aload_n X dX3_wrong_107 0 rfl rfl ?_
      refine g_get (q := 35) (kf := 10) (v := .ref (adr C 41)) X obj_m rfl infX3_wrong_X3 (by decide) (by decide +kernel) rfl dX3_wrong_108 ?_
      refine g_iload X dX3_wrong_111 4 rfl ?_
      refine g_iald (q := 41) (n := 25) X rfl rfl dX3_wrong_113 hf (fun hf => ?_)
      refine g_iconst (v := (-1 : Int32)) X dX3_wrong_114 (by decide) ?_
      refine g_icmp_eq (tgt := 139) X dX3_wrong_115 (by decide) hf (fun hf => ?_) (fun hf => ?_)
      · refine g_sub [0, 1, 2, 4] (L' := [(0, .ref (adr C 35)), (1, .int v1), (2, .int v2), (4, .int v4)]) rfl ?_
        exact tX3_wrong_139 X hq r96 ih96 v1 v2 v4 σ hf
      · refine g_aload_n X dX3_wrong_118 0 rfl rfl ?_
        refine g_get (q := 35) (kf := 11) (v := .ref (adr C 42)) X obj_m rfl infX3_wrong_X3 (by decide) (by decide +kernel) rfl dX3_wrong_119 ?_
        refine g_iload X dX3_wrong_122 4 rfl ?_
        refine g_iald (q := 42) (n := 25) X rfl rfl dX3_wrong_124 hf (fun hf => ?_)
        refine g_aload_n X dX3_wrong_125 0 rfl rfl ?_
        refine g_get (q := 35) (kf := 10) (v := .ref (adr C 41)) X obj_m rfl infX3_wrong_X3 (by decide) (by decide +kernel) rfl dX3_wrong_126 ?_
        refine g_iload X dX3_wrong_129 4 rfl ?_
        refine g_iald (q := 41) (n := 25) X rfl rfl dX3_wrong_131 hf (fun hf => ?_)
        refine g_icmp_le (tgt := 139) X dX3_wrong_132 (by decide) hf (fun hf => ?_) (fun hf => ?_)
        · refine g_sub [0, 1, 2, 4] (L' := [(0, .ref (adr C 35)), (1, .int v1), (2, .int v2), (4, .int v4)]) rfl ?_
          exact tX3_wrong_139 X hq r96 ih96 v1 v2 v4 σ hf
        · refine g_sub [0, 1, 2, 4] (L' := [(0, .ref (adr C 35)), (1, .int v1), (2, .int v2), (4, .int v4)]) rfl ?_
          exact tX3_wrong_135 X hq r96 ih96 v1 v2 v4 σ hf
set_option maxHeartbeats 4000000 in
set_option maxRecDepth 100000 in
theorem tX3_wrong_96 {C : Ctx} (X : CX C cX3_wrong 5 RX3 wsX3_wrong rmX3_wrong (some .int)) {r : Int32 × Mem} (hq : QI C r) : ∀ (n : Nat) (v1 : Int32) (v2 : Int32) (v3 : Int32) (v4 : Int32) (σ : Mem) (hf : fX3_wrong_96 n v1 v2 v3 v4 σ = some r), G C 5 0 0 96 [(0, .ref (adr C 35)), (1, .int v1), (2, .int v2), (3, .int v3), (4, .int v4)] [] σ := by
  intro n
  induction n with
  | zero => intros; rename_i hf; exact absurd (show (none : Option (Int32 × Mem)) = some r from hf) (by simp)
  | succ n ih =>
    intro v1 v2 v3 v4 σ hf
    exact tX3_wrong_96b X hq (fX3_wrong_96 n) (fun v1 v2 v3 v4 σ hf => ih v1 v2 v3 v4 σ hf) v1 v2 v3 v4 σ hf
def fX3_wrong_86 (r9 : Int32 → Int32 → Int32 → Int32 → Mem → Option (Int32 × Mem)) (v1 : Int32) (v3 : Int32) (v4 : Int32) (s0 : Int32) (σ : Mem) : Option (Int32 × Mem) :=
  r9 v1 s0 v3 (v4 + 1) σ
set_option maxHeartbeats 4000000 in
set_option maxRecDepth 100000 in
theorem tX3_wrong_86 {C : Ctx} (X : CX C cX3_wrong 5 RX3 wsX3_wrong rmX3_wrong (some .int)) {r : Int32 × Mem} (hq : QI C r) (r9 : Int32 → Int32 → Int32 → Int32 → Mem → Option (Int32 × Mem)) (ih9 : ∀ (v1 : Int32) (v2 : Int32) (v3 : Int32) (v4 : Int32) (σ : Mem), r9 v1 v2 v3 v4 σ = some r → G C 5 0 0 9 [(0, .ref (adr C 35)), (1, .int v1), (2, .int v2), (3, .int v3), (4, .int v4)] [] σ) (v1 : Int32) (v3 : Int32) (v4 : Int32) (s0 : Int32) (σ : Mem) (hf : fX3_wrong_86 r9 v1 v3 v4 s0 σ = some r) : G C 5 0 0 86 [(0, .ref (adr C 35)), (1, .int v1), (3, .int v3), (4, .int v4)] [.int s0] σ := by
  unfold fX3_wrong_86 at hf
  refine g_istore_n (L' := [(2, .int s0), (0, .ref (adr C 35)), (1, .int v1), (3, .int v3), (4, .int v4)]) X dX3_wrong_86 rfl (by decide) rfl ?_
  refine g_iinc (v := (v4 + 1)) (L' := [(4, .int (v4 + 1)), (2, .int s0), (0, .ref (adr C 35)), (1, .int v1), (3, .int v3)]) X dX3_wrong_87 4 rfl rfl (by decide) rfl ?_
  refine g_goto (tgt := 9) X dX3_wrong_90 (by decide) ?_
  refine g_sub [2, 3, 1, 4, 0] (L' := [(0, .ref (adr C 35)), (1, .int v1), (2, .int s0), (3, .int v3), (4, .int (v4 + 1))]) rfl ?_
  exact ih9 v1 s0 v3 (v4 + 1) σ hf
def fX3_wrong_85 (r9 : Int32 → Int32 → Int32 → Int32 → Mem → Option (Int32 × Mem)) (v1 : Int32) (v3 : Int32) (v4 : Int32) (σ : Mem) : Option (Int32 × Mem) :=
  fX3_wrong_86 r9 v1 v3 v4 (0 : Int32) σ
set_option maxHeartbeats 4000000 in
set_option maxRecDepth 100000 in
theorem tX3_wrong_85 {C : Ctx} (X : CX C cX3_wrong 5 RX3 wsX3_wrong rmX3_wrong (some .int)) {r : Int32 × Mem} (hq : QI C r) (r9 : Int32 → Int32 → Int32 → Int32 → Mem → Option (Int32 × Mem)) (ih9 : ∀ (v1 : Int32) (v2 : Int32) (v3 : Int32) (v4 : Int32) (σ : Mem), r9 v1 v2 v3 v4 σ = some r → G C 5 0 0 9 [(0, .ref (adr C 35)), (1, .int v1), (2, .int v2), (3, .int v3), (4, .int v4)] [] σ) (v1 : Int32) (v3 : Int32) (v4 : Int32) (σ : Mem) (hf : fX3_wrong_85 r9 v1 v3 v4 σ = some r) : G C 5 0 0 85 [(0, .ref (adr C 35)), (1, .int v1), (3, .int v3), (4, .int v4)] [] σ := by
  unfold fX3_wrong_85 at hf
  refine g_iconst (v := (0 : Int32)) X dX3_wrong_85 (by decide) ?_
  exact tX3_wrong_86 X hq r9 ih9 v1 v3 v4 (0 : Int32) σ hf
def fX3_wrong_81 (r9 : Int32 → Int32 → Int32 → Int32 → Mem → Option (Int32 × Mem)) (v1 : Int32) (v3 : Int32) (v4 : Int32) (σ : Mem) : Option (Int32 × Mem) :=
  fX3_wrong_86 r9 v1 v3 v4 (1 : Int32) σ
set_option maxHeartbeats 4000000 in
set_option maxRecDepth 100000 in
theorem tX3_wrong_81 {C : Ctx} (X : CX C cX3_wrong 5 RX3 wsX3_wrong rmX3_wrong (some .int)) {r : Int32 × Mem} (hq : QI C r) (r9 : Int32 → Int32 → Int32 → Int32 → Mem → Option (Int32 × Mem)) (ih9 : ∀ (v1 : Int32) (v2 : Int32) (v3 : Int32) (v4 : Int32) (σ : Mem), r9 v1 v2 v3 v4 σ = some r → G C 5 0 0 9 [(0, .ref (adr C 35)), (1, .int v1), (2, .int v2), (3, .int v3), (4, .int v4)] [] σ) (v1 : Int32) (v3 : Int32) (v4 : Int32) (σ : Mem) (hf : fX3_wrong_81 r9 v1 v3 v4 σ = some r) : G C 5 0 0 81 [(0, .ref (adr C 35)), (1, .int v1), (3, .int v3), (4, .int v4)] [] σ := by
  unfold fX3_wrong_81 at hf
  refine g_iconst (v := (1 : Int32)) X dX3_wrong_81 (by decide) ?_
  refine g_goto (tgt := 86) X dX3_wrong_82 (by decide) ?_
  exact tX3_wrong_86 X hq r9 ih9 v1 v3 v4 (1 : Int32) σ hf
def fX3_wrong_50 (r9 : Int32 → Int32 → Int32 → Int32 → Mem → Option (Int32 × Mem)) (v2 : Int32) (v3 : Int32) (v4 : Int32) (s0 : Int32) (σ : Mem) : Option (Int32 × Mem) :=
  if v2 = 0 then (if (rI σ 35 2) ≤ v4 then (fX3_wrong_85 r9 s0 v3 v4 σ)
  else (bnd (fX3_byHand (1 : Int32) v4 σ) fun u1 σ2 =>
  grd (inb v4 5) (if u1 ≤ (rI σ2 39 (ix v4)) then (fX3_wrong_85 r9 s0 v3 v4 σ2)
  else (fX3_wrong_81 r9 s0 v3 v4 σ2))))
  else (fX3_wrong_81 r9 s0 v3 v4 σ)
set_option maxHeartbeats 4000000 in
set_option maxRecDepth 100000 in
theorem tX3_wrong_50 {C : Ctx} (X : CX C cX3_wrong 5 RX3 wsX3_wrong rmX3_wrong (some .int)) {r : Int32 × Mem} (hq : QI C r) (r9 : Int32 → Int32 → Int32 → Int32 → Mem → Option (Int32 × Mem)) (ih9 : ∀ (v1 : Int32) (v2 : Int32) (v3 : Int32) (v4 : Int32) (σ : Mem), r9 v1 v2 v3 v4 σ = some r → G C 5 0 0 9 [(0, .ref (adr C 35)), (1, .int v1), (2, .int v2), (3, .int v3), (4, .int v4)] [] σ) (v2 : Int32) (v3 : Int32) (v4 : Int32) (s0 : Int32) (σ : Mem) (hf : fX3_wrong_50 r9 v2 v3 v4 s0 σ = some r) : G C 5 0 0 50 [(0, .ref (adr C 35)), (2, .int v2), (3, .int v3), (4, .int v4)] [.int s0] σ := by
  unfold fX3_wrong_50 at hf
  refine g_istore_n (L' := [(1, .int s0), (0, .ref (adr C 35)), (2, .int v2), (3, .int v3), (4, .int v4)]) X dX3_wrong_50 rfl (by decide) rfl ?_
  refine g_iload_n X dX3_wrong_51 2 rfl rfl ?_
  refine g_if_ne (tgt := 81) X dX3_wrong_52 (by decide) hf (fun hf => ?_) (fun hf => ?_)
  · refine g_sub [1, 0, 3, 4] (L' := [(0, .ref (adr C 35)), (1, .int s0), (3, .int v3), (4, .int v4)]) rfl ?_
    exact tX3_wrong_81 X hq r9 ih9 s0 v3 v4 σ hf
  · refine g_iload X dX3_wrong_55 4 rfl ?_
    refine g_aload_n X dX3_wrong_57 1 rfl rfl ?_
    refine g_get (q := 35) (kf := 2) (v := .int (rI σ 35 2)) X obj_m rfl infX3_wrong_X3 (by decide) (by decide +kernel) rfl dX3_wrong_58 ?_
    refine g_icmp_ge (tgt := 85) X dX3_wrong_61 (by decide) hf (fun hf => ?_) (fun hf => ?_)
    · refine g_sub [1, 0, 3, 4] (L' := [(0, .ref (adr C 35)), (1, .int s0), (3, .int v3), (4, .int v4)]) rfl ?_
      exact tX3_wrong_85 X hq r9 ih9 s0 v3 v4 σ hf
    · refine g_aload_n X dX3_wrong_64 1 rfl rfl ?_
      refine g_iconst (v := (1 : Int32)) X dX3_wrong_65 (by decide) ?_
      refine g_iload X dX3_wrong_66 4 rfl ?_
      refine c_VI (q := 35) (vs := [.int (1 : Int32), .int v4]) (rest := []) X (kX3_byHand (cL C) (1 : Int32) v4 σ) (fun s a hts => cwV 2 hts gX3_wrong_X3_byHand rfl rfl rfl (by decide +kernel) ⟨Nat.le_of_ble_eq_true rfl, Nat.le_of_ble_eq_true rfl⟩) obj_m (rfl : vwCl[3]? = some (RX3, TX3, 21)) rfl rfl rfl rfl (Nat.le_of_ble_eq_true rfl) dX3_wrong_68 ⟨Nat.le_of_ble_eq_true rfl, Nat.le_of_ble_eq_true rfl⟩ hf (fun u1 σ2 hf => ?_)
      refine g_aload_n X dX3_wrong_71 1 rfl rfl ?_
      refine g_get (q := 35) (kf := 6) (v := .ref (adr C 39)) X obj_m rfl infX3_wrong_X3 (by decide) (by decide +kernel) rfl dX3_wrong_72 ?_
      refine g_iload X dX3_wrong_75 4 rfl ?_
      refine g_iald (q := 39) (n := 5) X rfl rfl dX3_wrong_77 hf (fun hf => ?_)
      refine g_icmp_le (tgt := 85) X dX3_wrong_78 (by decide) hf (fun hf => ?_) (fun hf => ?_)
      · refine g_sub [1, 0, 3, 4] (L' := [(0, .ref (adr C 35)), (1, .int s0), (3, .int v3), (4, .int v4)]) rfl ?_
        exact tX3_wrong_85 X hq r9 ih9 s0 v3 v4 σ2 hf
      · refine g_sub [1, 0, 3, 4] (L' := [(0, .ref (adr C 35)), (1, .int s0), (3, .int v3), (4, .int v4)]) rfl ?_
        exact tX3_wrong_81 X hq r9 ih9 s0 v3 v4 σ2 hf
def fX3_wrong_49 (r9 : Int32 → Int32 → Int32 → Int32 → Mem → Option (Int32 × Mem)) (v2 : Int32) (v3 : Int32) (v4 : Int32) (σ : Mem) : Option (Int32 × Mem) :=
  fX3_wrong_50 r9 v2 v3 v4 (0 : Int32) σ
set_option maxHeartbeats 4000000 in
set_option maxRecDepth 100000 in
theorem tX3_wrong_49 {C : Ctx} (X : CX C cX3_wrong 5 RX3 wsX3_wrong rmX3_wrong (some .int)) {r : Int32 × Mem} (hq : QI C r) (r9 : Int32 → Int32 → Int32 → Int32 → Mem → Option (Int32 × Mem)) (ih9 : ∀ (v1 : Int32) (v2 : Int32) (v3 : Int32) (v4 : Int32) (σ : Mem), r9 v1 v2 v3 v4 σ = some r → G C 5 0 0 9 [(0, .ref (adr C 35)), (1, .int v1), (2, .int v2), (3, .int v3), (4, .int v4)] [] σ) (v2 : Int32) (v3 : Int32) (v4 : Int32) (σ : Mem) (hf : fX3_wrong_49 r9 v2 v3 v4 σ = some r) : G C 5 0 0 49 [(0, .ref (adr C 35)), (2, .int v2), (3, .int v3), (4, .int v4)] [] σ := by
  unfold fX3_wrong_49 at hf
  refine g_iconst (v := (0 : Int32)) X dX3_wrong_49 (by decide) ?_
  exact tX3_wrong_50 X hq r9 ih9 v2 v3 v4 (0 : Int32) σ hf
def fX3_wrong_45 (r9 : Int32 → Int32 → Int32 → Int32 → Mem → Option (Int32 × Mem)) (v2 : Int32) (v3 : Int32) (v4 : Int32) (σ : Mem) : Option (Int32 × Mem) :=
  fX3_wrong_50 r9 v2 v3 v4 (1 : Int32) σ
set_option maxHeartbeats 4000000 in
set_option maxRecDepth 100000 in
theorem tX3_wrong_45 {C : Ctx} (X : CX C cX3_wrong 5 RX3 wsX3_wrong rmX3_wrong (some .int)) {r : Int32 × Mem} (hq : QI C r) (r9 : Int32 → Int32 → Int32 → Int32 → Mem → Option (Int32 × Mem)) (ih9 : ∀ (v1 : Int32) (v2 : Int32) (v3 : Int32) (v4 : Int32) (σ : Mem), r9 v1 v2 v3 v4 σ = some r → G C 5 0 0 9 [(0, .ref (adr C 35)), (1, .int v1), (2, .int v2), (3, .int v3), (4, .int v4)] [] σ) (v2 : Int32) (v3 : Int32) (v4 : Int32) (σ : Mem) (hf : fX3_wrong_45 r9 v2 v3 v4 σ = some r) : G C 5 0 0 45 [(0, .ref (adr C 35)), (2, .int v2), (3, .int v3), (4, .int v4)] [] σ := by
  unfold fX3_wrong_45 at hf
  refine g_iconst (v := (1 : Int32)) X dX3_wrong_45 (by decide) ?_
  refine g_goto (tgt := 50) X dX3_wrong_46 (by decide) ?_
  exact tX3_wrong_50 X hq r9 ih9 v2 v3 v4 (1 : Int32) σ hf
def fX3_wrong_9b (r9 : Int32 → Int32 → Int32 → Int32 → Mem → Option (Int32 × Mem)) (v1 : Int32) (v2 : Int32) (v3 : Int32) (v4 : Int32) (σ : Mem) : Option (Int32 × Mem) :=
  if (5 : Int32) ≤ v4 then (fX3_wrong_96 FU v1 v2 v3 (0 : Int32) σ)
  else (if v1 = 0 then (if (rI σ 35 1) ≤ v4 then (fX3_wrong_49 r9 v2 v3 v4 σ)
  else (bnd (fX3_byHand (0 : Int32) v4 σ) fun u1 σ2 =>
  grd (inb v4 5) (if u1 ≤ (rI σ2 37 (ix v4)) then (fX3_wrong_49 r9 v2 v3 v4 σ2)
  else (fX3_wrong_45 r9 v2 v3 v4 σ2))))
  else (fX3_wrong_45 r9 v2 v3 v4 σ))
def fX3_wrong_9 : Nat → Int32 → Int32 → Int32 → Int32 → Mem → Option (Int32 × Mem)
  | 0 => fun _ _ _ _ _ => none
  | n + 1 => fX3_wrong_9b (fX3_wrong_9 n)
set_option maxHeartbeats 4000000 in
set_option maxRecDepth 100000 in
theorem tX3_wrong_9b {C : Ctx} (X : CX C cX3_wrong 5 RX3 wsX3_wrong rmX3_wrong (some .int)) {r : Int32 × Mem} (hq : QI C r) (r9 : Int32 → Int32 → Int32 → Int32 → Mem → Option (Int32 × Mem)) (ih9 : ∀ (v1 : Int32) (v2 : Int32) (v3 : Int32) (v4 : Int32) (σ : Mem), r9 v1 v2 v3 v4 σ = some r → G C 5 0 0 9 [(0, .ref (adr C 35)), (1, .int v1), (2, .int v2), (3, .int v3), (4, .int v4)] [] σ) (v1 : Int32) (v2 : Int32) (v3 : Int32) (v4 : Int32) (σ : Mem) (hf : fX3_wrong_9b r9 v1 v2 v3 v4 σ = some r) : G C 5 0 0 9 [(0, .ref (adr C 35)), (1, .int v1), (2, .int v2), (3, .int v3), (4, .int v4)] [] σ := by
  unfold fX3_wrong_9b at hf
  refine g_iload X dX3_wrong_9 4 rfl ?_
  refine g_iconst (v := (5 : Int32)) X dX3_wrong_11 (by decide) ?_
  refine g_icmp_ge (tgt := 93) X dX3_wrong_12 (by decide) hf (fun hf => ?_) (fun hf => ?_)
  · refine g_iconst (v := (0 : Int32)) X dX3_wrong_93 (by decide) ?_
    refine g_istore (L' := [(4, .int (0 : Int32)), (0, .ref (adr C 35)), (1, .int v1), (2, .int v2), (3, .int v3)]) X dX3_wrong_94 (by decide) rfl ?_
    refine g_sub [1, 2, 3, 4, 0] (L' := [(0, .ref (adr C 35)), (1, .int v1), (2, .int v2), (3, .int v3), (4, .int (0 : Int32))]) rfl ?_
    exact tX3_wrong_96 X hq FU v1 v2 v3 (0 : Int32) σ hf
  · refine g_iload_n X dX3_wrong_15 1 rfl rfl ?_
    refine g_if_ne (tgt := 45) X dX3_wrong_16 (by decide) hf (fun hf => ?_) (fun hf => ?_)
    · refine g_sub [0, 2, 3, 4] (L' := [(0, .ref (adr C 35)), (2, .int v2), (3, .int v3), (4, .int v4)]) rfl ?_
      exact tX3_wrong_45 X hq r9 ih9 v2 v3 v4 σ hf
    · refine g_iload X dX3_wrong_19 4 rfl ?_
      refine g_aload_n X dX3_wrong_21 0 rfl rfl ?_
      refine g_get (q := 35) (kf := 1) (v := .int (rI σ 35 1)) X obj_m rfl infX3_wrong_X3 (by decide) (by decide +kernel) rfl dX3_wrong_22 ?_
      refine g_icmp_ge (tgt := 49) X dX3_wrong_25 (by decide) hf (fun hf => ?_) (fun hf => ?_)
      · refine g_sub [0, 2, 3, 4] (L' := [(0, .ref (adr C 35)), (2, .int v2), (3, .int v3), (4, .int v4)]) rfl ?_
        exact tX3_wrong_49 X hq r9 ih9 v2 v3 v4 σ hf
      · refine g_aload_n X dX3_wrong_28 0 rfl rfl ?_
        refine g_iconst (v := (0 : Int32)) X dX3_wrong_29 (by decide) ?_
        refine g_iload X dX3_wrong_30 4 rfl ?_
        refine c_VI (q := 35) (vs := [.int (0 : Int32), .int v4]) (rest := []) X (kX3_byHand (cL C) (0 : Int32) v4 σ) (fun s a hts => cwV 2 hts gX3_wrong_X3_byHand rfl rfl rfl (by decide +kernel) ⟨Nat.le_of_ble_eq_true rfl, Nat.le_of_ble_eq_true rfl⟩) obj_m (rfl : vwCl[3]? = some (RX3, TX3, 21)) rfl rfl rfl rfl (Nat.le_of_ble_eq_true rfl) dX3_wrong_32 ⟨Nat.le_of_ble_eq_true rfl, Nat.le_of_ble_eq_true rfl⟩ hf (fun u1 σ2 hf => ?_)
        refine g_aload_n X dX3_wrong_35 0 rfl rfl ?_
        refine g_get (q := 35) (kf := 4) (v := .ref (adr C 37)) X obj_m rfl infX3_wrong_X3 (by decide) (by decide +kernel) rfl dX3_wrong_36 ?_
        refine g_iload X dX3_wrong_39 4 rfl ?_
        refine g_iald (q := 37) (n := 5) X rfl rfl dX3_wrong_41 hf (fun hf => ?_)
        refine g_icmp_le (tgt := 49) X dX3_wrong_42 (by decide) hf (fun hf => ?_) (fun hf => ?_)
        · refine g_sub [0, 2, 3, 4] (L' := [(0, .ref (adr C 35)), (2, .int v2), (3, .int v3), (4, .int v4)]) rfl ?_
          exact tX3_wrong_49 X hq r9 ih9 v2 v3 v4 σ2 hf
        · refine g_sub [0, 2, 3, 4] (L' := [(0, .ref (adr C 35)), (2, .int v2), (3, .int v3), (4, .int v4)]) rfl ?_
          exact tX3_wrong_45 X hq r9 ih9 v2 v3 v4 σ2 hf
set_option maxHeartbeats 4000000 in
set_option maxRecDepth 100000 in
theorem tX3_wrong_9 {C : Ctx} (X : CX C cX3_wrong 5 RX3 wsX3_wrong rmX3_wrong (some .int)) {r : Int32 × Mem} (hq : QI C r) : ∀ (n : Nat) (v1 : Int32) (v2 : Int32) (v3 : Int32) (v4 : Int32) (σ : Mem) (hf : fX3_wrong_9 n v1 v2 v3 v4 σ = some r), G C 5 0 0 9 [(0, .ref (adr C 35)), (1, .int v1), (2, .int v2), (3, .int v3), (4, .int v4)] [] σ := by
  intro n
  induction n with
  | zero => intros; rename_i hf; exact absurd (show (none : Option (Int32 × Mem)) = some r from hf) (by simp)
  | succ n ih =>
    intro v1 v2 v3 v4 σ hf
    exact tX3_wrong_9b X hq (fX3_wrong_9 n) (fun v1 v2 v3 v4 σ hf => ih v1 v2 v3 v4 σ hf) v1 v2 v3 v4 σ hf
def fX3_wrong_e (σ : Mem) : Option (Int32 × Mem) :=
  fX3_wrong_9 FU (0 : Int32) (0 : Int32) (0 : Int32) (0 : Int32) σ
set_option maxHeartbeats 4000000 in
set_option maxRecDepth 100000 in
theorem tX3_wrong_e {C : Ctx} (X : CX C cX3_wrong 5 RX3 wsX3_wrong rmX3_wrong (some .int)) {r : Int32 × Mem} (hq : QI C r) (σ : Mem) (hf : fX3_wrong_e σ = some r) : G C 5 0 0 0 [(0, .ref (adr C 35))] [] σ := by
  unfold fX3_wrong_e at hf
  refine g_iconst (v := (0 : Int32)) X dX3_wrong_0 (by decide) ?_
  refine g_istore_n (L' := [(1, .int (0 : Int32)), (0, .ref (adr C 35))]) X dX3_wrong_1 rfl (by decide) rfl ?_
  refine g_iconst (v := (0 : Int32)) X dX3_wrong_2 (by decide) ?_
  refine g_istore_n (L' := [(2, .int (0 : Int32)), (1, .int (0 : Int32)), (0, .ref (adr C 35))]) X dX3_wrong_3 rfl (by decide) rfl ?_
  refine g_iconst (v := (0 : Int32)) X dX3_wrong_4 (by decide) ?_
  refine g_istore_n (L' := [(3, .int (0 : Int32)), (2, .int (0 : Int32)), (1, .int (0 : Int32)), (0, .ref (adr C 35))]) X dX3_wrong_5 rfl (by decide) rfl ?_
  refine g_iconst (v := (0 : Int32)) X dX3_wrong_6 (by decide) ?_
  refine g_istore (L' := [(4, .int (0 : Int32)), (3, .int (0 : Int32)), (2, .int (0 : Int32)), (1, .int (0 : Int32)), (0, .ref (adr C 35))]) X dX3_wrong_7 (by decide) rfl ?_
  refine g_sub [4, 3, 2, 1, 0] (L' := [(0, .ref (adr C 35)), (1, .int (0 : Int32)), (2, .int (0 : Int32)), (3, .int (0 : Int32)), (4, .int (0 : Int32))]) rfl ?_
  exact tX3_wrong_9 X hq FU (0 : Int32) (0 : Int32) (0 : Int32) (0 : Int32) σ hf
def fX3_wrong (σ : Mem) : Option (Int32 × Mem) := fX3_wrong_e σ
theorem kX3_wrong (l : Launch) (σ : Mem) : KI l yX3_wrong wsX3_wrong rmX3_wrong (fun ad => [.ref (ad 35)]) σ (fX3_wrong σ) := fun r hr => kt_of (by decide +kernel) rfl (fun _ => Nat.le_of_ble_eq_true rfl) (fun C X hne hq => tX3_wrong_e X hq σ hr)
/-! ### X3_whyNot -/
abbrev rmX3_whyNot : Room := { frames := 8, cells := 0, slots := 0, locals := 186 }
theorem infX3_whyNot_X3 : ∀ w ∈ u_ws RX3 TX3 21, w ∈ wsX3_whyNot := by decide +kernel
def fX3_whyNot_38 (s0 : Int32) (σ : Mem) : Option (Int32 × Mem) :=
  some (s0, σ)
set_option maxHeartbeats 4000000 in
set_option maxRecDepth 100000 in
theorem tX3_whyNot_38 {C : Ctx} (X : CX C cX3_whyNot 2 RX3 wsX3_whyNot rmX3_whyNot (some .int)) {r : Int32 × Mem} (hq : QI C r) (s0 : Int32) (σ : Mem) (hf : fX3_whyNot_38 s0 σ = some r) : G C 2 0 0 38 [] [.int s0] σ := by
  unfold fX3_whyNot_38 at hf
  exact r_iret X hq dX3_whyNot_38 hf
def fX3_whyNot_e (σ : Mem) : Option (Int32 × Mem) :=
  ltM (wI σ 35 0 (0 : Int32)) fun σ1 =>
  bnd (fX3_wrong σ1) fun u2 σ3 =>
  if u2 ≤ 0 then (bnd (fX3_costOf 42 σ3) fun u4 σ5 =>
  bnd (fX3_leastOf σ5) fun u6 σ7 =>
  if u4 ≤ u6 then (fX3_whyNot_38 (0 : Int32) σ7)
  else (fX3_whyNot_38 (4 : Int32) σ7))
  else (fX3_whyNot_38 u2 σ3)
set_option maxHeartbeats 4000000 in
set_option maxRecDepth 100000 in
theorem tX3_whyNot_e {C : Ctx} (X : CX C cX3_whyNot 2 RX3 wsX3_whyNot rmX3_whyNot (some .int)) {r : Int32 × Mem} (hq : QI C r) (σ : Mem) (hf : fX3_whyNot_e σ = some r) : G C 2 0 0 0 [(0, .ref (adr C 35))] [] σ := by
  unfold fX3_whyNot_e at hf
  refine g_aload_n X dX3_whyNot_0 0 rfl rfl ?_
  refine g_iconst (v := (0 : Int32)) X dX3_whyNot_1 (by decide) ?_
  refine s_put (q := 35) (kf := 0) X obj_m rfl infX3_whyNot_X3 tyX3_ok nmX3 (by decide) (by decide +kernel) rfl rfl rfl rfl (fun _ _ => rfl) (fun _ _ => Nat.le_of_ble_eq_true rfl) dX3_whyNot_2 hf (fun σ1 hf => ?_)
  refine g_aload_n X dX3_whyNot_5 0 rfl rfl ?_
  refine c_VI (q := 35) (vs := []) (rest := []) X (kX3_wrong (cL C) σ1) (fun s a hts => cwV 0 hts gX3_whyNot_X3_wrong rfl rfl rfl (by decide +kernel) ⟨Nat.le_of_ble_eq_true rfl, Nat.le_of_ble_eq_true rfl⟩) obj_m (rfl : vwCl[3]? = some (RX3, TX3, 21)) rfl rfl rfl rfl (Nat.le_of_ble_eq_true rfl) dX3_whyNot_6 ⟨Nat.le_of_ble_eq_true rfl, Nat.le_of_ble_eq_true rfl⟩ hf (fun u2 σ3 hf => ?_)
  refine g_istore_n (L' := [(1, .int u2), (0, .ref (adr C 35))]) X dX3_whyNot_9 rfl (by decide) rfl ?_
  refine g_iload_n X dX3_whyNot_10 0 rfl rfl ?_
  refine g_if_le (tgt := 18) X dX3_whyNot_11 (by decide) hf (fun hf => ?_) (fun hf => ?_)
  · refine g_aload_n X dX3_whyNot_18 1 rfl rfl ?_
    refine g_aload_n X dX3_whyNot_19 1 rfl rfl ?_
    refine g_get (q := 35) (kf := 11) (v := .ref (adr C 42)) X obj_m rfl infX3_whyNot_X3 (by decide) (by decide +kernel) rfl dX3_whyNot_20 ?_
    refine c_VI (q := 35) (vs := [.ref (adr C 42)]) (rest := []) X (kX3_costOf (cL C) 42 rfl σ3) (fun s a hts => cwV 1 hts gX3_whyNot_X3_costOf rfl rfl rfl (by decide +kernel) ⟨Nat.le_of_ble_eq_true rfl, Nat.le_of_ble_eq_true rfl⟩) obj_m (rfl : vwCl[3]? = some (RX3, TX3, 21)) rfl rfl rfl rfl (Nat.le_of_ble_eq_true rfl) dX3_whyNot_23 ⟨Nat.le_of_ble_eq_true rfl, Nat.le_of_ble_eq_true rfl⟩ hf (fun u4 σ5 hf => ?_)
    refine g_aload_n X dX3_whyNot_26 1 rfl rfl ?_
    refine c_VI (q := 35) (vs := []) (rest := [.int u4]) X (kX3_leastOf (cL C) σ5) (fun s a hts => cwV 0 hts gX3_whyNot_X3_leastOf rfl rfl rfl (by decide +kernel) ⟨Nat.le_of_ble_eq_true rfl, Nat.le_of_ble_eq_true rfl⟩) obj_m (rfl : vwCl[3]? = some (RX3, TX3, 21)) rfl rfl rfl rfl (Nat.le_of_ble_eq_true rfl) dX3_whyNot_27 ⟨Nat.le_of_ble_eq_true rfl, Nat.le_of_ble_eq_true rfl⟩ hf (fun u6 σ7 hf => ?_)
    refine g_icmp_le (tgt := 37) X dX3_whyNot_30 (by decide) hf (fun hf => ?_) (fun hf => ?_)
    · refine g_iconst (v := (0 : Int32)) X dX3_whyNot_37 (by decide) ?_
      refine g_sub [] (L' := []) rfl ?_
      exact tX3_whyNot_38 X hq (0 : Int32) σ7 hf
    · refine g_iconst (v := (4 : Int32)) X dX3_whyNot_33 (by decide) ?_
      refine g_goto (tgt := 38) X dX3_whyNot_34 (by decide) ?_
      refine g_sub [] (L' := []) rfl ?_
      exact tX3_whyNot_38 X hq (4 : Int32) σ7 hf
  · refine g_iload_n X dX3_whyNot_14 0 rfl rfl ?_
    refine g_goto (tgt := 38) X dX3_whyNot_15 (by decide) ?_
    refine g_sub [] (L' := []) rfl ?_
    exact tX3_whyNot_38 X hq u2 σ3 hf
def fX3_whyNot (σ : Mem) : Option (Int32 × Mem) := fX3_whyNot_e σ
theorem kX3_whyNot (l : Launch) (σ : Mem) : KI l yX3_whyNot wsX3_whyNot rmX3_whyNot (fun ad => [.ref (ad 35)]) σ (fX3_whyNot σ) := fun r hr => kt_of (by decide +kernel) rfl (fun _ => Nat.le_of_ble_eq_true rfl) (fun C X hne hq => tX3_whyNot_e X hq σ hr)
/-! ### X3_handCost -/
abbrev rmX3_handCost : Room := { frames := 4, cells := 0, slots := 0, locals := 99 }
theorem infX3_handCost_X3 : ∀ w ∈ u_ws RX3 TX3 21, w ∈ wsX3_handCost := by decide +kernel
def fX3_handCost_31 (s0 : Int32) (σ : Mem) : Option (Int32 × Mem) :=
  some (s0, σ)
set_option maxHeartbeats 4000000 in
set_option maxRecDepth 100000 in
theorem tX3_handCost_31 {C : Ctx} (X : CX C cX3_handCost 1 RX3 wsX3_handCost rmX3_handCost (some .int)) {r : Int32 × Mem} (hq : QI C r) (s0 : Int32) (σ : Mem) (hf : fX3_handCost_31 s0 σ = some r) : G C 1 0 0 31 [] [.int s0] σ := by
  unfold fX3_handCost_31 at hf
  exact r_iret X hq dX3_handCost_31 hf
def fX3_handCost_13 (s0 : Int32) (σ : Mem) : Option (Int32 × Mem) :=
  bnd (fX3_goesWell s0 σ) fun u1 σ2 =>
  if u1 = 0 then (fX3_handCost_31 (0 : Int32) σ2)
  else (bnd (fX3_costOf 42 σ2) fun u3 σ4 =>
  fX3_handCost_31 u3 σ4)
set_option maxHeartbeats 4000000 in
set_option maxRecDepth 100000 in
theorem tX3_handCost_13 {C : Ctx} (X : CX C cX3_handCost 1 RX3 wsX3_handCost rmX3_handCost (some .int)) {r : Int32 × Mem} (hq : QI C r) (s0 : Int32) (σ : Mem) (hf : fX3_handCost_13 s0 σ = some r) : G C 1 0 0 13 [(0, .ref (adr C 35))] [.int s0, .ref (adr C 35)] σ := by
  unfold fX3_handCost_13 at hf
  refine c_VI (q := 35) (vs := [.int s0]) (rest := []) X (kX3_goesWell (cL C) s0 σ) (fun s a hts => cwV 1 hts gX3_handCost_X3_goesWell rfl rfl rfl (by decide +kernel) ⟨Nat.le_of_ble_eq_true rfl, Nat.le_of_ble_eq_true rfl⟩) obj_m (rfl : vwCl[3]? = some (RX3, TX3, 21)) rfl rfl rfl rfl (Nat.le_of_ble_eq_true rfl) dX3_handCost_13 ⟨Nat.le_of_ble_eq_true rfl, Nat.le_of_ble_eq_true rfl⟩ hf (fun u1 σ2 hf => ?_)
  refine g_if_eq (tgt := 30) X dX3_handCost_16 (by decide) hf (fun hf => ?_) (fun hf => ?_)
  · refine g_iconst (v := (0 : Int32)) X dX3_handCost_30 (by decide) ?_
    refine g_sub [] (L' := []) rfl ?_
    exact tX3_handCost_31 X hq (0 : Int32) σ2 hf
  · refine g_aload_n X dX3_handCost_19 0 rfl rfl ?_
    refine g_aload_n X dX3_handCost_20 0 rfl rfl ?_
    refine g_get (q := 35) (kf := 11) (v := .ref (adr C 42)) X obj_m rfl infX3_handCost_X3 (by decide) (by decide +kernel) rfl dX3_handCost_21 ?_
    refine c_VI (q := 35) (vs := [.ref (adr C 42)]) (rest := []) X (kX3_costOf (cL C) 42 rfl σ2) (fun s a hts => cwV 1 hts gX3_handCost_X3_costOf rfl rfl rfl (by decide +kernel) ⟨Nat.le_of_ble_eq_true rfl, Nat.le_of_ble_eq_true rfl⟩) obj_m (rfl : vwCl[3]? = some (RX3, TX3, 21)) rfl rfl rfl rfl (Nat.le_of_ble_eq_true rfl) dX3_handCost_24 ⟨Nat.le_of_ble_eq_true rfl, Nat.le_of_ble_eq_true rfl⟩ hf (fun u3 σ4 hf => ?_)
    refine g_goto (tgt := 31) X dX3_handCost_27 (by decide) ?_
    refine g_sub [] (L' := []) rfl ?_
    exact tX3_handCost_31 X hq u3 σ4 hf
def fX3_handCost_e (σ : Mem) : Option (Int32 × Mem) :=
  bnd (fX3_wrong σ) fun u1 σ2 =>
  if u1 = 0 then (fX3_handCost_13 (0 : Int32) σ2)
  else (fX3_handCost_13 (1 : Int32) σ2)
set_option maxHeartbeats 4000000 in
set_option maxRecDepth 100000 in
theorem tX3_handCost_e {C : Ctx} (X : CX C cX3_handCost 1 RX3 wsX3_handCost rmX3_handCost (some .int)) {r : Int32 × Mem} (hq : QI C r) (σ : Mem) (hf : fX3_handCost_e σ = some r) : G C 1 0 0 0 [(0, .ref (adr C 35))] [] σ := by
  unfold fX3_handCost_e at hf
  refine g_aload_n X dX3_handCost_0 0 rfl rfl ?_
  refine g_aload_n X dX3_handCost_1 0 rfl rfl ?_
  refine c_VI (q := 35) (vs := []) (rest := [.ref (adr C 35)]) X (kX3_wrong (cL C) σ) (fun s a hts => cwV 0 hts gX3_handCost_X3_wrong rfl rfl rfl (by decide +kernel) ⟨Nat.le_of_ble_eq_true rfl, Nat.le_of_ble_eq_true rfl⟩) obj_m (rfl : vwCl[3]? = some (RX3, TX3, 21)) rfl rfl rfl rfl (Nat.le_of_ble_eq_true rfl) dX3_handCost_2 ⟨Nat.le_of_ble_eq_true rfl, Nat.le_of_ble_eq_true rfl⟩ hf (fun u1 σ2 hf => ?_)
  refine g_if_ne (tgt := 12) X dX3_handCost_5 (by decide) hf (fun hf => ?_) (fun hf => ?_)
  · refine g_iconst (v := (1 : Int32)) X dX3_handCost_12 (by decide) ?_
    exact tX3_handCost_13 X hq (1 : Int32) σ2 hf
  · refine g_iconst (v := (0 : Int32)) X dX3_handCost_8 (by decide) ?_
    refine g_goto (tgt := 13) X dX3_handCost_9 (by decide) ?_
    exact tX3_handCost_13 X hq (0 : Int32) σ2 hf
def fX3_handCost (σ : Mem) : Option (Int32 × Mem) := fX3_handCost_e σ
theorem kX3_handCost (l : Launch) (σ : Mem) : KI l yX3_handCost wsX3_handCost rmX3_handCost (fun ad => [.ref (ad 35)]) σ (fX3_handCost σ) := fun r hr => kt_of (by decide +kernel) rfl (fun _ => Nat.le_of_ble_eq_true rfl) (fun C X hne hq => tX3_handCost_e X hq σ hr)
/-! ### X3_middle -/
abbrev rmX3_middle : Room := { frames := 2, cells := 0, slots := 0, locals := 52 }
theorem infX3_middle_X3 : ∀ w ∈ u_ws RX3 TX3 21, w ∈ wsX3_middle := by decide +kernel
def fX3_middle_91 (r28 : Int32 → Int32 → Int32 → Mem → Option (Int32 × Mem)) (v2 : Int32) (v3 : Int32) (v4 : Int32) (s0 : Int32) (σ : Mem) : Option (Int32 × Mem) :=
  bnd (fX3_lesser v2 v4 σ) fun u1 σ2 =>
  r28 s0 u1 (v3 + 1) σ2
set_option maxHeartbeats 4000000 in
set_option maxRecDepth 100000 in
theorem tX3_middle_91 {C : Ctx} (X : CX C cX3_middle 6 RX3 wsX3_middle rmX3_middle (some .int)) {r : Int32 × Mem} (hq : QI C r) (r28 : Int32 → Int32 → Int32 → Mem → Option (Int32 × Mem)) (ih28 : ∀ (v1 : Int32) (v2 : Int32) (v3 : Int32) (σ : Mem), r28 v1 v2 v3 σ = some r → G C 6 0 0 28 [(0, .ref (adr C 35)), (1, .int v1), (2, .int v2), (3, .int v3)] [] σ) (v2 : Int32) (v3 : Int32) (v4 : Int32) (s0 : Int32) (σ : Mem) (hf : fX3_middle_91 r28 v2 v3 v4 s0 σ = some r) : G C 6 0 0 91 [(0, .ref (adr C 35)), (2, .int v2), (3, .int v3), (4, .int v4)] [.int s0] σ := by
  unfold fX3_middle_91 at hf
  refine g_istore_n (L' := [(1, .int s0), (0, .ref (adr C 35)), (2, .int v2), (3, .int v3), (4, .int v4)]) X dX3_middle_91 rfl (by decide) rfl ?_
  refine g_iload_n X dX3_middle_92 2 rfl rfl ?_
  refine g_iload X dX3_middle_93 4 rfl ?_
  refine c_SI (vs := [.int v2, .int v4]) (rest := []) X (kX3_lesser (cL C) v2 v4 σ) (fun s a hts => va_cwS 2 hts gX3_middle_X3_lesser rfl rfl rfl (by decide +kernel) ⟨Nat.le_of_ble_eq_true rfl, Nat.le_of_ble_eq_true rfl⟩) rfl rfl rfl (Nat.le_of_ble_eq_true rfl) dX3_middle_95 ⟨Nat.le_of_ble_eq_true rfl, Nat.le_of_ble_eq_true rfl⟩ hf (fun u1 σ2 hf => ?_)
  refine g_istore_n (L' := [(2, .int u1), (1, .int s0), (0, .ref (adr C 35)), (3, .int v3), (4, .int v4)]) X dX3_middle_98 rfl (by decide) rfl ?_
  refine g_iinc (v := (v3 + 1)) (L' := [(3, .int (v3 + 1)), (2, .int u1), (1, .int s0), (0, .ref (adr C 35)), (4, .int v4)]) X dX3_middle_99 3 rfl rfl (by decide) rfl ?_
  refine g_goto (tgt := 28) X dX3_middle_102 (by decide) ?_
  refine g_sub [3, 2, 1, 0] (L' := [(0, .ref (adr C 35)), (1, .int s0), (2, .int u1), (3, .int (v3 + 1))]) rfl ?_
  exact ih28 s0 u1 (v3 + 1) σ2 hf
def fX3_middle_40b (r28 : Int32 → Int32 → Int32 → Mem → Option (Int32 × Mem)) (r40 : Int32 → Int32 → Int32 → Int32 → Int32 → Mem → Option (Int32 × Mem)) (v1 : Int32) (v2 : Int32) (v3 : Int32) (v4 : Int32) (v5 : Int32) (σ : Mem) : Option (Int32 × Mem) :=
  if (rI σ 35 1) ≤ v5 then (if v2 ≤ v4 then (fX3_middle_91 r28 v2 v3 v4 v1 σ)
  else (fX3_middle_91 r28 v2 v3 v4 v3 σ))
  else (grd (inb v5 5) (grd (inb v5 5) (bnd (fX3_apart (rI σ 36 (ix v5)) v3 σ) fun u1 σ2 =>
  ltI (v4 + ((rI σ 37 (ix v5)) * u1)) fun x3 =>
  r40 v1 v2 v3 x3 (v5 + 1) σ2)))
def fX3_middle_40 (r28 : Int32 → Int32 → Int32 → Mem → Option (Int32 × Mem)) : Nat → Int32 → Int32 → Int32 → Int32 → Int32 → Mem → Option (Int32 × Mem)
  | 0 => fun _ _ _ _ _ _ => none
  | n + 1 => fX3_middle_40b r28 (fX3_middle_40 r28 n)
set_option maxHeartbeats 4000000 in
set_option maxRecDepth 100000 in
theorem tX3_middle_40b {C : Ctx} (X : CX C cX3_middle 6 RX3 wsX3_middle rmX3_middle (some .int)) {r : Int32 × Mem} (hq : QI C r) (r28 : Int32 → Int32 → Int32 → Mem → Option (Int32 × Mem)) (ih28 : ∀ (v1 : Int32) (v2 : Int32) (v3 : Int32) (σ : Mem), r28 v1 v2 v3 σ = some r → G C 6 0 0 28 [(0, .ref (adr C 35)), (1, .int v1), (2, .int v2), (3, .int v3)] [] σ) (r40 : Int32 → Int32 → Int32 → Int32 → Int32 → Mem → Option (Int32 × Mem)) (ih40 : ∀ (v1 : Int32) (v2 : Int32) (v3 : Int32) (v4 : Int32) (v5 : Int32) (σ : Mem), r40 v1 v2 v3 v4 v5 σ = some r → G C 6 0 0 40 [(0, .ref (adr C 35)), (1, .int v1), (2, .int v2), (3, .int v3), (4, .int v4), (5, .int v5)] [] σ) (v1 : Int32) (v2 : Int32) (v3 : Int32) (v4 : Int32) (v5 : Int32) (σ : Mem) (hf : fX3_middle_40b r28 r40 v1 v2 v3 v4 v5 σ = some r) : G C 6 0 0 40 [(0, .ref (adr C 35)), (1, .int v1), (2, .int v2), (3, .int v3), (4, .int v4), (5, .int v5)] [] σ := by
  unfold fX3_middle_40b at hf
  refine g_iload X dX3_middle_40 5 rfl ?_
  refine g_aload_n X dX3_middle_42 0 rfl rfl ?_
  refine g_get (q := 35) (kf := 1) (v := .int (rI σ 35 1)) X obj_m rfl infX3_middle_X3 (by decide) (by decide +kernel) rfl dX3_middle_43 ?_
  refine g_icmp_ge (tgt := 80) X dX3_middle_46 (by decide) hf (fun hf => ?_) (fun hf => ?_)
  · refine g_iload X dX3_middle_80 4 rfl ?_
    refine g_iload_n X dX3_middle_82 2 rfl rfl ?_
    refine g_icmp_ge (tgt := 90) X dX3_middle_83 (by decide) hf (fun hf => ?_) (fun hf => ?_)
    · refine g_iload_n X dX3_middle_90 1 rfl rfl ?_
      refine g_sub [0, 2, 3, 4] (L' := [(0, .ref (adr C 35)), (2, .int v2), (3, .int v3), (4, .int v4)]) rfl ?_
      exact tX3_middle_91 X hq r28 ih28 v2 v3 v4 v1 σ hf
    · refine g_iload_n X dX3_middle_86 3 rfl rfl ?_
      refine g_goto (tgt := 91) X dX3_middle_87 (by decide) ?_
      refine g_sub [0, 2, 3, 4] (L' := [(0, .ref (adr C 35)), (2, .int v2), (3, .int v3), (4, .int v4)]) rfl ?_
      exact tX3_middle_91 X hq r28 ih28 v2 v3 v4 v3 σ hf
  · refine g_iload X dX3_middle_49 4 rfl ?_
    refine g_aload_n X dX3_middle_51 0 rfl rfl ?_
    refine g_get (q := 35) (kf := 4) (v := .ref (adr C 37)) X obj_m rfl infX3_middle_X3 (by decide) (by decide +kernel) rfl dX3_middle_52 ?_
    refine g_iload X dX3_middle_55 5 rfl ?_
    refine g_iald (q := 37) (n := 5) X rfl rfl dX3_middle_57 hf (fun hf => ?_)
    refine g_aload_n X dX3_middle_58 0 rfl rfl ?_
    refine g_aload_n X dX3_middle_59 0 rfl rfl ?_
    refine g_get (q := 35) (kf := 3) (v := .ref (adr C 36)) X obj_m rfl infX3_middle_X3 (by decide) (by decide +kernel) rfl dX3_middle_60 ?_
    refine g_iload X dX3_middle_63 5 rfl ?_
    refine g_iald (q := 36) (n := 5) X rfl rfl dX3_middle_65 hf (fun hf => ?_)
    refine g_iload_n X dX3_middle_66 3 rfl rfl ?_
    refine c_VI (q := 35) (vs := [.int (rI σ 36 (ix v5)), .int v3]) (rest := [.int (rI σ 37 (ix v5)), .int v4]) X (kX3_apart (cL C) (rI σ 36 (ix v5)) v3 σ) (fun s a hts => cwV 2 hts gX3_middle_X3_apart rfl rfl rfl (by decide +kernel) ⟨Nat.le_of_ble_eq_true rfl, Nat.le_of_ble_eq_true rfl⟩) obj_m (rfl : vwCl[3]? = some (RX3, TX3, 21)) rfl rfl rfl rfl (Nat.le_of_ble_eq_true rfl) dX3_middle_67 ⟨Nat.le_of_ble_eq_true rfl, Nat.le_of_ble_eq_true rfl⟩ hf (fun u1 σ2 hf => ?_)
    refine g_imul X dX3_middle_70 ?_
    refine g_iadd X dX3_middle_71 ?_
    refine s_istore (M := fun x3 => [(4, .int x3), (0, .ref (adr C 35)), (1, .int v1), (2, .int v2), (3, .int v3), (5, .int v5)]) X dX3_middle_72 (by decide) (fun _ => rfl) hf (fun x3 hf => ?_)
    refine g_iinc (v := (v5 + 1)) (L' := [(5, .int (v5 + 1)), (4, .int x3), (0, .ref (adr C 35)), (1, .int v1), (2, .int v2), (3, .int v3)]) X dX3_middle_74 5 rfl rfl (by decide) rfl ?_
    refine g_goto (tgt := 40) X dX3_middle_77 (by decide) ?_
    refine g_sub [2, 3, 4, 5, 1, 0] (L' := [(0, .ref (adr C 35)), (1, .int v1), (2, .int v2), (3, .int v3), (4, .int x3), (5, .int (v5 + 1))]) rfl ?_
    exact ih40 v1 v2 v3 x3 (v5 + 1) σ2 hf
set_option maxHeartbeats 4000000 in
set_option maxRecDepth 100000 in
theorem tX3_middle_40 {C : Ctx} (X : CX C cX3_middle 6 RX3 wsX3_middle rmX3_middle (some .int)) {r : Int32 × Mem} (hq : QI C r) (r28 : Int32 → Int32 → Int32 → Mem → Option (Int32 × Mem)) (ih28 : ∀ (v1 : Int32) (v2 : Int32) (v3 : Int32) (σ : Mem), r28 v1 v2 v3 σ = some r → G C 6 0 0 28 [(0, .ref (adr C 35)), (1, .int v1), (2, .int v2), (3, .int v3)] [] σ) : ∀ (n : Nat) (v1 : Int32) (v2 : Int32) (v3 : Int32) (v4 : Int32) (v5 : Int32) (σ : Mem) (hf : fX3_middle_40 r28 n v1 v2 v3 v4 v5 σ = some r), G C 6 0 0 40 [(0, .ref (adr C 35)), (1, .int v1), (2, .int v2), (3, .int v3), (4, .int v4), (5, .int v5)] [] σ := by
  intro n
  induction n with
  | zero => intros; rename_i hf; exact absurd (show (none : Option (Int32 × Mem)) = some r from hf) (by simp)
  | succ n ih =>
    intro v1 v2 v3 v4 v5 σ hf
    exact tX3_middle_40b X hq r28 ih28 (fX3_middle_40 r28 n) (fun v1 v2 v3 v4 v5 σ hf => ih v1 v2 v3 v4 v5 σ hf) v1 v2 v3 v4 v5 σ hf
def fX3_middle_28b (r28 : Int32 → Int32 → Int32 → Mem → Option (Int32 × Mem)) (v1 : Int32) (v2 : Int32) (v3 : Int32) (σ : Mem) : Option (Int32 × Mem) :=
  if (100 : Int32) < v3 then (some (v1, σ))
  else (fX3_middle_40 r28 FU v1 v2 v3 (0 : Int32) (0 : Int32) σ)
def fX3_middle_28 : Nat → Int32 → Int32 → Int32 → Mem → Option (Int32 × Mem)
  | 0 => fun _ _ _ _ => none
  | n + 1 => fX3_middle_28b (fX3_middle_28 n)
set_option maxHeartbeats 4000000 in
set_option maxRecDepth 100000 in
theorem tX3_middle_28b {C : Ctx} (X : CX C cX3_middle 6 RX3 wsX3_middle rmX3_middle (some .int)) {r : Int32 × Mem} (hq : QI C r) (r28 : Int32 → Int32 → Int32 → Mem → Option (Int32 × Mem)) (ih28 : ∀ (v1 : Int32) (v2 : Int32) (v3 : Int32) (σ : Mem), r28 v1 v2 v3 σ = some r → G C 6 0 0 28 [(0, .ref (adr C 35)), (1, .int v1), (2, .int v2), (3, .int v3)] [] σ) (v1 : Int32) (v2 : Int32) (v3 : Int32) (σ : Mem) (hf : fX3_middle_28b r28 v1 v2 v3 σ = some r) : G C 6 0 0 28 [(0, .ref (adr C 35)), (1, .int v1), (2, .int v2), (3, .int v3)] [] σ := by
  unfold fX3_middle_28b at hf
  refine g_iload_n X dX3_middle_28 3 rfl rfl ?_
  refine g_bipush (v := (100 : Int32)) X dX3_middle_29 (by decide) ?_
  refine g_icmp_gt (tgt := 105) X dX3_middle_31 (by decide) hf (fun hf => ?_) (fun hf => ?_)
  · refine g_iload_n X dX3_middle_105 1 rfl rfl ?_
    exact r_iret X hq dX3_middle_106 hf
  · refine g_iconst (v := (0 : Int32)) X dX3_middle_34 (by decide) ?_
    refine g_istore (L' := [(4, .int (0 : Int32)), (0, .ref (adr C 35)), (1, .int v1), (2, .int v2), (3, .int v3)]) X dX3_middle_35 (by decide) rfl ?_
    refine g_iconst (v := (0 : Int32)) X dX3_middle_37 (by decide) ?_
    refine g_istore (L' := [(5, .int (0 : Int32)), (4, .int (0 : Int32)), (0, .ref (adr C 35)), (1, .int v1), (2, .int v2), (3, .int v3)]) X dX3_middle_38 (by decide) rfl ?_
    refine g_sub [2, 3, 4, 5, 1, 0] (L' := [(0, .ref (adr C 35)), (1, .int v1), (2, .int v2), (3, .int v3), (4, .int (0 : Int32)), (5, .int (0 : Int32))]) rfl ?_
    exact tX3_middle_40 X hq r28 ih28 FU v1 v2 v3 (0 : Int32) (0 : Int32) σ hf
set_option maxHeartbeats 4000000 in
set_option maxRecDepth 100000 in
theorem tX3_middle_28 {C : Ctx} (X : CX C cX3_middle 6 RX3 wsX3_middle rmX3_middle (some .int)) {r : Int32 × Mem} (hq : QI C r) : ∀ (n : Nat) (v1 : Int32) (v2 : Int32) (v3 : Int32) (σ : Mem) (hf : fX3_middle_28 n v1 v2 v3 σ = some r), G C 6 0 0 28 [(0, .ref (adr C 35)), (1, .int v1), (2, .int v2), (3, .int v3)] [] σ := by
  intro n
  induction n with
  | zero => intros; rename_i hf; exact absurd (show (none : Option (Int32 × Mem)) = some r from hf) (by simp)
  | succ n ih =>
    intro v1 v2 v3 σ hf
    exact tX3_middle_28b X hq (fX3_middle_28 n) (fun v1 v2 v3 σ hf => ih v1 v2 v3 σ hf) v1 v2 v3 σ hf
def fX3_middle_13 (s0 : Int32) (σ : Mem) : Option (Int32 × Mem) :=
  bnd (fX3_goesWell s0 σ) fun u1 σ2 =>
  if u1 = 0 then (some ((0 : Int32), σ2))
  else (fX3_middle_28 FU (0 : Int32) (268435456 : Int32) (0 : Int32) σ2)
set_option maxHeartbeats 4000000 in
set_option maxRecDepth 100000 in
theorem tX3_middle_13 {C : Ctx} (X : CX C cX3_middle 6 RX3 wsX3_middle rmX3_middle (some .int)) {r : Int32 × Mem} (hq : QI C r) (s0 : Int32) (σ : Mem) (hf : fX3_middle_13 s0 σ = some r) : G C 6 0 0 13 [(0, .ref (adr C 35))] [.int s0, .ref (adr C 35)] σ := by
  unfold fX3_middle_13 at hf
  refine c_VI (q := 35) (vs := [.int s0]) (rest := []) X (kX3_goesWell (cL C) s0 σ) (fun s a hts => cwV 1 hts gX3_middle_X3_goesWell rfl rfl rfl (by decide +kernel) ⟨Nat.le_of_ble_eq_true rfl, Nat.le_of_ble_eq_true rfl⟩) obj_m (rfl : vwCl[3]? = some (RX3, TX3, 21)) rfl rfl rfl rfl (Nat.le_of_ble_eq_true rfl) dX3_middle_13 ⟨Nat.le_of_ble_eq_true rfl, Nat.le_of_ble_eq_true rfl⟩ hf (fun u1 σ2 hf => ?_)
  refine g_if_ne (tgt := 21) X dX3_middle_16 (by decide) hf (fun hf => ?_) (fun hf => ?_)
  · refine g_iconst (v := (0 : Int32)) X dX3_middle_21 (by decide) ?_
    refine g_istore_n (L' := [(1, .int (0 : Int32)), (0, .ref (adr C 35))]) X dX3_middle_22 rfl (by decide) rfl ?_
    refine g_ldc (v := (268435456 : Int32)) X (by decide +kernel) dX3_middle_23 ?_
    refine g_istore_n (L' := [(2, .int (268435456 : Int32)), (1, .int (0 : Int32)), (0, .ref (adr C 35))]) X dX3_middle_25 rfl (by decide) rfl ?_
    refine g_iconst (v := (0 : Int32)) X dX3_middle_26 (by decide) ?_
    refine g_istore_n (L' := [(3, .int (0 : Int32)), (2, .int (268435456 : Int32)), (1, .int (0 : Int32)), (0, .ref (adr C 35))]) X dX3_middle_27 rfl (by decide) rfl ?_
    refine g_sub [3, 2, 1, 0] (L' := [(0, .ref (adr C 35)), (1, .int (0 : Int32)), (2, .int (268435456 : Int32)), (3, .int (0 : Int32))]) rfl ?_
    exact tX3_middle_28 X hq FU (0 : Int32) (268435456 : Int32) (0 : Int32) σ2 hf
  · refine g_iconst (v := (0 : Int32)) X dX3_middle_19 (by decide) ?_
    exact r_iret X hq dX3_middle_20 hf
def fX3_middle_e (σ : Mem) : Option (Int32 × Mem) :=
  if (rI σ 35 1) ≤ 0 then (fX3_middle_13 (1 : Int32) σ)
  else (fX3_middle_13 (0 : Int32) σ)
set_option maxHeartbeats 4000000 in
set_option maxRecDepth 100000 in
theorem tX3_middle_e {C : Ctx} (X : CX C cX3_middle 6 RX3 wsX3_middle rmX3_middle (some .int)) {r : Int32 × Mem} (hq : QI C r) (σ : Mem) (hf : fX3_middle_e σ = some r) : G C 6 0 0 0 [(0, .ref (adr C 35))] [] σ := by
  unfold fX3_middle_e at hf
  refine g_aload_n X dX3_middle_0 0 rfl rfl ?_
  refine g_aload_n X dX3_middle_1 0 rfl rfl ?_
  refine g_get (q := 35) (kf := 1) (v := .int (rI σ 35 1)) X obj_m rfl infX3_middle_X3 (by decide) (by decide +kernel) rfl dX3_middle_2 ?_
  refine g_if_le (tgt := 12) X dX3_middle_5 (by decide) hf (fun hf => ?_) (fun hf => ?_)
  · refine g_iconst (v := (1 : Int32)) X dX3_middle_12 (by decide) ?_
    exact tX3_middle_13 X hq (1 : Int32) σ hf
  · refine g_iconst (v := (0 : Int32)) X dX3_middle_8 (by decide) ?_
    refine g_goto (tgt := 13) X dX3_middle_9 (by decide) ?_
    exact tX3_middle_13 X hq (0 : Int32) σ hf
def fX3_middle (σ : Mem) : Option (Int32 × Mem) := fX3_middle_e σ
theorem kX3_middle (l : Launch) (σ : Mem) : KI l yX3_middle wsX3_middle rmX3_middle (fun ad => [.ref (ad 35)]) σ (fX3_middle σ) := fun r hr => kt_of (by decide +kernel) rfl (fun _ => Nat.le_of_ble_eq_true rfl) (fun C X hne hq => tX3_middle_e X hq σ hr)
/-! ### X3_about -/
abbrev rmX3_about : Room := { frames := 3, cells := 0, slots := 0, locals := 73 }
theorem infX3_about_X3 : ∀ w ∈ u_ws RX3 TX3 21, w ∈ wsX3_about := by decide +kernel
def fX3_about_105 (s0 : Int32) (σ : Mem) : Option (Int32 × Mem) :=
  some (s0, σ)
set_option maxHeartbeats 4000000 in
set_option maxRecDepth 100000 in
theorem tX3_about_105 {C : Ctx} (X : CX C cX3_about 7 RX3 wsX3_about rmX3_about (some .int)) {r : Int32 × Mem} (hq : QI C r) (s0 : Int32) (σ : Mem) (hf : fX3_about_105 s0 σ = some r) : G C 7 0 0 105 [] [.int s0] σ := by
  unfold fX3_about_105 at hf
  exact r_iret X hq dX3_about_105 hf
def fX3_about_92 (v3 : Int32) (v5 : Int32) (s0 : Int32) (σ : Mem) : Option (Int32 × Mem) :=
  if v3 = 0 then (fX3_about_105 v5 σ)
  else (fX3_about_105 s0 σ)
set_option maxHeartbeats 4000000 in
set_option maxRecDepth 100000 in
theorem tX3_about_92 {C : Ctx} (X : CX C cX3_about 7 RX3 wsX3_about rmX3_about (some .int)) {r : Int32 × Mem} (hq : QI C r) (v3 : Int32) (v5 : Int32) (s0 : Int32) (σ : Mem) (hf : fX3_about_92 v3 v5 s0 σ = some r) : G C 7 0 0 92 [(3, .int v3), (5, .int v5)] [.int s0] σ := by
  unfold fX3_about_92 at hf
  refine g_istore (L' := [(6, .int s0), (3, .int v3), (5, .int v5)]) X dX3_about_92 (by decide) rfl ?_
  refine g_iload_n X dX3_about_94 1 rfl rfl ?_
  refine g_if_ne (tgt := 103) X dX3_about_95 (by decide) hf (fun hf => ?_) (fun hf => ?_)
  · refine g_iload X dX3_about_103 0 rfl ?_
    refine g_sub [] (L' := []) rfl ?_
    exact tX3_about_105 X hq s0 σ hf
  · refine g_iload X dX3_about_98 2 rfl ?_
    refine g_goto (tgt := 105) X dX3_about_100 (by decide) ?_
    refine g_sub [] (L' := []) rfl ?_
    exact tX3_about_105 X hq v5 σ hf
def fX3_about_71 (v1 : Int32) (v2 : Int32) (v3 : Int32) (s0 : Int32) (σ : Mem) : Option (Int32 × Mem) :=
  if v1 = 0 then (grd (inb v2 5) (fX3_about_92 v3 s0 (rI σ 37 (ix v2)) σ))
  else (grd (inb v2 5) (fX3_about_92 v3 s0 (rI σ 39 (ix v2)) σ))
set_option maxHeartbeats 4000000 in
set_option maxRecDepth 100000 in
theorem tX3_about_71 {C : Ctx} (X : CX C cX3_about 7 RX3 wsX3_about rmX3_about (some .int)) {r : Int32 × Mem} (hq : QI C r) (v1 : Int32) (v2 : Int32) (v3 : Int32) (s0 : Int32) (σ : Mem) (hf : fX3_about_71 v1 v2 v3 s0 σ = some r) : G C 7 0 0 71 [(0, .ref (adr C 35)), (1, .int v1), (2, .int v2), (3, .int v3)] [.int s0] σ := by
  unfold fX3_about_71 at hf
  refine g_istore (L' := [(5, .int s0), (0, .ref (adr C 35)), (1, .int v1), (2, .int v2), (3, .int v3)]) X dX3_about_71 (by decide) rfl ?_
  refine g_iload_n X dX3_about_73 2 rfl rfl ?_
  refine g_if_eq (tgt := 86) X dX3_about_74 (by decide) hf (fun hf => ?_) (fun hf => ?_)
  · refine g_aload_n X dX3_about_86 1 rfl rfl ?_
    refine g_get (q := 35) (kf := 4) (v := .ref (adr C 37)) X obj_m rfl infX3_about_X3 (by decide) (by decide +kernel) rfl dX3_about_87 ?_
    refine g_iload_n X dX3_about_90 3 rfl rfl ?_
    refine g_iald (q := 37) (n := 5) X rfl rfl dX3_about_91 hf (fun hf => ?_)
    refine g_sub [4, 0] (L' := [(3, .int v3), (5, .int s0)]) rfl ?_
    exact tX3_about_92 X hq v3 s0 (rI σ 37 (ix v2)) σ hf
  · refine g_aload_n X dX3_about_77 1 rfl rfl ?_
    refine g_get (q := 35) (kf := 6) (v := .ref (adr C 39)) X obj_m rfl infX3_about_X3 (by decide) (by decide +kernel) rfl dX3_about_78 ?_
    refine g_iload_n X dX3_about_81 3 rfl rfl ?_
    refine g_iald (q := 39) (n := 5) X rfl rfl dX3_about_82 hf (fun hf => ?_)
    refine g_goto (tgt := 92) X dX3_about_83 (by decide) ?_
    refine g_sub [4, 0] (L' := [(3, .int v3), (5, .int s0)]) rfl ?_
    exact tX3_about_92 X hq v3 s0 (rI σ 39 (ix v2)) σ hf
def fX3_about_32 (v1 : Int32) (v2 : Int32) (v3 : Int32) (s0 : Int32) (σ : Mem) : Option (Int32 × Mem) :=
  bnd (fX3_goesWell s0 σ) fun u1 σ2 =>
  if u1 = 0 then (some ((0 : Int32), σ2))
  else (if v3 = (2 : Int32) then (bnd (fX3_byHand v1 v2 σ2) fun u3 σ4 =>
  some (u3, σ4))
  else (if v1 = 0 then (grd (inb v2 5) (fX3_about_71 v1 v2 v3 (rI σ2 36 (ix v2)) σ2))
  else (grd (inb v2 5) (fX3_about_71 v1 v2 v3 (rI σ2 38 (ix v2)) σ2))))
set_option maxHeartbeats 4000000 in
set_option maxRecDepth 100000 in
theorem tX3_about_32 {C : Ctx} (X : CX C cX3_about 7 RX3 wsX3_about rmX3_about (some .int)) {r : Int32 × Mem} (hq : QI C r) (v1 : Int32) (v2 : Int32) (v3 : Int32) (s0 : Int32) (σ : Mem) (hf : fX3_about_32 v1 v2 v3 s0 σ = some r) : G C 7 0 0 32 [(0, .ref (adr C 35)), (1, .int v1), (2, .int v2), (3, .int v3)] [.int s0, .ref (adr C 35)] σ := by
  unfold fX3_about_32 at hf
  refine c_VI (q := 35) (vs := [.int s0]) (rest := []) X (kX3_goesWell (cL C) s0 σ) (fun s a hts => cwV 1 hts gX3_about_X3_goesWell rfl rfl rfl (by decide +kernel) ⟨Nat.le_of_ble_eq_true rfl, Nat.le_of_ble_eq_true rfl⟩) obj_m (rfl : vwCl[3]? = some (RX3, TX3, 21)) rfl rfl rfl rfl (Nat.le_of_ble_eq_true rfl) dX3_about_32 ⟨Nat.le_of_ble_eq_true rfl, Nat.le_of_ble_eq_true rfl⟩ hf (fun u1 σ2 hf => ?_)
  refine g_if_ne (tgt := 40) X dX3_about_35 (by decide) hf (fun hf => ?_) (fun hf => ?_)
  · refine g_iload_n X dX3_about_40 3 rfl rfl ?_
    refine g_iconst (v := (2 : Int32)) X dX3_about_41 (by decide) ?_
    refine g_icmp_ne (tgt := 52) X dX3_about_42 (by decide) hf (fun hf => ?_) (fun hf => ?_)
    · refine g_iload_n X dX3_about_52 1 rfl rfl ?_
      refine g_if_eq (tgt := 65) X dX3_about_53 (by decide) hf (fun hf => ?_) (fun hf => ?_)
      · refine g_aload_n X dX3_about_65 0 rfl rfl ?_
        refine g_get (q := 35) (kf := 3) (v := .ref (adr C 36)) X obj_m rfl infX3_about_X3 (by decide) (by decide +kernel) rfl dX3_about_66 ?_
        refine g_iload_n X dX3_about_69 2 rfl rfl ?_
        refine g_iald (q := 36) (n := 5) X rfl rfl dX3_about_70 hf (fun hf => ?_)
        exact tX3_about_71 X hq v1 v2 v3 (rI σ2 36 (ix v2)) σ2 hf
      · refine g_aload_n X dX3_about_56 0 rfl rfl ?_
        refine g_get (q := 35) (kf := 5) (v := .ref (adr C 38)) X obj_m rfl infX3_about_X3 (by decide) (by decide +kernel) rfl dX3_about_57 ?_
        refine g_iload_n X dX3_about_60 2 rfl rfl ?_
        refine g_iald (q := 38) (n := 5) X rfl rfl dX3_about_61 hf (fun hf => ?_)
        refine g_goto (tgt := 71) X dX3_about_62 (by decide) ?_
        exact tX3_about_71 X hq v1 v2 v3 (rI σ2 38 (ix v2)) σ2 hf
    · refine g_aload_n X dX3_about_45 0 rfl rfl ?_
      refine g_iload_n X dX3_about_46 1 rfl rfl ?_
      refine g_iload_n X dX3_about_47 2 rfl rfl ?_
      refine c_VI (q := 35) (vs := [.int v1, .int v2]) (rest := []) X (kX3_byHand (cL C) v1 v2 σ2) (fun s a hts => cwV 2 hts gX3_about_X3_byHand rfl rfl rfl (by decide +kernel) ⟨Nat.le_of_ble_eq_true rfl, Nat.le_of_ble_eq_true rfl⟩) obj_m (rfl : vwCl[3]? = some (RX3, TX3, 21)) rfl rfl rfl rfl (Nat.le_of_ble_eq_true rfl) dX3_about_48 ⟨Nat.le_of_ble_eq_true rfl, Nat.le_of_ble_eq_true rfl⟩ hf (fun u3 σ4 hf => ?_)
      exact r_iret X hq dX3_about_51 hf
  · refine g_iconst (v := (0 : Int32)) X dX3_about_38 (by decide) ?_
    exact r_iret X hq dX3_about_39 hf
def fX3_about_e (v1 : Int32) (v2 : Int32) (v3 : Int32) (σ : Mem) : Option (Int32 × Mem) :=
  bnd (fX3_isOne v1 v2 σ) fun u1 σ2 =>
  if u1 = 0 then (fX3_about_32 v1 v2 v3 (1 : Int32) σ2)
  else (bnd (fX3_in v3 (0 : Int32) (2 : Int32) σ2) fun u3 σ4 =>
  if u3 = 0 then (fX3_about_32 v1 v2 v3 (2 : Int32) σ4)
  else (fX3_about_32 v1 v2 v3 (0 : Int32) σ4))
set_option maxHeartbeats 4000000 in
set_option maxRecDepth 100000 in
theorem tX3_about_e {C : Ctx} (X : CX C cX3_about 7 RX3 wsX3_about rmX3_about (some .int)) {r : Int32 × Mem} (hq : QI C r) (v1 : Int32) (v2 : Int32) (v3 : Int32) (σ : Mem) (hf : fX3_about_e v1 v2 v3 σ = some r) : G C 7 0 0 0 [(0, .ref (adr C 35)), (1, .int v1), (2, .int v2), (3, .int v3)] [] σ := by
  unfold fX3_about_e at hf
  refine g_aload_n X dX3_about_0 0 rfl rfl ?_
  refine g_iload_n X dX3_about_1 1 rfl rfl ?_
  refine g_iload_n X dX3_about_2 2 rfl rfl ?_
  refine c_VI (q := 35) (vs := [.int v1, .int v2]) (rest := []) X (kX3_isOne (cL C) v1 v2 σ) (fun s a hts => cwV 2 hts gX3_about_X3_isOne rfl rfl rfl (by decide +kernel) ⟨Nat.le_of_ble_eq_true rfl, Nat.le_of_ble_eq_true rfl⟩) obj_m (rfl : vwCl[3]? = some (RX3, TX3, 21)) rfl rfl rfl rfl (Nat.le_of_ble_eq_true rfl) dX3_about_3 ⟨Nat.le_of_ble_eq_true rfl, Nat.le_of_ble_eq_true rfl⟩ hf (fun u1 σ2 hf => ?_)
  refine g_istore (L' := [(4, .int u1), (0, .ref (adr C 35)), (1, .int v1), (2, .int v2), (3, .int v3)]) X dX3_about_6 (by decide) rfl ?_
  refine g_aload_n X dX3_about_8 1 rfl rfl ?_
  refine g_iload X dX3_about_9 0 rfl ?_
  refine g_if_ne (tgt := 18) X dX3_about_11 (by decide) hf (fun hf => ?_) (fun hf => ?_)
  · refine g_iload_n X dX3_about_18 4 rfl rfl ?_
    refine g_iconst (v := (0 : Int32)) X dX3_about_19 (by decide) ?_
    refine g_iconst (v := (2 : Int32)) X dX3_about_20 (by decide) ?_
    refine c_SI (vs := [.int v3, .int (0 : Int32), .int (2 : Int32)]) (rest := [.ref (adr C 35)]) X (kX3_in (cL C) v3 (0 : Int32) (2 : Int32) σ2) (fun s a hts => va_cwS 3 hts gX3_about_X3_in rfl rfl rfl (by decide +kernel) ⟨Nat.le_of_ble_eq_true rfl, Nat.le_of_ble_eq_true rfl⟩) rfl rfl rfl (Nat.le_of_ble_eq_true rfl) dX3_about_21 ⟨Nat.le_of_ble_eq_true rfl, Nat.le_of_ble_eq_true rfl⟩ hf (fun u3 σ4 hf => ?_)
    refine g_if_eq (tgt := 31) X dX3_about_24 (by decide) hf (fun hf => ?_) (fun hf => ?_)
    · refine g_iconst (v := (2 : Int32)) X dX3_about_31 (by decide) ?_
      refine g_sub [1, 2, 3, 4] (L' := [(0, .ref (adr C 35)), (1, .int v1), (2, .int v2), (3, .int v3)]) rfl ?_
      exact tX3_about_32 X hq v1 v2 v3 (2 : Int32) σ4 hf
    · refine g_iconst (v := (0 : Int32)) X dX3_about_27 (by decide) ?_
      refine g_goto (tgt := 32) X dX3_about_28 (by decide) ?_
      refine g_sub [1, 2, 3, 4] (L' := [(0, .ref (adr C 35)), (1, .int v1), (2, .int v2), (3, .int v3)]) rfl ?_
      exact tX3_about_32 X hq v1 v2 v3 (0 : Int32) σ4 hf
  · refine g_iconst (v := (1 : Int32)) X dX3_about_14 (by decide) ?_
    refine g_goto (tgt := 32) X dX3_about_15 (by decide) ?_
    refine g_sub [1, 2, 3, 4] (L' := [(0, .ref (adr C 35)), (1, .int v1), (2, .int v2), (3, .int v3)]) rfl ?_
    exact tX3_about_32 X hq v1 v2 v3 (1 : Int32) σ2 hf
def fX3_about (v1 : Int32) (v2 : Int32) (v3 : Int32) (σ : Mem) : Option (Int32 × Mem) := fX3_about_e v1 v2 v3 σ
theorem kX3_about (l : Launch) (v1 : Int32) (v2 : Int32) (v3 : Int32) (σ : Mem) : KI l yX3_about wsX3_about rmX3_about (fun ad => [.ref (ad 35), .int v1, .int v2, .int v3]) σ (fX3_about v1 v2 v3 σ) := fun r hr => kt_of (by decide +kernel) rfl (fun _ => Nat.le_of_ble_eq_true rfl) (fun C X hne hq => tX3_about_e X hq v1 v2 v3 σ hr)
/-! ### X3_count -/
abbrev rmX3_count : Room := { frames := 9, cells := 0, slots := 0, locals := 218 }
theorem infX3_count_X3 : ∀ w ∈ u_ws RX3 TX3 21, w ∈ wsX3_count := by decide +kernel
def fX3_count_102b (r102 : Int32 → Int32 → Mem → Option (Int32 × Mem)) (v2 : Int32) (v3 : Int32) (σ : Mem) : Option (Int32 × Mem) :=
  if (25 : Int32) ≤ v3 then (some (v2, σ))
  else (grd (inb v3 25) (ltI (v2 + (rI σ 49 (ix v3))) fun x1 =>
  r102 x1 (v3 + 1) σ))
def fX3_count_102 : Nat → Int32 → Int32 → Mem → Option (Int32 × Mem)
  | 0 => fun _ _ _ => none
  | n + 1 => fX3_count_102b (fX3_count_102 n)
set_option maxHeartbeats 4000000 in
set_option maxRecDepth 100000 in
theorem tX3_count_102b {C : Ctx} (X : CX C cX3_count 4 RX3 wsX3_count rmX3_count (some .int)) {r : Int32 × Mem} (hq : QI C r) (r102 : Int32 → Int32 → Mem → Option (Int32 × Mem)) (ih102 : ∀ (v2 : Int32) (v3 : Int32) (σ : Mem), r102 v2 v3 σ = some r → G C 4 0 0 102 [(0, .ref (adr C 35)), (2, .int v2), (3, .int v3)] [] σ) (v2 : Int32) (v3 : Int32) (σ : Mem) (hf : fX3_count_102b r102 v2 v3 σ = some r) : G C 4 0 0 102 [(0, .ref (adr C 35)), (2, .int v2), (3, .int v3)] [] σ := by
  unfold fX3_count_102b at hf
  refine g_iload_n X dX3_count_102 2 rfl rfl ?_
  refine g_bipush (v := (25 : Int32)) X dX3_count_103 (by decide) ?_
  refine g_icmp_ge (tgt := 123) X dX3_count_105 (by decide) hf (fun hf => ?_) (fun hf => ?_)
  · refine g_iload_n X dX3_count_123 1 rfl rfl ?_
    exact r_iret X hq dX3_count_124 hf
  · refine g_iload_n X dX3_count_108 1 rfl rfl ?_
    refine g_aload_n X dX3_count_109 0 rfl rfl ?_
    refine g_get (q := 35) (kf := 20) (v := .ref (adr C 49)) X obj_m rfl infX3_count_X3 (by decide) (by decide +kernel) rfl dX3_count_110 ?_
    refine g_iload_n X dX3_count_113 2 rfl rfl ?_
    refine g_iald (q := 49) (n := 25) X rfl rfl dX3_count_114 hf (fun hf => ?_)
    refine g_iadd X dX3_count_115 ?_
    refine s_istore_n (M := fun x1 => [(2, .int x1), (0, .ref (adr C 35)), (3, .int v3)]) X dX3_count_116 rfl (by decide) (fun _ => rfl) hf (fun x1 hf => ?_)
    refine g_iinc (v := (v3 + 1)) (L' := [(3, .int (v3 + 1)), (2, .int x1), (0, .ref (adr C 35))]) X dX3_count_117 2 rfl rfl (by decide) rfl ?_
    refine g_goto (tgt := 102) X dX3_count_120 (by decide) ?_
    refine g_sub [2, 1, 0] (L' := [(0, .ref (adr C 35)), (2, .int x1), (3, .int (v3 + 1))]) rfl ?_
    exact ih102 x1 (v3 + 1) σ hf
set_option maxHeartbeats 4000000 in
set_option maxRecDepth 100000 in
theorem tX3_count_102 {C : Ctx} (X : CX C cX3_count 4 RX3 wsX3_count rmX3_count (some .int)) {r : Int32 × Mem} (hq : QI C r) : ∀ (n : Nat) (v2 : Int32) (v3 : Int32) (σ : Mem) (hf : fX3_count_102 n v2 v3 σ = some r), G C 4 0 0 102 [(0, .ref (adr C 35)), (2, .int v2), (3, .int v3)] [] σ := by
  intro n
  induction n with
  | zero => intros; rename_i hf; exact absurd (show (none : Option (Int32 × Mem)) = some r from hf) (by simp)
  | succ n ih =>
    intro v2 v3 σ hf
    exact tX3_count_102b X hq (fX3_count_102 n) (fun v2 v3 σ hf => ih v2 v3 σ hf) v2 v3 σ hf
def fX3_count_93 (s0 : Int32) (σ : Mem) : Option (Int32 × Mem) :=
  some (s0, σ)
set_option maxHeartbeats 4000000 in
set_option maxRecDepth 100000 in
theorem tX3_count_93 {C : Ctx} (X : CX C cX3_count 4 RX3 wsX3_count rmX3_count (some .int)) {r : Int32 × Mem} (hq : QI C r) (s0 : Int32) (σ : Mem) (hf : fX3_count_93 s0 σ = some r) : G C 4 0 0 93 [] [.int s0] σ := by
  unfold fX3_count_93 at hf
  exact r_iret X hq dX3_count_93 hf
def fX3_count_16 (v1 : Int32) (s0 : Int32) (σ : Mem) : Option (Int32 × Mem) :=
  bnd (fX3_goesWell s0 σ) fun u1 σ2 =>
  if u1 = 0 then (some ((0 : Int32), σ2))
  else (if (6 : Int32) ≤ v1 then (bnd (fX3_findPlan σ2) fun u3 σ4 =>
  fX3_count_102 FU (0 : Int32) (0 : Int32) σ4)
  else (if v1 = 0 then (fX3_count_93 (rI σ2 35 1) σ2)
  else (if v1 = (1 : Int32) then (fX3_count_93 (rI σ2 35 2) σ2)
  else (if v1 = (2 : Int32) then (fX3_count_93 (rI σ2 35 7) σ2)
  else (if v1 = (3 : Int32) then (fX3_count_93 (rI σ2 35 8) σ2)
  else (if v1 = (4 : Int32) then (fX3_count_93 (rI σ2 35 12) σ2)
  else (fX3_count_93 (rI σ2 35 13) σ2)))))))
set_option maxHeartbeats 4000000 in
set_option maxRecDepth 100000 in
theorem tX3_count_16 {C : Ctx} (X : CX C cX3_count 4 RX3 wsX3_count rmX3_count (some .int)) {r : Int32 × Mem} (hq : QI C r) (v1 : Int32) (s0 : Int32) (σ : Mem) (hf : fX3_count_16 v1 s0 σ = some r) : G C 4 0 0 16 [(0, .ref (adr C 35)), (1, .int v1)] [.int s0, .ref (adr C 35)] σ := by
  unfold fX3_count_16 at hf
  refine c_VI (q := 35) (vs := [.int s0]) (rest := []) X (kX3_goesWell (cL C) s0 σ) (fun s a hts => cwV 1 hts gX3_count_X3_goesWell rfl rfl rfl (by decide +kernel) ⟨Nat.le_of_ble_eq_true rfl, Nat.le_of_ble_eq_true rfl⟩) obj_m (rfl : vwCl[3]? = some (RX3, TX3, 21)) rfl rfl rfl rfl (Nat.le_of_ble_eq_true rfl) dX3_count_16 ⟨Nat.le_of_ble_eq_true rfl, Nat.le_of_ble_eq_true rfl⟩ hf (fun u1 σ2 hf => ?_)
  refine g_if_ne (tgt := 24) X dX3_count_19 (by decide) hf (fun hf => ?_) (fun hf => ?_)
  · refine g_iload_n X dX3_count_24 1 rfl rfl ?_
    refine g_bipush (v := (6 : Int32)) X dX3_count_25 (by decide) ?_
    refine g_icmp_ge (tgt := 94) X dX3_count_27 (by decide) hf (fun hf => ?_) (fun hf => ?_)
    · refine g_aload_n X dX3_count_94 0 rfl rfl ?_
      refine c_VV (q := 35) (vs := []) (rest := []) X (kX3_findPlan (cL C) σ2) (fun s a hts => cwV 0 hts gX3_count_X3_findPlan rfl rfl rfl (by decide +kernel) ⟨Nat.le_of_ble_eq_true rfl, Nat.le_of_ble_eq_true rfl⟩) obj_m (rfl : vwCl[3]? = some (RX3, TX3, 21)) rfl rfl rfl rfl (Nat.le_of_ble_eq_true rfl) dX3_count_95 ⟨Nat.le_of_ble_eq_true rfl, Nat.le_of_ble_eq_true rfl⟩ hf (fun u3 σ4 hf => ?_)
      refine g_iconst (v := (0 : Int32)) X dX3_count_98 (by decide) ?_
      refine g_istore_n (L' := [(2, .int (0 : Int32)), (0, .ref (adr C 35)), (1, .int v1)]) X dX3_count_99 rfl (by decide) rfl ?_
      refine g_iconst (v := (0 : Int32)) X dX3_count_100 (by decide) ?_
      refine g_istore_n (L' := [(3, .int (0 : Int32)), (2, .int (0 : Int32)), (0, .ref (adr C 35)), (1, .int v1)]) X dX3_count_101 rfl (by decide) rfl ?_
      refine g_sub [2, 1, 0] (L' := [(0, .ref (adr C 35)), (2, .int (0 : Int32)), (3, .int (0 : Int32))]) rfl ?_
      exact tX3_count_102 X hq FU (0 : Int32) (0 : Int32) σ4 hf
    · refine g_iload_n X dX3_count_30 1 rfl rfl ?_
      refine g_if_ne (tgt := 41) X dX3_count_31 (by decide) hf (fun hf => ?_) (fun hf => ?_)
      · refine g_iload_n X dX3_count_41 1 rfl rfl ?_
        refine g_iconst (v := (1 : Int32)) X dX3_count_42 (by decide) ?_
        refine g_icmp_ne (tgt := 53) X dX3_count_43 (by decide) hf (fun hf => ?_) (fun hf => ?_)
        · refine g_iload_n X dX3_count_53 1 rfl rfl ?_
          refine g_iconst (v := (2 : Int32)) X dX3_count_54 (by decide) ?_
          refine g_icmp_ne (tgt := 65) X dX3_count_55 (by decide) hf (fun hf => ?_) (fun hf => ?_)
          · refine g_iload_n X dX3_count_65 1 rfl rfl ?_
            refine g_iconst (v := (3 : Int32)) X dX3_count_66 (by decide) ?_
            refine g_icmp_ne (tgt := 77) X dX3_count_67 (by decide) hf (fun hf => ?_) (fun hf => ?_)
            · refine g_iload_n X dX3_count_77 1 rfl rfl ?_
              refine g_iconst (v := (4 : Int32)) X dX3_count_78 (by decide) ?_
              refine g_icmp_ne (tgt := 89) X dX3_count_79 (by decide) hf (fun hf => ?_) (fun hf => ?_)
              · refine g_aload_n X dX3_count_89 0 rfl rfl ?_
                refine g_get (q := 35) (kf := 13) (v := .int (rI σ2 35 13)) X obj_m rfl infX3_count_X3 (by decide) (by decide +kernel) rfl dX3_count_90 ?_
                refine g_sub [] (L' := []) rfl ?_
                exact tX3_count_93 X hq (rI σ2 35 13) σ2 hf
              · refine g_aload_n X dX3_count_82 0 rfl rfl ?_
                refine g_get (q := 35) (kf := 12) (v := .int (rI σ2 35 12)) X obj_m rfl infX3_count_X3 (by decide) (by decide +kernel) rfl dX3_count_83 ?_
                refine g_goto (tgt := 93) X dX3_count_86 (by decide) ?_
                refine g_sub [] (L' := []) rfl ?_
                exact tX3_count_93 X hq (rI σ2 35 12) σ2 hf
            · refine g_aload_n X dX3_count_70 0 rfl rfl ?_
              refine g_get (q := 35) (kf := 8) (v := .int (rI σ2 35 8)) X obj_m rfl infX3_count_X3 (by decide) (by decide +kernel) rfl dX3_count_71 ?_
              refine g_goto (tgt := 93) X dX3_count_74 (by decide) ?_
              refine g_sub [] (L' := []) rfl ?_
              exact tX3_count_93 X hq (rI σ2 35 8) σ2 hf
          · refine g_aload_n X dX3_count_58 0 rfl rfl ?_
            refine g_get (q := 35) (kf := 7) (v := .int (rI σ2 35 7)) X obj_m rfl infX3_count_X3 (by decide) (by decide +kernel) rfl dX3_count_59 ?_
            refine g_goto (tgt := 93) X dX3_count_62 (by decide) ?_
            refine g_sub [] (L' := []) rfl ?_
            exact tX3_count_93 X hq (rI σ2 35 7) σ2 hf
        · refine g_aload_n X dX3_count_46 0 rfl rfl ?_
          refine g_get (q := 35) (kf := 2) (v := .int (rI σ2 35 2)) X obj_m rfl infX3_count_X3 (by decide) (by decide +kernel) rfl dX3_count_47 ?_
          refine g_goto (tgt := 93) X dX3_count_50 (by decide) ?_
          refine g_sub [] (L' := []) rfl ?_
          exact tX3_count_93 X hq (rI σ2 35 2) σ2 hf
      · refine g_aload_n X dX3_count_34 0 rfl rfl ?_
        refine g_get (q := 35) (kf := 1) (v := .int (rI σ2 35 1)) X obj_m rfl infX3_count_X3 (by decide) (by decide +kernel) rfl dX3_count_35 ?_
        refine g_goto (tgt := 93) X dX3_count_38 (by decide) ?_
        refine g_sub [] (L' := []) rfl ?_
        exact tX3_count_93 X hq (rI σ2 35 1) σ2 hf
  · refine g_iconst (v := (0 : Int32)) X dX3_count_22 (by decide) ?_
    exact r_iret X hq dX3_count_23 hf
def fX3_count_e (v1 : Int32) (σ : Mem) : Option (Int32 × Mem) :=
  bnd (fX3_in v1 (0 : Int32) (6 : Int32) σ) fun u1 σ2 =>
  if u1 = 0 then (fX3_count_16 v1 (1 : Int32) σ2)
  else (fX3_count_16 v1 (0 : Int32) σ2)
set_option maxHeartbeats 4000000 in
set_option maxRecDepth 100000 in
theorem tX3_count_e {C : Ctx} (X : CX C cX3_count 4 RX3 wsX3_count rmX3_count (some .int)) {r : Int32 × Mem} (hq : QI C r) (v1 : Int32) (σ : Mem) (hf : fX3_count_e v1 σ = some r) : G C 4 0 0 0 [(0, .ref (adr C 35)), (1, .int v1)] [] σ := by
  unfold fX3_count_e at hf
  refine g_aload_n X dX3_count_0 0 rfl rfl ?_
  refine g_iload_n X dX3_count_1 1 rfl rfl ?_
  refine g_iconst (v := (0 : Int32)) X dX3_count_2 (by decide) ?_
  refine g_bipush (v := (6 : Int32)) X dX3_count_3 (by decide) ?_
  refine c_SI (vs := [.int v1, .int (0 : Int32), .int (6 : Int32)]) (rest := [.ref (adr C 35)]) X (kX3_in (cL C) v1 (0 : Int32) (6 : Int32) σ) (fun s a hts => va_cwS 3 hts gX3_count_X3_in rfl rfl rfl (by decide +kernel) ⟨Nat.le_of_ble_eq_true rfl, Nat.le_of_ble_eq_true rfl⟩) rfl rfl rfl (Nat.le_of_ble_eq_true rfl) dX3_count_5 ⟨Nat.le_of_ble_eq_true rfl, Nat.le_of_ble_eq_true rfl⟩ hf (fun u1 σ2 hf => ?_)
  refine g_if_eq (tgt := 15) X dX3_count_8 (by decide) hf (fun hf => ?_) (fun hf => ?_)
  · refine g_iconst (v := (1 : Int32)) X dX3_count_15 (by decide) ?_
    exact tX3_count_16 X hq v1 (1 : Int32) σ2 hf
  · refine g_iconst (v := (0 : Int32)) X dX3_count_11 (by decide) ?_
    refine g_goto (tgt := 16) X dX3_count_12 (by decide) ?_
    exact tX3_count_16 X hq v1 (0 : Int32) σ2 hf
def fX3_count (v1 : Int32) (σ : Mem) : Option (Int32 × Mem) := fX3_count_e v1 σ
theorem kX3_count (l : Launch) (v1 : Int32) (σ : Mem) : KI l yX3_count wsX3_count rmX3_count (fun ad => [.ref (ad 35), .int v1]) σ (fX3_count v1 σ) := fun r hr => kt_of (by decide +kernel) rfl (fun _ => Nat.le_of_ble_eq_true rfl) (fun C X hne hq => tX3_count_e X hq v1 σ hr)
