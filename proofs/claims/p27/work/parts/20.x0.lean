/-! ### J7_fill_53178 -/
abbrev rmJ7_fill_53178 : Room := { frames := 0, cells := 0, slots := 0, locals := 8 }
def fJ7_fill_53178_5b (r5 : Nat → Int32 → Int32 → Int32 → Mem → Option (Int32 × Mem)) (v0 : Nat) (v1 : Int32) (v2 : Int32) (v3 : Int32) (σ : Mem) : Option (Int32 × Mem) :=
  if v3 ≤ v2 then (some ((0 : Int32), σ))
  else (grd (inb v2 (ln v0)) (ltM (wI σ v0 (ix v2) v1) fun σ1 =>
  r5 v0 v1 (v2 + 1) v3 σ1))
def fJ7_fill_53178_5 : Nat → Nat → Int32 → Int32 → Int32 → Mem → Option (Int32 × Mem)
  | 0 => fun _ _ _ _ _ => none
  | n + 1 => fJ7_fill_53178_5b (fJ7_fill_53178_5 n)
set_option maxHeartbeats 4000000 in
set_option maxRecDepth 100000 in
theorem tJ7_fill_53178_5b {C : Ctx} (X : CX C cJ7_fill_53178 4 RJ7 wsJ7_fill_53178 rmJ7_fill_53178 none) {r : Int32 × Mem} (hq : QV C r) (r5 : Nat → Int32 → Int32 → Int32 → Mem → Option (Int32 × Mem)) (ih5 : ∀ (v0 : Nat) (v1 : Int32) (v2 : Int32) (v3 : Int32) (σ : Mem), ki v0 = 5 → r5 v0 v1 v2 v3 σ = some r → G C 4 0 0 5 [(0, .ref (adr C v0)), (1, .int v1), (2, .int v2), (3, .int v3)] [] σ) (v0 : Nat) (v1 : Int32) (v2 : Int32) (v3 : Int32) (hv0 : ki v0 = 5) (σ : Mem) (hf : fJ7_fill_53178_5b r5 v0 v1 v2 v3 σ = some r) : G C 4 0 0 5 [(0, .ref (adr C v0)), (1, .int v1), (2, .int v2), (3, .int v3)] [] σ := by
  unfold fJ7_fill_53178_5b at hf
  refine g_iload_n X dJ7_fill_53178_5 2 rfl rfl ?_
  refine g_iload_n X dJ7_fill_53178_6 3 rfl rfl ?_
  refine g_icmp_ge (tgt := 20) X dJ7_fill_53178_7 (by decide) hf (fun hf => ?_) (fun hf => ?_)
  · exact r_vret X hq dJ7_fill_53178_20 hf
  · refine g_aload_n X dJ7_fill_53178_10 0 rfl rfl ?_
    refine g_iload_n X dJ7_fill_53178_11 2 rfl rfl ?_
    refine g_iload_n X dJ7_fill_53178_12 1 rfl rfl ?_
    refine s_iast (q := v0) (n := (ln v0)) X hv0 rfl dJ7_fill_53178_13 hf (fun σ1 hf => ?_)
    refine g_iinc (v := (v2 + 1)) (L' := [(2, .int (v2 + 1)), (0, .ref (adr C v0)), (1, .int v1), (3, .int v3)]) X dJ7_fill_53178_14 2 rfl rfl (by decide) rfl ?_
    refine g_goto (tgt := 5) X dJ7_fill_53178_17 (by decide) ?_
    refine g_sub [1, 2, 0, 3] (L' := [(0, .ref (adr C v0)), (1, .int v1), (2, .int (v2 + 1)), (3, .int v3)]) rfl ?_
    exact ih5 v0 v1 (v2 + 1) v3 σ1 hv0 hf
set_option maxHeartbeats 4000000 in
set_option maxRecDepth 100000 in
theorem tJ7_fill_53178_5 {C : Ctx} (X : CX C cJ7_fill_53178 4 RJ7 wsJ7_fill_53178 rmJ7_fill_53178 none) {r : Int32 × Mem} (hq : QV C r) : ∀ (n : Nat) (v0 : Nat) (v1 : Int32) (v2 : Int32) (v3 : Int32) (hv0 : ki v0 = 5) (σ : Mem) (hf : fJ7_fill_53178_5 n v0 v1 v2 v3 σ = some r), G C 4 0 0 5 [(0, .ref (adr C v0)), (1, .int v1), (2, .int v2), (3, .int v3)] [] σ := by
  intro n
  induction n with
  | zero => intros; rename_i hf; exact absurd (show (none : Option (Int32 × Mem)) = some r from hf) (by simp)
  | succ n ih =>
    intro v0 v1 v2 v3 hv0 σ hf
    exact tJ7_fill_53178_5b X hq (fJ7_fill_53178_5 n) (fun v0 v1 v2 v3 σ hv0 hf => ih v0 v1 v2 v3 hv0 σ hf) v0 v1 v2 v3 hv0 σ hf
def fJ7_fill_53178_e (v0 : Nat) (v1 : Int32) (σ : Mem) : Option (Int32 × Mem) :=
  ltI (Int32.ofNat (ln v0)) fun x1 =>
  fJ7_fill_53178_5 FU v0 v1 (0 : Int32) x1 σ
set_option maxHeartbeats 4000000 in
set_option maxRecDepth 100000 in
theorem tJ7_fill_53178_e {C : Ctx} (X : CX C cJ7_fill_53178 4 RJ7 wsJ7_fill_53178 rmJ7_fill_53178 none) {r : Int32 × Mem} (hq : QV C r) (v0 : Nat) (v1 : Int32) (hv0 : ki v0 = 5) (σ : Mem) (hf : fJ7_fill_53178_e v0 v1 σ = some r) : G C 4 0 0 0 [(0, .ref (adr C v0)), (1, .int v1)] [] σ := by
  unfold fJ7_fill_53178_e at hf
  refine g_iconst (v := (0 : Int32)) X dJ7_fill_53178_0 (by decide) ?_
  refine g_istore_n (L' := [(2, .int (0 : Int32)), (0, .ref (adr C v0)), (1, .int v1)]) X dJ7_fill_53178_1 rfl (by decide) rfl ?_
  refine g_aload_n X dJ7_fill_53178_2 1 rfl rfl ?_
  refine g_alenI (q := v0) (n := (ln v0)) X hv0 rfl dJ7_fill_53178_3 ?_
  refine s_istore_n (M := fun x1 => [(3, .int x1), (2, .int (0 : Int32)), (0, .ref (adr C v0)), (1, .int v1)]) X dJ7_fill_53178_4 rfl (by decide) (fun _ => rfl) hf (fun x1 hf => ?_)
  refine g_sub [2, 3, 1, 0] (L' := [(0, .ref (adr C v0)), (1, .int v1), (2, .int (0 : Int32)), (3, .int x1)]) rfl ?_
  exact tJ7_fill_53178_5 X hq FU v0 v1 (0 : Int32) x1 hv0 σ hf
def fJ7_fill_53178 (v0 : Nat) (v1 : Int32) (σ : Mem) : Option (Int32 × Mem) := fJ7_fill_53178_e v0 v1 σ
theorem kJ7_fill_53178 (l : Launch) (v0 : Nat) (v1 : Int32) (hv0 : ki v0 = 5) (σ : Mem) : KV l yJ7_fill_53178 wsJ7_fill_53178 rmJ7_fill_53178 (fun ad => [.ref (ad v0), .int v1]) σ (fJ7_fill_53178 v0 v1 σ) := fun r hr => kt_of (by decide +kernel) rfl (fun _ => Nat.le_of_ble_eq_true rfl) (fun C X hne hq => tJ7_fill_53178_e X hq v0 v1 hv0 σ hr)
/-! ### J7_fill_d0a16 -/
abbrev rmJ7_fill_d0a16 : Room := { frames := 0, cells := 0, slots := 0, locals := 8 }
def fJ7_fill_d0a16_6b (r6 : Nat → Int64 → Int32 → Int32 → Mem → Option (Int32 × Mem)) (v0 : Nat) (v1 : Int64) (v3 : Int32) (v4 : Int32) (σ : Mem) : Option (Int32 × Mem) :=
  if v4 ≤ v3 then (some ((0 : Int32), σ))
  else (grd (inb v3 (ln v0)) (ltM (wJ σ v0 (ix v3) v1) fun σ1 =>
  r6 v0 v1 (v3 + 1) v4 σ1))
def fJ7_fill_d0a16_6 : Nat → Nat → Int64 → Int32 → Int32 → Mem → Option (Int32 × Mem)
  | 0 => fun _ _ _ _ _ => none
  | n + 1 => fJ7_fill_d0a16_6b (fJ7_fill_d0a16_6 n)
set_option maxHeartbeats 4000000 in
set_option maxRecDepth 100000 in
theorem tJ7_fill_d0a16_6b {C : Ctx} (X : CX C cJ7_fill_d0a16 5 RJ7 wsJ7_fill_d0a16 rmJ7_fill_d0a16 none) {r : Int32 × Mem} (hq : QV C r) (r6 : Nat → Int64 → Int32 → Int32 → Mem → Option (Int32 × Mem)) (ih6 : ∀ (v0 : Nat) (v1 : Int64) (v3 : Int32) (v4 : Int32) (σ : Mem), ki v0 = 6 → r6 v0 v1 v3 v4 σ = some r → G C 5 0 0 6 [(0, .ref (adr C v0)), (1, .long v1), (3, .int v3), (4, .int v4)] [] σ) (v0 : Nat) (v1 : Int64) (v3 : Int32) (v4 : Int32) (hv0 : ki v0 = 6) (σ : Mem) (hf : fJ7_fill_d0a16_6b r6 v0 v1 v3 v4 σ = some r) : G C 5 0 0 6 [(0, .ref (adr C v0)), (1, .long v1), (3, .int v3), (4, .int v4)] [] σ := by
  unfold fJ7_fill_d0a16_6b at hf
  refine g_iload_n X dJ7_fill_d0a16_6 2 rfl rfl ?_
  refine g_iload X dJ7_fill_d0a16_7 3 rfl ?_
  refine g_icmp_ge (tgt := 22) X dJ7_fill_d0a16_9 (by decide) hf (fun hf => ?_) (fun hf => ?_)
  · exact r_vret X hq dJ7_fill_d0a16_22 hf
  · refine g_aload_n X dJ7_fill_d0a16_12 0 rfl rfl ?_
    refine g_iload_n X dJ7_fill_d0a16_13 2 rfl rfl ?_
    refine g_lload_n X dJ7_fill_d0a16_14 1 rfl rfl ?_
    refine s_last (q := v0) (n := (ln v0)) X hv0 rfl dJ7_fill_d0a16_15 hf (fun σ1 hf => ?_)
    refine g_iinc (v := (v3 + 1)) (L' := [(3, .int (v3 + 1)), (0, .ref (adr C v0)), (1, .long v1), (4, .int v4)]) X dJ7_fill_d0a16_16 2 rfl rfl (by decide) rfl ?_
    refine g_goto (tgt := 6) X dJ7_fill_d0a16_19 (by decide) ?_
    refine g_sub [1, 2, 0, 3] (L' := [(0, .ref (adr C v0)), (1, .long v1), (3, .int (v3 + 1)), (4, .int v4)]) rfl ?_
    exact ih6 v0 v1 (v3 + 1) v4 σ1 hv0 hf
set_option maxHeartbeats 4000000 in
set_option maxRecDepth 100000 in
theorem tJ7_fill_d0a16_6 {C : Ctx} (X : CX C cJ7_fill_d0a16 5 RJ7 wsJ7_fill_d0a16 rmJ7_fill_d0a16 none) {r : Int32 × Mem} (hq : QV C r) : ∀ (n : Nat) (v0 : Nat) (v1 : Int64) (v3 : Int32) (v4 : Int32) (hv0 : ki v0 = 6) (σ : Mem) (hf : fJ7_fill_d0a16_6 n v0 v1 v3 v4 σ = some r), G C 5 0 0 6 [(0, .ref (adr C v0)), (1, .long v1), (3, .int v3), (4, .int v4)] [] σ := by
  intro n
  induction n with
  | zero => intros; rename_i hf; exact absurd (show (none : Option (Int32 × Mem)) = some r from hf) (by simp)
  | succ n ih =>
    intro v0 v1 v3 v4 hv0 σ hf
    exact tJ7_fill_d0a16_6b X hq (fJ7_fill_d0a16_6 n) (fun v0 v1 v3 v4 σ hv0 hf => ih v0 v1 v3 v4 hv0 σ hf) v0 v1 v3 v4 hv0 σ hf
def fJ7_fill_d0a16_e (v0 : Nat) (v1 : Int64) (σ : Mem) : Option (Int32 × Mem) :=
  ltI (Int32.ofNat (ln v0)) fun x1 =>
  fJ7_fill_d0a16_6 FU v0 v1 (0 : Int32) x1 σ
set_option maxHeartbeats 4000000 in
set_option maxRecDepth 100000 in
theorem tJ7_fill_d0a16_e {C : Ctx} (X : CX C cJ7_fill_d0a16 5 RJ7 wsJ7_fill_d0a16 rmJ7_fill_d0a16 none) {r : Int32 × Mem} (hq : QV C r) (v0 : Nat) (v1 : Int64) (hv0 : ki v0 = 6) (σ : Mem) (hf : fJ7_fill_d0a16_e v0 v1 σ = some r) : G C 5 0 0 0 [(0, .ref (adr C v0)), (1, .long v1)] [] σ := by
  unfold fJ7_fill_d0a16_e at hf
  refine g_iconst (v := (0 : Int32)) X dJ7_fill_d0a16_0 (by decide) ?_
  refine g_istore_n (L' := [(3, .int (0 : Int32)), (0, .ref (adr C v0)), (1, .long v1)]) X dJ7_fill_d0a16_1 rfl (by decide) rfl ?_
  refine g_aload_n X dJ7_fill_d0a16_2 1 rfl rfl ?_
  refine g_alenJ (q := v0) (n := (ln v0)) X hv0 rfl dJ7_fill_d0a16_3 ?_
  refine s_istore (M := fun x1 => [(4, .int x1), (3, .int (0 : Int32)), (0, .ref (adr C v0)), (1, .long v1)]) X dJ7_fill_d0a16_4 (by decide) (fun _ => rfl) hf (fun x1 hf => ?_)
  refine g_sub [2, 3, 1, 0] (L' := [(0, .ref (adr C v0)), (1, .long v1), (3, .int (0 : Int32)), (4, .int x1)]) rfl ?_
  exact tJ7_fill_d0a16_6 X hq FU v0 v1 (0 : Int32) x1 hv0 σ hf
def fJ7_fill_d0a16 (v0 : Nat) (v1 : Int64) (σ : Mem) : Option (Int32 × Mem) := fJ7_fill_d0a16_e v0 v1 σ
theorem kJ7_fill_d0a16 (l : Launch) (v0 : Nat) (v1 : Int64) (hv0 : ki v0 = 6) (σ : Mem) : KV l yJ7_fill_d0a16 wsJ7_fill_d0a16 rmJ7_fill_d0a16 (fun ad => [.ref (ad v0), .long v1]) σ (fJ7_fill_d0a16 v0 v1 σ) := fun r hr => kt_of (by decide +kernel) rfl (fun _ => Nat.le_of_ble_eq_true rfl) (fun C X hne hq => tJ7_fill_d0a16_e X hq v0 v1 hv0 σ hr)
/-! ### X2_wayOf -/
abbrev rmX2_wayOf : Room := { frames := 0, cells := 0, slots := 0, locals := 8 }
def fX2_wayOf_e (v0 : Int32) (v1 : Int32) (σ : Mem) : Option (Int32 × Mem) :=
  some (((v0 * (5 : Int32)) + v1), σ)
set_option maxHeartbeats 4000000 in
set_option maxRecDepth 100000 in
theorem tX2_wayOf_e {C : Ctx} (X : CX C cX2_wayOf 2 RX2 wsX2_wayOf rmX2_wayOf (some .int)) {r : Int32 × Mem} (hq : QI C r) (v0 : Int32) (v1 : Int32) (σ : Mem) (hf : fX2_wayOf_e v0 v1 σ = some r) : G C 2 0 0 0 [(0, .int v0), (1, .int v1)] [] σ := by
  unfold fX2_wayOf_e at hf
  refine g_iload_n X dX2_wayOf_0 0 rfl rfl ?_
  refine g_iconst (v := (5 : Int32)) X dX2_wayOf_1 (by decide) ?_
  refine g_imul X dX2_wayOf_2 ?_
  refine g_iload_n X dX2_wayOf_3 1 rfl rfl ?_
  refine g_iadd X dX2_wayOf_4 ?_
  exact r_iret X hq dX2_wayOf_5 hf
def fX2_wayOf (v0 : Int32) (v1 : Int32) (σ : Mem) : Option (Int32 × Mem) := fX2_wayOf_e v0 v1 σ
theorem kX2_wayOf (l : Launch) (v0 : Int32) (v1 : Int32) (σ : Mem) : KI l yX2_wayOf wsX2_wayOf rmX2_wayOf (fun ad => [.int v0, .int v1]) σ (fX2_wayOf v0 v1 σ) := fun r hr => kt_of (by decide +kernel) rfl (fun _ => Nat.le_of_ble_eq_true rfl) (fun C X hne hq => tX2_wayOf_e X hq v0 v1 σ hr)
/-! ### X0_begin -/
abbrev rmX0_begin : Room := { frames := 1, cells := 0, slots := 0, locals := 31 }
theorem infX0_begin_X0 : ∀ w ∈ u_ws RX0 TX0 15, w ∈ wsX0_begin := by decide +kernel
def fX0_begin_e (v0 : Nat) (v1 : Int32) (v2 : Int32) (σ : Mem) : Option (Int32 × Mem) :=
  bnd (fJ7_fill_53178 (v0 + 1) (0 : Int32) σ) fun u1 σ2 =>
  bnd (fJ7_fill_53178 (v0 + 2) (0 : Int32) σ2) fun u3 σ4 =>
  bnd (fJ7_fill_53178 (v0 + 3) (0 : Int32) σ4) fun u5 σ6 =>
  bnd (fJ7_fill_53178 (v0 + 4) (0 : Int32) σ6) fun u7 σ8 =>
  ltM (wI σ8 v0 4 (0 : Int32)) fun σ9 =>
  ltM (wI σ9 v0 12 (0 : Int32)) fun σ10 =>
  ltM (wI σ10 v0 13 v1) fun σ11 =>
  ltM (wI σ11 v0 14 v2) fun σ12 =>
  some ((0 : Int32), σ12)
set_option maxHeartbeats 4000000 in
set_option maxRecDepth 100000 in
theorem tX0_begin_e {C : Ctx} (X : CX C cX0_begin 3 RX0 wsX0_begin rmX0_begin none) {r : Int32 × Mem} (hq : QV C r) (v0 : Nat) (v1 : Int32) (v2 : Int32) (hv0 : ki v0 = 3) (σ : Mem) (hf : fX0_begin_e v0 v1 v2 σ = some r) : G C 3 0 0 0 [(0, .ref (adr C v0)), (1, .int v1), (2, .int v2)] [] σ := by
  unfold fX0_begin_e at hf
  refine g_aload_n X dX0_begin_0 0 rfl rfl ?_
  refine g_get (q := v0) (kf := 0) (v := .ref (adr C (v0 + 1))) X (obj_p hv0) rfl infX0_begin_X0 (by decide) (by decide +kernel) rfl dX0_begin_1 ?_
  refine g_iconst (v := (0 : Int32)) X dX0_begin_4 (by decide) ?_
  refine c_SV (vs := [.ref (adr C (v0 + 1)), .int (0 : Int32)]) (rest := []) X (kJ7_fill_53178 (cL C) (v0 + 1) (0 : Int32) (pk1 hv0) σ) (fun s a hts => va_cwS 2 hts gX0_begin_J7_fill_53178 rfl rfl rfl (by decide +kernel) ⟨Nat.le_of_ble_eq_true rfl, Nat.le_of_ble_eq_true rfl⟩) rfl rfl rfl (Nat.le_of_ble_eq_true rfl) dX0_begin_5 ⟨Nat.le_of_ble_eq_true rfl, Nat.le_of_ble_eq_true rfl⟩ hf (fun u1 σ2 hf => ?_)
  refine g_aload_n X dX0_begin_8 0 rfl rfl ?_
  refine g_get (q := v0) (kf := 1) (v := .ref (adr C (v0 + 2))) X (obj_p hv0) rfl infX0_begin_X0 (by decide) (by decide +kernel) rfl dX0_begin_9 ?_
  refine g_iconst (v := (0 : Int32)) X dX0_begin_12 (by decide) ?_
  refine c_SV (vs := [.ref (adr C (v0 + 2)), .int (0 : Int32)]) (rest := []) X (kJ7_fill_53178 (cL C) (v0 + 2) (0 : Int32) (pk2 hv0) σ2) (fun s a hts => va_cwS 2 hts gX0_begin_J7_fill_53178 rfl rfl rfl (by decide +kernel) ⟨Nat.le_of_ble_eq_true rfl, Nat.le_of_ble_eq_true rfl⟩) rfl rfl rfl (Nat.le_of_ble_eq_true rfl) dX0_begin_13 ⟨Nat.le_of_ble_eq_true rfl, Nat.le_of_ble_eq_true rfl⟩ hf (fun u3 σ4 hf => ?_)
  refine g_aload_n X dX0_begin_16 0 rfl rfl ?_
  refine g_get (q := v0) (kf := 2) (v := .ref (adr C (v0 + 3))) X (obj_p hv0) rfl infX0_begin_X0 (by decide) (by decide +kernel) rfl dX0_begin_17 ?_
  refine g_iconst (v := (0 : Int32)) X dX0_begin_20 (by decide) ?_
  refine c_SV (vs := [.ref (adr C (v0 + 3)), .int (0 : Int32)]) (rest := []) X (kJ7_fill_53178 (cL C) (v0 + 3) (0 : Int32) (pk3 hv0) σ4) (fun s a hts => va_cwS 2 hts gX0_begin_J7_fill_53178 rfl rfl rfl (by decide +kernel) ⟨Nat.le_of_ble_eq_true rfl, Nat.le_of_ble_eq_true rfl⟩) rfl rfl rfl (Nat.le_of_ble_eq_true rfl) dX0_begin_21 ⟨Nat.le_of_ble_eq_true rfl, Nat.le_of_ble_eq_true rfl⟩ hf (fun u5 σ6 hf => ?_)
  refine g_aload_n X dX0_begin_24 0 rfl rfl ?_
  refine g_get (q := v0) (kf := 3) (v := .ref (adr C (v0 + 4))) X (obj_p hv0) rfl infX0_begin_X0 (by decide) (by decide +kernel) rfl dX0_begin_25 ?_
  refine g_iconst (v := (0 : Int32)) X dX0_begin_28 (by decide) ?_
  refine c_SV (vs := [.ref (adr C (v0 + 4)), .int (0 : Int32)]) (rest := []) X (kJ7_fill_53178 (cL C) (v0 + 4) (0 : Int32) (pk4 hv0) σ6) (fun s a hts => va_cwS 2 hts gX0_begin_J7_fill_53178 rfl rfl rfl (by decide +kernel) ⟨Nat.le_of_ble_eq_true rfl, Nat.le_of_ble_eq_true rfl⟩) rfl rfl rfl (Nat.le_of_ble_eq_true rfl) dX0_begin_29 ⟨Nat.le_of_ble_eq_true rfl, Nat.le_of_ble_eq_true rfl⟩ hf (fun u7 σ8 hf => ?_)
  refine g_aload_n X dX0_begin_32 0 rfl rfl ?_
  refine g_iconst (v := (0 : Int32)) X dX0_begin_33 (by decide) ?_
  refine s_put (q := v0) (kf := 4) X (obj_p hv0) rfl infX0_begin_X0 tyX0_ok nmX0 (by decide) (by decide +kernel) rfl rfl rfl rfl (fun _ _ => rfl) (fun _ _ => Nat.le_of_ble_eq_true rfl) dX0_begin_34 hf (fun σ9 hf => ?_)
  refine g_aload_n X dX0_begin_37 0 rfl rfl ?_
  refine g_iconst (v := (0 : Int32)) X dX0_begin_38 (by decide) ?_
  refine s_put (q := v0) (kf := 12) X (obj_p hv0) rfl infX0_begin_X0 tyX0_ok nmX0 (by decide) (by decide +kernel) rfl rfl rfl rfl (fun _ _ => rfl) (fun _ _ => Nat.le_of_ble_eq_true rfl) dX0_begin_39 hf (fun σ10 hf => ?_)
  refine g_aload_n X dX0_begin_42 0 rfl rfl ?_
  refine g_iload_n X dX0_begin_43 1 rfl rfl ?_
  refine s_put (q := v0) (kf := 13) X (obj_p hv0) rfl infX0_begin_X0 tyX0_ok nmX0 (by decide) (by decide +kernel) rfl rfl rfl rfl (fun _ _ => rfl) (fun _ _ => Nat.le_of_ble_eq_true rfl) dX0_begin_44 hf (fun σ11 hf => ?_)
  refine g_aload_n X dX0_begin_47 0 rfl rfl ?_
  refine g_iload_n X dX0_begin_48 2 rfl rfl ?_
  refine s_put (q := v0) (kf := 14) X (obj_p hv0) rfl infX0_begin_X0 tyX0_ok nmX0 (by decide) (by decide +kernel) rfl rfl rfl rfl (fun _ _ => rfl) (fun _ _ => Nat.le_of_ble_eq_true rfl) dX0_begin_49 hf (fun σ12 hf => ?_)
  exact r_vret X hq dX0_begin_52 hf
def fX0_begin (v0 : Nat) (v1 : Int32) (v2 : Int32) (σ : Mem) : Option (Int32 × Mem) := fX0_begin_e v0 v1 v2 σ
theorem kX0_begin (l : Launch) (v0 : Nat) (v1 : Int32) (v2 : Int32) (hv0 : ki v0 = 3) (σ : Mem) : KV l yX0_begin wsX0_begin rmX0_begin (fun ad => [.ref (ad v0), .int v1, .int v2]) σ (fX0_begin v0 v1 v2 σ) := fun r hr => kt_of (by decide +kernel) rfl (fun _ => Nat.le_of_ble_eq_true rfl) (fun C X hne hq => tX0_begin_e X hq v0 v1 v2 hv0 σ hr)
/-! ### X0_letStay -/
abbrev rmX0_letStay : Room := { frames := 0, cells := 0, slots := 0, locals := 8 }
theorem infX0_letStay_X0 : ∀ w ∈ u_ws RX0 TX0 15, w ∈ wsX0_letStay := by decide +kernel
def fX0_letStay_e (v0 : Nat) (v1 : Int32) (v2 : Int32) (σ : Mem) : Option (Int32 × Mem) :=
  grd (inb v1 5) (grd (inb v1 5) (ltM (wI σ (v0 + 1) (ix v1) ((rI σ (v0 + 1) (ix v1)) + v2)) fun σ1 =>
  ltM (wI σ1 v0 4 ((rI σ1 v0 4) + (v2 * (rI σ1 v0 13)))) fun σ2 =>
  some ((0 : Int32), σ2)))
set_option maxHeartbeats 4000000 in
set_option maxRecDepth 100000 in
theorem tX0_letStay_e {C : Ctx} (X : CX C cX0_letStay 3 RX0 wsX0_letStay rmX0_letStay none) {r : Int32 × Mem} (hq : QV C r) (v0 : Nat) (v1 : Int32) (v2 : Int32) (hv0 : ki v0 = 3) (σ : Mem) (hf : fX0_letStay_e v0 v1 v2 σ = some r) : G C 3 0 0 0 [(0, .ref (adr C v0)), (1, .int v1), (2, .int v2)] [] σ := by
  unfold fX0_letStay_e at hf
  refine g_aload_n X dX0_letStay_0 0 rfl rfl ?_
  refine g_get (q := v0) (kf := 0) (v := .ref (adr C (v0 + 1))) X (obj_p hv0) rfl infX0_letStay_X0 (by decide) (by decide +kernel) rfl dX0_letStay_1 ?_
  refine g_iload_n X dX0_letStay_4 1 rfl rfl ?_
  refine g_dup2 X dX0_letStay_5 rfl rfl ?_
  refine g_iald (q := v0 + 1) (n := 5) X (pk1 hv0) (pl1 hv0) dX0_letStay_6 hf (fun hf => ?_)
  refine g_iload_n X dX0_letStay_7 2 rfl rfl ?_
  refine g_iadd X dX0_letStay_8 ?_
  refine s_iast (q := v0 + 1) (n := 5) X (pk1 hv0) (pl1 hv0) dX0_letStay_9 hf (fun σ1 hf => ?_)
  refine g_aload_n X dX0_letStay_10 0 rfl rfl ?_
  refine g_dup X dX0_letStay_11 rfl ?_
  refine g_get (q := v0) (kf := 4) (v := .int (rI σ1 v0 4)) X (obj_p hv0) rfl infX0_letStay_X0 (by decide) (by decide +kernel) rfl dX0_letStay_12 ?_
  refine g_iload_n X dX0_letStay_15 2 rfl rfl ?_
  refine g_aload_n X dX0_letStay_16 0 rfl rfl ?_
  refine g_get (q := v0) (kf := 13) (v := .int (rI σ1 v0 13)) X (obj_p hv0) rfl infX0_letStay_X0 (by decide) (by decide +kernel) rfl dX0_letStay_17 ?_
  refine g_imul X dX0_letStay_20 ?_
  refine g_iadd X dX0_letStay_21 ?_
  refine s_put (q := v0) (kf := 4) X (obj_p hv0) rfl infX0_letStay_X0 tyX0_ok nmX0 (by decide) (by decide +kernel) rfl rfl rfl rfl (fun _ _ => rfl) (fun _ _ => Nat.le_of_ble_eq_true rfl) dX0_letStay_22 hf (fun σ2 hf => ?_)
  exact r_vret X hq dX0_letStay_25 hf
def fX0_letStay (v0 : Nat) (v1 : Int32) (v2 : Int32) (σ : Mem) : Option (Int32 × Mem) := fX0_letStay_e v0 v1 v2 σ
theorem kX0_letStay (l : Launch) (v0 : Nat) (v1 : Int32) (v2 : Int32) (hv0 : ki v0 = 3) (σ : Mem) : KV l yX0_letStay wsX0_letStay rmX0_letStay (fun ad => [.ref (ad v0), .int v1, .int v2]) σ (fX0_letStay v0 v1 v2 σ) := fun r hr => kt_of (by decide +kernel) rfl (fun _ => Nat.le_of_ble_eq_true rfl) (fun C X hne hq => tX0_letStay_e X hq v0 v1 v2 hv0 σ hr)
/-! ### X0_letLack -/
abbrev rmX0_letLack : Room := { frames := 0, cells := 0, slots := 0, locals := 8 }
theorem infX0_letLack_X0 : ∀ w ∈ u_ws RX0 TX0 15, w ∈ wsX0_letLack := by decide +kernel
def fX0_letLack_e (v0 : Nat) (v1 : Int32) (v2 : Int32) (σ : Mem) : Option (Int32 × Mem) :=
  grd (inb v1 5) (grd (inb v1 5) (ltM (wI σ (v0 + 2) (ix v1) ((rI σ (v0 + 2) (ix v1)) + v2)) fun σ1 =>
  ltM (wI σ1 v0 4 ((rI σ1 v0 4) + (v2 * (rI σ1 v0 14)))) fun σ2 =>
  some ((0 : Int32), σ2)))
set_option maxHeartbeats 4000000 in
set_option maxRecDepth 100000 in
theorem tX0_letLack_e {C : Ctx} (X : CX C cX0_letLack 3 RX0 wsX0_letLack rmX0_letLack none) {r : Int32 × Mem} (hq : QV C r) (v0 : Nat) (v1 : Int32) (v2 : Int32) (hv0 : ki v0 = 3) (σ : Mem) (hf : fX0_letLack_e v0 v1 v2 σ = some r) : G C 3 0 0 0 [(0, .ref (adr C v0)), (1, .int v1), (2, .int v2)] [] σ := by
  unfold fX0_letLack_e at hf
  refine g_aload_n X dX0_letLack_0 0 rfl rfl ?_
  refine g_get (q := v0) (kf := 1) (v := .ref (adr C (v0 + 2))) X (obj_p hv0) rfl infX0_letLack_X0 (by decide) (by decide +kernel) rfl dX0_letLack_1 ?_
  refine g_iload_n X dX0_letLack_4 1 rfl rfl ?_
  refine g_dup2 X dX0_letLack_5 rfl rfl ?_
  refine g_iald (q := v0 + 2) (n := 5) X (pk2 hv0) (pl2 hv0) dX0_letLack_6 hf (fun hf => ?_)
  refine g_iload_n X dX0_letLack_7 2 rfl rfl ?_
  refine g_iadd X dX0_letLack_8 ?_
  refine s_iast (q := v0 + 2) (n := 5) X (pk2 hv0) (pl2 hv0) dX0_letLack_9 hf (fun σ1 hf => ?_)
  refine g_aload_n X dX0_letLack_10 0 rfl rfl ?_
  refine g_dup X dX0_letLack_11 rfl ?_
  refine g_get (q := v0) (kf := 4) (v := .int (rI σ1 v0 4)) X (obj_p hv0) rfl infX0_letLack_X0 (by decide) (by decide +kernel) rfl dX0_letLack_12 ?_
  refine g_iload_n X dX0_letLack_15 2 rfl rfl ?_
  refine g_aload_n X dX0_letLack_16 0 rfl rfl ?_
  refine g_get (q := v0) (kf := 14) (v := .int (rI σ1 v0 14)) X (obj_p hv0) rfl infX0_letLack_X0 (by decide) (by decide +kernel) rfl dX0_letLack_17 ?_
  refine g_imul X dX0_letLack_20 ?_
  refine g_iadd X dX0_letLack_21 ?_
  refine s_put (q := v0) (kf := 4) X (obj_p hv0) rfl infX0_letLack_X0 tyX0_ok nmX0 (by decide) (by decide +kernel) rfl rfl rfl rfl (fun _ _ => rfl) (fun _ _ => Nat.le_of_ble_eq_true rfl) dX0_letLack_22 hf (fun σ2 hf => ?_)
  exact r_vret X hq dX0_letLack_25 hf
def fX0_letLack (v0 : Nat) (v1 : Int32) (v2 : Int32) (σ : Mem) : Option (Int32 × Mem) := fX0_letLack_e v0 v1 v2 σ
theorem kX0_letLack (l : Launch) (v0 : Nat) (v1 : Int32) (v2 : Int32) (hv0 : ki v0 = 3) (σ : Mem) : KV l yX0_letLack wsX0_letLack rmX0_letLack (fun ad => [.ref (ad v0), .int v1, .int v2]) σ (fX0_letLack v0 v1 v2 σ) := fun r hr => kt_of (by decide +kernel) rfl (fun _ => Nat.le_of_ble_eq_true rfl) (fun C X hne hq => tX0_letLack_e X hq v0 v1 v2 hv0 σ hr)
/-! ### X0_open -/
abbrev rmX0_open : Room := { frames := 0, cells := 0, slots := 0, locals := 8 }
theorem infX0_open_X0 : ∀ w ∈ u_ws RX0 TX0 15, w ∈ wsX0_open := by decide +kernel
def fX0_open_49 (v0 : Nat) (v1 : Int32) (v2 : Int32) (s0 : Int32) (s1 : Int32) (σ : Mem) : Option (Int32 × Mem) :=
  grd (inb s1 25) (ltM (wI σ (v0 + 4) (ix s1) s0) fun σ1 =>
  grd (inb v1 25) (ltM (wI σ1 (v0 + 5) (ix v1) v2) fun σ2 =>
  grd (inb v1 25) (ltM (wJ σ2 (v0 + 6) (ix v1) ((v2.toInt64 <<< ((25 : Int32).toInt64 &&& 63)) - ((1 : Int64) <<< (((24 : Int32) - v1).toInt64 &&& 63)))) fun σ3 =>
  some ((0 : Int32), σ3))))
set_option maxHeartbeats 4000000 in
set_option maxRecDepth 100000 in
theorem tX0_open_49 {C : Ctx} (X : CX C cX0_open 4 RX0 wsX0_open rmX0_open none) {r : Int32 × Mem} (hq : QV C r) (v0 : Nat) (v1 : Int32) (v2 : Int32) (s0 : Int32) (s1 : Int32) (hv0 : ki v0 = 3) (σ : Mem) (hf : fX0_open_49 v0 v1 v2 s0 s1 σ = some r) : G C 4 0 0 49 [(0, .ref (adr C v0)), (1, .int v1), (2, .int v2)] [.int s0, .int s1, .ref (adr C (v0 + 4))] σ := by
  unfold fX0_open_49 at hf
  refine s_iast (q := v0 + 4) (n := 25) X (pk4 hv0) (pl4 hv0) dX0_open_49 hf (fun σ1 hf => ?_)
  refine g_aload_n X dX0_open_50 0 rfl rfl ?_
  refine g_get (q := v0) (kf := 6) (v := .ref (adr C (v0 + 5))) X (obj_p hv0) rfl infX0_open_X0 (by decide) (by decide +kernel) rfl dX0_open_51 ?_
  refine g_iload_n X dX0_open_54 1 rfl rfl ?_
  refine g_iload_n X dX0_open_55 2 rfl rfl ?_
  refine s_iast (q := v0 + 5) (n := 25) X (pk5 hv0) (pl5 hv0) dX0_open_56 hf (fun σ2 hf => ?_)
  refine g_aload_n X dX0_open_57 0 rfl rfl ?_
  refine g_get (q := v0) (kf := 7) (v := .ref (adr C (v0 + 6))) X (obj_p hv0) rfl infX0_open_X0 (by decide) (by decide +kernel) rfl dX0_open_58 ?_
  refine g_iload_n X dX0_open_61 1 rfl rfl ?_
  refine g_iload_n X dX0_open_62 2 rfl rfl ?_
  refine g_i2l X dX0_open_63 ?_
  refine g_bipush (v := (25 : Int32)) X dX0_open_64 (by decide) ?_
  refine g_lshl X dX0_open_66 ?_
  refine g_lconst (v := (1 : Int64)) X dX0_open_67 (by decide) ?_
  refine g_bipush (v := (24 : Int32)) X dX0_open_68 (by decide) ?_
  refine g_iload_n X dX0_open_70 1 rfl rfl ?_
  refine g_isub X dX0_open_71 ?_
  refine g_lshl X dX0_open_72 ?_
  refine g_lsub X dX0_open_73 ?_
  refine s_last (q := v0 + 6) (n := 25) X (pk6 hv0) (pl6 hv0) dX0_open_74 hf (fun σ3 hf => ?_)
  exact r_vret X hq dX0_open_75 hf
def fX0_open_33 (v0 : Nat) (v1 : Int32) (v2 : Int32) (v3 : Int32) (σ : Mem) : Option (Int32 × Mem) :=
  if v3 = (-1 : Int32) then (fX0_open_49 v0 v1 v2 (20 : Int32) v1 σ)
  else (fX0_open_49 v0 v1 v2 v3 v1 σ)
set_option maxHeartbeats 4000000 in
set_option maxRecDepth 100000 in
theorem tX0_open_33 {C : Ctx} (X : CX C cX0_open 4 RX0 wsX0_open rmX0_open none) {r : Int32 × Mem} (hq : QV C r) (v0 : Nat) (v1 : Int32) (v2 : Int32) (v3 : Int32) (hv0 : ki v0 = 3) (σ : Mem) (hf : fX0_open_33 v0 v1 v2 v3 σ = some r) : G C 4 0 0 33 [(0, .ref (adr C v0)), (1, .int v1), (2, .int v2), (3, .int v3)] [] σ := by
  unfold fX0_open_33 at hf
  refine g_aload_n X dX0_open_33 0 rfl rfl ?_
  refine g_get (q := v0) (kf := 3) (v := .ref (adr C (v0 + 4))) X (obj_p hv0) rfl infX0_open_X0 (by decide) (by decide +kernel) rfl dX0_open_34 ?_
  refine g_iload_n X dX0_open_37 1 rfl rfl ?_
  refine g_iload_n X dX0_open_38 3 rfl rfl ?_
  refine g_iconst (v := (-1 : Int32)) X dX0_open_39 (by decide) ?_
  refine g_icmp_ne (tgt := 48) X dX0_open_40 (by decide) hf (fun hf => ?_) (fun hf => ?_)
  · refine g_iload_n X dX0_open_48 3 rfl rfl ?_
    refine g_sub [0, 1, 2] (L' := [(0, .ref (adr C v0)), (1, .int v1), (2, .int v2)]) rfl ?_
    exact tX0_open_49 X hq v0 v1 v2 v3 v1 hv0 σ hf
  · refine g_bipush (v := (20 : Int32)) X dX0_open_43 (by decide) ?_
    refine g_goto (tgt := 49) X dX0_open_45 (by decide) ?_
    refine g_sub [0, 1, 2] (L' := [(0, .ref (adr C v0)), (1, .int v1), (2, .int v2)]) rfl ?_
    exact tX0_open_49 X hq v0 v1 v2 (20 : Int32) v1 hv0 σ hf
def fX0_open_e (v0 : Nat) (v1 : Int32) (v2 : Int32) (v3 : Int32) (σ : Mem) : Option (Int32 × Mem) :=
  if v3 = 0 then (fX0_open_33 v0 v1 v2 v3 σ)
  else (if (25 : Int32) ≤ (rI σ v0 12) then (fX0_open_33 v0 v1 v2 v3 σ)
  else (grd (inb (rI σ v0 12) 25) (ltM (wI σ (34 + v0 / 12) (ix (rI σ v0 12)) v1) fun σ1 =>
  ltM (wI σ1 v0 12 ((rI σ1 v0 12) + (1 : Int32))) fun σ2 =>
  fX0_open_33 v0 v1 v2 v3 σ2)))
set_option maxHeartbeats 4000000 in
set_option maxRecDepth 100000 in
theorem tX0_open_e {C : Ctx} (X : CX C cX0_open 4 RX0 wsX0_open rmX0_open none) {r : Int32 × Mem} (hq : QV C r) (v0 : Nat) (v1 : Int32) (v2 : Int32) (v3 : Int32) (hv0 : ki v0 = 3) (σ : Mem) (hf : fX0_open_e v0 v1 v2 v3 σ = some r) : G C 4 0 0 0 [(0, .ref (adr C v0)), (1, .int v1), (2, .int v2), (3, .int v3)] [] σ := by
  unfold fX0_open_e at hf
  refine g_iload_n X dX0_open_0 3 rfl rfl ?_
  refine g_if_eq (tgt := 33) X dX0_open_1 (by decide) hf (fun hf => ?_) (fun hf => ?_)
  · exact tX0_open_33 X hq v0 v1 v2 v3 hv0 σ hf
  · refine g_aload_n X dX0_open_4 0 rfl rfl ?_
    refine g_get (q := v0) (kf := 12) (v := .int (rI σ v0 12)) X (obj_p hv0) rfl infX0_open_X0 (by decide) (by decide +kernel) rfl dX0_open_5 ?_
    refine g_bipush (v := (25 : Int32)) X dX0_open_8 (by decide) ?_
    refine g_icmp_ge (tgt := 33) X dX0_open_10 (by decide) hf (fun hf => ?_) (fun hf => ?_)
    · exact tX0_open_33 X hq v0 v1 v2 v3 hv0 σ hf
    · refine g_aload_n X dX0_open_13 0 rfl rfl ?_
      refine g_get (q := v0) (kf := 5) (v := .ref (adr C (34 + v0 / 12))) X (obj_p hv0) rfl infX0_open_X0 (by decide) (by decide +kernel) rfl dX0_open_14 ?_
      refine g_aload_n X dX0_open_17 0 rfl rfl ?_
      refine g_get (q := v0) (kf := 12) (v := .int (rI σ v0 12)) X (obj_p hv0) rfl infX0_open_X0 (by decide) (by decide +kernel) rfl dX0_open_18 ?_
      refine g_iload_n X dX0_open_21 1 rfl rfl ?_
      refine s_iast (q := 34 + v0 / 12) (n := 25) X (pk11 hv0) (pl11 hv0) dX0_open_22 hf (fun σ1 hf => ?_)
      refine g_aload_n X dX0_open_23 0 rfl rfl ?_
      refine g_dup X dX0_open_24 rfl ?_
      refine g_get (q := v0) (kf := 12) (v := .int (rI σ1 v0 12)) X (obj_p hv0) rfl infX0_open_X0 (by decide) (by decide +kernel) rfl dX0_open_25 ?_
      refine g_iconst (v := (1 : Int32)) X dX0_open_28 (by decide) ?_
      refine g_iadd X dX0_open_29 ?_
      refine s_put (q := v0) (kf := 12) X (obj_p hv0) rfl infX0_open_X0 tyX0_ok nmX0 (by decide) (by decide +kernel) rfl rfl rfl rfl (fun _ _ => rfl) (fun _ _ => Nat.le_of_ble_eq_true rfl) dX0_open_30 hf (fun σ2 hf => ?_)
      exact tX0_open_33 X hq v0 v1 v2 v3 hv0 σ2 hf
def fX0_open (v0 : Nat) (v1 : Int32) (v2 : Int32) (v3 : Int32) (σ : Mem) : Option (Int32 × Mem) := fX0_open_e v0 v1 v2 v3 σ
theorem kX0_open (l : Launch) (v0 : Nat) (v1 : Int32) (v2 : Int32) (v3 : Int32) (hv0 : ki v0 = 3) (σ : Mem) : KV l yX0_open wsX0_open rmX0_open (fun ad => [.ref (ad v0), .int v1, .int v2, .int v3]) σ (fX0_open v0 v1 v2 v3 σ) := fun r hr => kt_of (by decide +kernel) rfl (fun _ => Nat.le_of_ble_eq_true rfl) (fun C X hne hq => tX0_open_e X hq v0 v1 v2 v3 hv0 σ hr)
/-! ### X0_reachHoles -/
abbrev rmX0_reachHoles : Room := { frames := 0, cells := 0, slots := 0, locals := 8 }
theorem infX0_reachHoles_X0 : ∀ w ∈ u_ws RX0 TX0 15, w ∈ wsX0_reachHoles := by decide +kernel
def fX0_reachHoles_100 (r2 : Nat → Int32 → Mem → Option (Int32 × Mem)) (v0 : Nat) (v1 : Int32) (σ : Mem) : Option (Int32 × Mem) :=
  r2 v0 (v1 + 1) σ
set_option maxHeartbeats 4000000 in
set_option maxRecDepth 100000 in
theorem tX0_reachHoles_100 {C : Ctx} (X : CX C cX0_reachHoles 5 RX0 wsX0_reachHoles rmX0_reachHoles none) {r : Int32 × Mem} (hq : QV C r) (r2 : Nat → Int32 → Mem → Option (Int32 × Mem)) (ih2 : ∀ (v0 : Nat) (v1 : Int32) (σ : Mem), ki v0 = 3 → r2 v0 v1 σ = some r → G C 5 0 0 2 [(0, .ref (adr C v0)), (1, .int v1)] [] σ) (v0 : Nat) (v1 : Int32) (hv0 : ki v0 = 3) (σ : Mem) (hf : fX0_reachHoles_100 r2 v0 v1 σ = some r) : G C 5 0 0 100 [(0, .ref (adr C v0)), (1, .int v1)] [] σ := by
  unfold fX0_reachHoles_100 at hf
  refine g_iinc (v := (v1 + 1)) (L' := [(1, .int (v1 + 1)), (0, .ref (adr C v0))]) X dX0_reachHoles_100 1 rfl rfl (by decide) rfl ?_
  refine g_goto (tgt := 2) X dX0_reachHoles_103 (by decide) ?_
  refine g_sub [1, 0] (L' := [(0, .ref (adr C v0)), (1, .int (v1 + 1))]) rfl ?_
  exact ih2 v0 (v1 + 1) σ hv0 hf
def fX0_reachHoles_2b (r2 : Nat → Int32 → Mem → Option (Int32 × Mem)) (v0 : Nat) (v1 : Int32) (σ : Mem) : Option (Int32 × Mem) :=
  if (rI σ v0 12) ≤ v1 then (some ((0 : Int32), σ))
  else (grd (inb v1 25) (ltI (rI σ (34 + v0 / 12) (ix v1)) fun x1 =>
  ltI (x1 / (5 : Int32)) fun x2 =>
  ltI (x1 - x1 / (5 : Int32) * (5 : Int32)) fun x3 =>
  grd (inb x1 25) (if (rI σ (v0 + 4) (ix x1)) ≤ 0 then (fX0_reachHoles_100 r2 v0 v1 σ)
  else (grd (inb x2 5) (if 0 ≤ (lg_cmp (rJ σ (v0 + 7) (ix x2)) (1152921504606846976 : Int64)) then (fX0_reachHoles_100 r2 v0 v1 σ)
  else (grd (inb x2 5) (grd (inb x1 25) (grd (inb x3 5) (if 0 ≤ (lg_cmp ((rJ σ (v0 + 7) (ix x2)) + (rJ σ (v0 + 6) (ix x1))) (rJ σ (v0 + 8) (ix x3))) then (fX0_reachHoles_100 r2 v0 v1 σ)
  else (grd (inb x2 5) (grd (inb x1 25) (grd (inb x3 5) (ltM (wJ σ (v0 + 8) (ix x3) ((rJ σ (v0 + 7) (ix x2)) + (rJ σ (v0 + 6) (ix x1)))) fun σ4 =>
  grd (inb x3 5) (ltM (wI σ4 (v0 + 10) (ix x3) x2) fun σ5 =>
  fX0_reachHoles_100 r2 v0 v1 σ5))))))))))))))
def fX0_reachHoles_2 : Nat → Nat → Int32 → Mem → Option (Int32 × Mem)
  | 0 => fun _ _ _ => none
  | n + 1 => fX0_reachHoles_2b (fX0_reachHoles_2 n)
set_option maxHeartbeats 4000000 in
set_option maxRecDepth 100000 in
theorem tX0_reachHoles_2b {C : Ctx} (X : CX C cX0_reachHoles 5 RX0 wsX0_reachHoles rmX0_reachHoles none) {r : Int32 × Mem} (hq : QV C r) (r2 : Nat → Int32 → Mem → Option (Int32 × Mem)) (ih2 : ∀ (v0 : Nat) (v1 : Int32) (σ : Mem), ki v0 = 3 → r2 v0 v1 σ = some r → G C 5 0 0 2 [(0, .ref (adr C v0)), (1, .int v1)] [] σ) (v0 : Nat) (v1 : Int32) (hv0 : ki v0 = 3) (σ : Mem) (hf : fX0_reachHoles_2b r2 v0 v1 σ = some r) : G C 5 0 0 2 [(0, .ref (adr C v0)), (1, .int v1)] [] σ := by
  unfold fX0_reachHoles_2b at hf
  refine g_iload_n X dX0_reachHoles_2 1 rfl rfl ?_
  refine g_aload_n X dX0_reachHoles_3 0 rfl rfl ?_
  refine g_get (q := v0) (kf := 12) (v := .int (rI σ v0 12)) X (obj_p hv0) rfl infX0_reachHoles_X0 (by decide) (by decide +kernel) rfl dX0_reachHoles_4 ?_
  refine g_icmp_ge (tgt := 106) X dX0_reachHoles_7 (by decide) hf (fun hf => ?_) (fun hf => ?_)
  · exact r_vret X hq dX0_reachHoles_106 hf
  · refine g_aload_n X dX0_reachHoles_10 0 rfl rfl ?_
    refine g_get (q := v0) (kf := 5) (v := .ref (adr C (34 + v0 / 12))) X (obj_p hv0) rfl infX0_reachHoles_X0 (by decide) (by decide +kernel) rfl dX0_reachHoles_11 ?_
    refine g_iload_n X dX0_reachHoles_14 1 rfl rfl ?_
    refine g_iald (q := 34 + v0 / 12) (n := 25) X (pk11 hv0) (pl11 hv0) dX0_reachHoles_15 hf (fun hf => ?_)
    refine s_istore_n (M := fun x1 => [(2, .int x1), (0, .ref (adr C v0)), (1, .int v1)]) X dX0_reachHoles_16 rfl (by decide) (fun _ => rfl) hf (fun x1 hf => ?_)
    refine g_iload_n X dX0_reachHoles_17 0 rfl rfl ?_
    refine g_iconst (v := (5 : Int32)) X dX0_reachHoles_18 (by decide) ?_
    refine g_idivC X dX0_reachHoles_19 (by decide) ?_
    refine s_istore_n (M := fun x2 => [(3, .int x2), (2, .int x1), (0, .ref (adr C v0)), (1, .int v1)]) X dX0_reachHoles_20 rfl (by decide) (fun _ => rfl) hf (fun x2 hf => ?_)
    refine g_iload_n X dX0_reachHoles_21 1 rfl rfl ?_
    refine g_iconst (v := (5 : Int32)) X dX0_reachHoles_22 (by decide) ?_
    refine g_iremC X dX0_reachHoles_23 (by decide) ?_
    refine s_istore (M := fun x3 => [(4, .int x3), (3, .int x2), (2, .int x1), (0, .ref (adr C v0)), (1, .int v1)]) X dX0_reachHoles_24 (by decide) (fun _ => rfl) hf (fun x3 hf => ?_)
    refine g_aload_n X dX0_reachHoles_26 3 rfl rfl ?_
    refine g_get (q := v0) (kf := 3) (v := .ref (adr C (v0 + 4))) X (obj_p hv0) rfl infX0_reachHoles_X0 (by decide) (by decide +kernel) rfl dX0_reachHoles_27 ?_
    refine g_iload_n X dX0_reachHoles_30 2 rfl rfl ?_
    refine g_iald (q := v0 + 4) (n := 25) X (pk4 hv0) (pl4 hv0) dX0_reachHoles_31 hf (fun hf => ?_)
    refine g_if_le (tgt := 100) X dX0_reachHoles_32 (by decide) hf (fun hf => ?_) (fun hf => ?_)
    · refine g_sub [3, 4] (L' := [(0, .ref (adr C v0)), (1, .int v1)]) rfl ?_
      exact tX0_reachHoles_100 X hq r2 ih2 v0 v1 hv0 σ hf
    · refine g_aload_n X dX0_reachHoles_35 3 rfl rfl ?_
      refine g_get (q := v0) (kf := 8) (v := .ref (adr C (v0 + 7))) X (obj_p hv0) rfl infX0_reachHoles_X0 (by decide) (by decide +kernel) rfl dX0_reachHoles_36 ?_
      refine g_iload_n X dX0_reachHoles_39 1 rfl rfl ?_
      refine g_lald (q := v0 + 7) (n := 5) X (pk7 hv0) (pl7 hv0) dX0_reachHoles_40 hf (fun hf => ?_)
      refine g_ldc2 (v := (1152921504606846976 : Int64)) X (by decide +kernel) dX0_reachHoles_41 ?_
      refine g_lcmp X dX0_reachHoles_44 ?_
      refine g_if_ge (tgt := 100) X dX0_reachHoles_45 (by decide) hf (fun hf => ?_) (fun hf => ?_)
      · refine g_sub [3, 4] (L' := [(0, .ref (adr C v0)), (1, .int v1)]) rfl ?_
        exact tX0_reachHoles_100 X hq r2 ih2 v0 v1 hv0 σ hf
      · refine g_aload_n X dX0_reachHoles_48 3 rfl rfl ?_
        refine g_get (q := v0) (kf := 8) (v := .ref (adr C (v0 + 7))) X (obj_p hv0) rfl infX0_reachHoles_X0 (by decide) (by decide +kernel) rfl dX0_reachHoles_49 ?_
        refine g_iload_n X dX0_reachHoles_52 1 rfl rfl ?_
        refine g_lald (q := v0 + 7) (n := 5) X (pk7 hv0) (pl7 hv0) dX0_reachHoles_53 hf (fun hf => ?_)
        refine g_aload_n X dX0_reachHoles_54 3 rfl rfl ?_
        refine g_get (q := v0) (kf := 7) (v := .ref (adr C (v0 + 6))) X (obj_p hv0) rfl infX0_reachHoles_X0 (by decide) (by decide +kernel) rfl dX0_reachHoles_55 ?_
        refine g_iload_n X dX0_reachHoles_58 2 rfl rfl ?_
        refine g_lald (q := v0 + 6) (n := 25) X (pk6 hv0) (pl6 hv0) dX0_reachHoles_59 hf (fun hf => ?_)
        refine g_ladd X dX0_reachHoles_60 ?_
        refine g_aload_n X dX0_reachHoles_61 3 rfl rfl ?_
        refine g_get (q := v0) (kf := 9) (v := .ref (adr C (v0 + 8))) X (obj_p hv0) rfl infX0_reachHoles_X0 (by decide) (by decide +kernel) rfl dX0_reachHoles_62 ?_
        refine g_iload X dX0_reachHoles_65 0 rfl ?_
        refine g_lald (q := v0 + 8) (n := 5) X (pk8 hv0) (pl8 hv0) dX0_reachHoles_67 hf (fun hf => ?_)
        refine g_lcmp X dX0_reachHoles_68 ?_
        refine g_if_ge (tgt := 100) X dX0_reachHoles_69 (by decide) hf (fun hf => ?_) (fun hf => ?_)
        · refine g_sub [3, 4] (L' := [(0, .ref (adr C v0)), (1, .int v1)]) rfl ?_
          exact tX0_reachHoles_100 X hq r2 ih2 v0 v1 hv0 σ hf
        · refine g_aload_n X dX0_reachHoles_72 3 rfl rfl ?_
          refine g_get (q := v0) (kf := 9) (v := .ref (adr C (v0 + 8))) X (obj_p hv0) rfl infX0_reachHoles_X0 (by decide) (by decide +kernel) rfl dX0_reachHoles_73 ?_
          refine g_iload X dX0_reachHoles_76 0 rfl ?_
          refine g_aload_n X dX0_reachHoles_78 3 rfl rfl ?_
          refine g_get (q := v0) (kf := 8) (v := .ref (adr C (v0 + 7))) X (obj_p hv0) rfl infX0_reachHoles_X0 (by decide) (by decide +kernel) rfl dX0_reachHoles_79 ?_
          refine g_iload_n X dX0_reachHoles_82 1 rfl rfl ?_
          refine g_lald (q := v0 + 7) (n := 5) X (pk7 hv0) (pl7 hv0) dX0_reachHoles_83 hf (fun hf => ?_)
          refine g_aload_n X dX0_reachHoles_84 3 rfl rfl ?_
          refine g_get (q := v0) (kf := 7) (v := .ref (adr C (v0 + 6))) X (obj_p hv0) rfl infX0_reachHoles_X0 (by decide) (by decide +kernel) rfl dX0_reachHoles_85 ?_
          refine g_iload_n X dX0_reachHoles_88 2 rfl rfl ?_
          refine g_lald (q := v0 + 6) (n := 25) X (pk6 hv0) (pl6 hv0) dX0_reachHoles_89 hf (fun hf => ?_)
          refine g_ladd X dX0_reachHoles_90 ?_
          refine s_last (q := v0 + 8) (n := 5) X (pk8 hv0) (pl8 hv0) dX0_reachHoles_91 hf (fun σ4 hf => ?_)
          refine g_aload_n X dX0_reachHoles_92 3 rfl rfl ?_
          refine g_get (q := v0) (kf := 11) (v := .ref (adr C (v0 + 10))) X (obj_p hv0) rfl infX0_reachHoles_X0 (by decide) (by decide +kernel) rfl dX0_reachHoles_93 ?_
          refine g_iload X dX0_reachHoles_96 0 rfl ?_
          refine g_iload_n X dX0_reachHoles_98 1 rfl rfl ?_
          refine s_iast (q := v0 + 10) (n := 5) X (pk10 hv0) (pl10 hv0) dX0_reachHoles_99 hf (fun σ5 hf => ?_)
          refine g_sub [3, 4] (L' := [(0, .ref (adr C v0)), (1, .int v1)]) rfl ?_
          exact tX0_reachHoles_100 X hq r2 ih2 v0 v1 hv0 σ5 hf
set_option maxHeartbeats 4000000 in
set_option maxRecDepth 100000 in
theorem tX0_reachHoles_2 {C : Ctx} (X : CX C cX0_reachHoles 5 RX0 wsX0_reachHoles rmX0_reachHoles none) {r : Int32 × Mem} (hq : QV C r) : ∀ (n : Nat) (v0 : Nat) (v1 : Int32) (hv0 : ki v0 = 3) (σ : Mem) (hf : fX0_reachHoles_2 n v0 v1 σ = some r), G C 5 0 0 2 [(0, .ref (adr C v0)), (1, .int v1)] [] σ := by
  intro n
  induction n with
  | zero => intros; rename_i hf; exact absurd (show (none : Option (Int32 × Mem)) = some r from hf) (by simp)
  | succ n ih =>
    intro v0 v1 hv0 σ hf
    exact tX0_reachHoles_2b X hq (fX0_reachHoles_2 n) (fun v0 v1 σ hv0 hf => ih v0 v1 hv0 σ hf) v0 v1 hv0 σ hf
def fX0_reachHoles_e (v0 : Nat) (σ : Mem) : Option (Int32 × Mem) :=
  fX0_reachHoles_2 FU v0 (0 : Int32) σ
set_option maxHeartbeats 4000000 in
set_option maxRecDepth 100000 in
theorem tX0_reachHoles_e {C : Ctx} (X : CX C cX0_reachHoles 5 RX0 wsX0_reachHoles rmX0_reachHoles none) {r : Int32 × Mem} (hq : QV C r) (v0 : Nat) (hv0 : ki v0 = 3) (σ : Mem) (hf : fX0_reachHoles_e v0 σ = some r) : G C 5 0 0 0 [(0, .ref (adr C v0))] [] σ := by
  unfold fX0_reachHoles_e at hf
  refine g_iconst (v := (0 : Int32)) X dX0_reachHoles_0 (by decide) ?_
  refine g_istore_n (L' := [(1, .int (0 : Int32)), (0, .ref (adr C v0))]) X dX0_reachHoles_1 rfl (by decide) rfl ?_
  refine g_sub [1, 0] (L' := [(0, .ref (adr C v0)), (1, .int (0 : Int32))]) rfl ?_
  exact tX0_reachHoles_2 X hq FU v0 (0 : Int32) hv0 σ hf
def fX0_reachHoles (v0 : Nat) (σ : Mem) : Option (Int32 × Mem) := fX0_reachHoles_e v0 σ
theorem kX0_reachHoles (l : Launch) (v0 : Nat) (hv0 : ki v0 = 3) (σ : Mem) : KV l yX0_reachHoles wsX0_reachHoles rmX0_reachHoles (fun ad => [.ref (ad v0)]) σ (fX0_reachHoles v0 σ) := fun r hr => kt_of (by decide +kernel) rfl (fun _ => Nat.le_of_ble_eq_true rfl) (fun C X hne hq => tX0_reachHoles_e X hq v0 hv0 σ hr)
/-! ### X0_reachHeaps -/
abbrev rmX0_reachHeaps : Room := { frames := 0, cells := 0, slots := 0, locals := 8 }
theorem infX0_reachHeaps_X0 : ∀ w ∈ u_ws RX0 TX0 15, w ∈ wsX0_reachHeaps := by decide +kernel
def fX0_reachHeaps_109 (r4 : Nat → Int32 → Int32 → Mem → Option (Int32 × Mem)) (v0 : Nat) (v1 : Int32) (v2 : Int32) (σ : Mem) : Option (Int32 × Mem) :=
  r4 v0 v1 (v2 + 1) σ
set_option maxHeartbeats 4000000 in
set_option maxRecDepth 100000 in
theorem tX0_reachHeaps_109 {C : Ctx} (X : CX C cX0_reachHeaps 6 RX0 wsX0_reachHeaps rmX0_reachHeaps (some .boolean)) {r : Int32 × Mem} (hq : QI C r) (r4 : Nat → Int32 → Int32 → Mem → Option (Int32 × Mem)) (ih4 : ∀ (v0 : Nat) (v1 : Int32) (v2 : Int32) (σ : Mem), ki v0 = 3 → r4 v0 v1 v2 σ = some r → G C 6 0 0 4 [(0, .ref (adr C v0)), (1, .int v1), (2, .int v2)] [] σ) (v0 : Nat) (v1 : Int32) (v2 : Int32) (hv0 : ki v0 = 3) (σ : Mem) (hf : fX0_reachHeaps_109 r4 v0 v1 v2 σ = some r) : G C 6 0 0 109 [(0, .ref (adr C v0)), (1, .int v1), (2, .int v2)] [] σ := by
  unfold fX0_reachHeaps_109 at hf
  refine g_iinc (v := (v2 + 1)) (L' := [(2, .int (v2 + 1)), (0, .ref (adr C v0)), (1, .int v1)]) X dX0_reachHeaps_109 2 rfl rfl (by decide) rfl ?_
  refine g_goto (tgt := 4) X dX0_reachHeaps_112 (by decide) ?_
  refine g_sub [1, 2, 0] (L' := [(0, .ref (adr C v0)), (1, .int v1), (2, .int (v2 + 1))]) rfl ?_
  exact ih4 v0 v1 (v2 + 1) σ hv0 hf
def fX0_reachHeaps_4b (r4 : Nat → Int32 → Int32 → Mem → Option (Int32 × Mem)) (v0 : Nat) (v1 : Int32) (v2 : Int32) (σ : Mem) : Option (Int32 × Mem) :=
  if (rI σ v0 12) ≤ v2 then (grd (decide (v1 = 0 ∨ v1 = 1)) (some (v1, σ)))
  else (grd (inb v2 25) (ltI (rI σ (34 + v0 / 12) (ix v2)) fun x1 =>
  ltI (x1 / (5 : Int32)) fun x2 =>
  ltI (x1 - x1 / (5 : Int32) * (5 : Int32)) fun x3 =>
  grd (inb x1 25) (if (rI σ (v0 + 3) (ix x1)) ≤ 0 then (fX0_reachHeaps_109 r4 v0 v1 v2 σ)
  else (grd (inb x3 5) (if 0 ≤ (lg_cmp (rJ σ (v0 + 8) (ix x3)) (1152921504606846976 : Int64)) then (fX0_reachHeaps_109 r4 v0 v1 v2 σ)
  else (grd (inb x3 5) (grd (inb x1 25) (grd (inb x2 5) (if 0 ≤ (lg_cmp ((rJ σ (v0 + 8) (ix x3)) - (rJ σ (v0 + 6) (ix x1))) (rJ σ (v0 + 7) (ix x2))) then (fX0_reachHeaps_109 r4 v0 v1 v2 σ)
  else (grd (inb x3 5) (grd (inb x1 25) (grd (inb x2 5) (ltM (wJ σ (v0 + 7) (ix x2) ((rJ σ (v0 + 8) (ix x3)) - (rJ σ (v0 + 6) (ix x1)))) fun σ4 =>
  grd (inb x2 5) (ltM (wI σ4 (v0 + 9) (ix x2) x3) fun σ5 =>
  fX0_reachHeaps_109 r4 v0 (1 : Int32) v2 σ5))))))))))))))
def fX0_reachHeaps_4 : Nat → Nat → Int32 → Int32 → Mem → Option (Int32 × Mem)
  | 0 => fun _ _ _ _ => none
  | n + 1 => fX0_reachHeaps_4b (fX0_reachHeaps_4 n)
set_option maxHeartbeats 4000000 in
set_option maxRecDepth 100000 in
theorem tX0_reachHeaps_4b {C : Ctx} (X : CX C cX0_reachHeaps 6 RX0 wsX0_reachHeaps rmX0_reachHeaps (some .boolean)) {r : Int32 × Mem} (hq : QI C r) (r4 : Nat → Int32 → Int32 → Mem → Option (Int32 × Mem)) (ih4 : ∀ (v0 : Nat) (v1 : Int32) (v2 : Int32) (σ : Mem), ki v0 = 3 → r4 v0 v1 v2 σ = some r → G C 6 0 0 4 [(0, .ref (adr C v0)), (1, .int v1), (2, .int v2)] [] σ) (v0 : Nat) (v1 : Int32) (v2 : Int32) (hv0 : ki v0 = 3) (σ : Mem) (hf : fX0_reachHeaps_4b r4 v0 v1 v2 σ = some r) : G C 6 0 0 4 [(0, .ref (adr C v0)), (1, .int v1), (2, .int v2)] [] σ := by
  unfold fX0_reachHeaps_4b at hf
  refine g_iload_n X dX0_reachHeaps_4 2 rfl rfl ?_
  refine g_aload_n X dX0_reachHeaps_5 0 rfl rfl ?_
  refine g_get (q := v0) (kf := 12) (v := .int (rI σ v0 12)) X (obj_p hv0) rfl infX0_reachHeaps_X0 (by decide) (by decide +kernel) rfl dX0_reachHeaps_6 ?_
  refine g_icmp_ge (tgt := 115) X dX0_reachHeaps_9 (by decide) hf (fun hf => ?_) (fun hf => ?_)
  · refine g_iload_n X dX0_reachHeaps_115 1 rfl rfl ?_
    exact r_zret X hq dX0_reachHeaps_116 hf
  · refine g_aload_n X dX0_reachHeaps_12 0 rfl rfl ?_
    refine g_get (q := v0) (kf := 5) (v := .ref (adr C (34 + v0 / 12))) X (obj_p hv0) rfl infX0_reachHeaps_X0 (by decide) (by decide +kernel) rfl dX0_reachHeaps_13 ?_
    refine g_iload_n X dX0_reachHeaps_16 2 rfl rfl ?_
    refine g_iald (q := 34 + v0 / 12) (n := 25) X (pk11 hv0) (pl11 hv0) dX0_reachHeaps_17 hf (fun hf => ?_)
    refine s_istore_n (M := fun x1 => [(3, .int x1), (0, .ref (adr C v0)), (1, .int v1), (2, .int v2)]) X dX0_reachHeaps_18 rfl (by decide) (fun _ => rfl) hf (fun x1 hf => ?_)
    refine g_iload_n X dX0_reachHeaps_19 0 rfl rfl ?_
    refine g_iconst (v := (5 : Int32)) X dX0_reachHeaps_20 (by decide) ?_
    refine g_idivC X dX0_reachHeaps_21 (by decide) ?_
    refine s_istore (M := fun x2 => [(4, .int x2), (3, .int x1), (0, .ref (adr C v0)), (1, .int v1), (2, .int v2)]) X dX0_reachHeaps_22 (by decide) (fun _ => rfl) hf (fun x2 hf => ?_)
    refine g_iload_n X dX0_reachHeaps_24 1 rfl rfl ?_
    refine g_iconst (v := (5 : Int32)) X dX0_reachHeaps_25 (by decide) ?_
    refine g_iremC X dX0_reachHeaps_26 (by decide) ?_
    refine s_istore (M := fun x3 => [(5, .int x3), (4, .int x2), (3, .int x1), (0, .ref (adr C v0)), (1, .int v1), (2, .int v2)]) X dX0_reachHeaps_27 (by decide) (fun _ => rfl) hf (fun x3 hf => ?_)
    refine g_aload_n X dX0_reachHeaps_29 3 rfl rfl ?_
    refine g_get (q := v0) (kf := 2) (v := .ref (adr C (v0 + 3))) X (obj_p hv0) rfl infX0_reachHeaps_X0 (by decide) (by decide +kernel) rfl dX0_reachHeaps_30 ?_
    refine g_iload_n X dX0_reachHeaps_33 2 rfl rfl ?_
    refine g_iald (q := v0 + 3) (n := 25) X (pk3 hv0) (pl3 hv0) dX0_reachHeaps_34 hf (fun hf => ?_)
    refine g_if_le (tgt := 109) X dX0_reachHeaps_35 (by decide) hf (fun hf => ?_) (fun hf => ?_)
    · refine g_sub [3, 4, 5] (L' := [(0, .ref (adr C v0)), (1, .int v1), (2, .int v2)]) rfl ?_
      exact tX0_reachHeaps_109 X hq r4 ih4 v0 v1 v2 hv0 σ hf
    · refine g_aload_n X dX0_reachHeaps_38 3 rfl rfl ?_
      refine g_get (q := v0) (kf := 9) (v := .ref (adr C (v0 + 8))) X (obj_p hv0) rfl infX0_reachHeaps_X0 (by decide) (by decide +kernel) rfl dX0_reachHeaps_39 ?_
      refine g_iload X dX0_reachHeaps_42 0 rfl ?_
      refine g_lald (q := v0 + 8) (n := 5) X (pk8 hv0) (pl8 hv0) dX0_reachHeaps_44 hf (fun hf => ?_)
      refine g_ldc2 (v := (1152921504606846976 : Int64)) X (by decide +kernel) dX0_reachHeaps_45 ?_
      refine g_lcmp X dX0_reachHeaps_48 ?_
      refine g_if_ge (tgt := 109) X dX0_reachHeaps_49 (by decide) hf (fun hf => ?_) (fun hf => ?_)
      · refine g_sub [3, 4, 5] (L' := [(0, .ref (adr C v0)), (1, .int v1), (2, .int v2)]) rfl ?_
        exact tX0_reachHeaps_109 X hq r4 ih4 v0 v1 v2 hv0 σ hf
      · refine g_aload_n X dX0_reachHeaps_52 3 rfl rfl ?_
        refine g_get (q := v0) (kf := 9) (v := .ref (adr C (v0 + 8))) X (obj_p hv0) rfl infX0_reachHeaps_X0 (by decide) (by decide +kernel) rfl dX0_reachHeaps_53 ?_
        refine g_iload X dX0_reachHeaps_56 0 rfl ?_
        refine g_lald (q := v0 + 8) (n := 5) X (pk8 hv0) (pl8 hv0) dX0_reachHeaps_58 hf (fun hf => ?_)
        refine g_aload_n X dX0_reachHeaps_59 3 rfl rfl ?_
        refine g_get (q := v0) (kf := 7) (v := .ref (adr C (v0 + 6))) X (obj_p hv0) rfl infX0_reachHeaps_X0 (by decide) (by decide +kernel) rfl dX0_reachHeaps_60 ?_
        refine g_iload_n X dX0_reachHeaps_63 2 rfl rfl ?_
        refine g_lald (q := v0 + 6) (n := 25) X (pk6 hv0) (pl6 hv0) dX0_reachHeaps_64 hf (fun hf => ?_)
        refine g_lsub X dX0_reachHeaps_65 ?_
        refine g_aload_n X dX0_reachHeaps_66 3 rfl rfl ?_
        refine g_get (q := v0) (kf := 8) (v := .ref (adr C (v0 + 7))) X (obj_p hv0) rfl infX0_reachHeaps_X0 (by decide) (by decide +kernel) rfl dX0_reachHeaps_67 ?_
        refine g_iload X dX0_reachHeaps_70 1 rfl ?_
        refine g_lald (q := v0 + 7) (n := 5) X (pk7 hv0) (pl7 hv0) dX0_reachHeaps_72 hf (fun hf => ?_)
        refine g_lcmp X dX0_reachHeaps_73 ?_
        refine g_if_ge (tgt := 109) X dX0_reachHeaps_74 (by decide) hf (fun hf => ?_) (fun hf => ?_)
        · refine g_sub [3, 4, 5] (L' := [(0, .ref (adr C v0)), (1, .int v1), (2, .int v2)]) rfl ?_
          exact tX0_reachHeaps_109 X hq r4 ih4 v0 v1 v2 hv0 σ hf
        · refine g_aload_n X dX0_reachHeaps_77 3 rfl rfl ?_
          refine g_get (q := v0) (kf := 8) (v := .ref (adr C (v0 + 7))) X (obj_p hv0) rfl infX0_reachHeaps_X0 (by decide) (by decide +kernel) rfl dX0_reachHeaps_78 ?_
          refine g_iload X dX0_reachHeaps_81 1 rfl ?_
          refine g_aload_n X dX0_reachHeaps_83 3 rfl rfl ?_
          refine g_get (q := v0) (kf := 9) (v := .ref (adr C (v0 + 8))) X (obj_p hv0) rfl infX0_reachHeaps_X0 (by decide) (by decide +kernel) rfl dX0_reachHeaps_84 ?_
          refine g_iload X dX0_reachHeaps_87 0 rfl ?_
          refine g_lald (q := v0 + 8) (n := 5) X (pk8 hv0) (pl8 hv0) dX0_reachHeaps_89 hf (fun hf => ?_)
          refine g_aload_n X dX0_reachHeaps_90 3 rfl rfl ?_
          refine g_get (q := v0) (kf := 7) (v := .ref (adr C (v0 + 6))) X (obj_p hv0) rfl infX0_reachHeaps_X0 (by decide) (by decide +kernel) rfl dX0_reachHeaps_91 ?_
          refine g_iload_n X dX0_reachHeaps_94 2 rfl rfl ?_
          refine g_lald (q := v0 + 6) (n := 25) X (pk6 hv0) (pl6 hv0) dX0_reachHeaps_95 hf (fun hf => ?_)
          refine g_lsub X dX0_reachHeaps_96 ?_
          refine s_last (q := v0 + 7) (n := 5) X (pk7 hv0) (pl7 hv0) dX0_reachHeaps_97 hf (fun σ4 hf => ?_)
          refine g_aload_n X dX0_reachHeaps_98 3 rfl rfl ?_
          refine g_get (q := v0) (kf := 10) (v := .ref (adr C (v0 + 9))) X (obj_p hv0) rfl infX0_reachHeaps_X0 (by decide) (by decide +kernel) rfl dX0_reachHeaps_99 ?_
          refine g_iload X dX0_reachHeaps_102 1 rfl ?_
          refine g_iload X dX0_reachHeaps_104 0 rfl ?_
          refine s_iast (q := v0 + 9) (n := 5) X (pk9 hv0) (pl9 hv0) dX0_reachHeaps_106 hf (fun σ5 hf => ?_)
          refine g_iconst (v := (1 : Int32)) X dX0_reachHeaps_107 (by decide) ?_
          refine g_istore_n (L' := [(1, .int (1 : Int32)), (5, .int x3), (4, .int x2), (3, .int x1), (0, .ref (adr C v0)), (2, .int v2)]) X dX0_reachHeaps_108 rfl (by decide) rfl ?_
          refine g_sub [4, 0, 5] (L' := [(0, .ref (adr C v0)), (1, .int (1 : Int32)), (2, .int v2)]) rfl ?_
          exact tX0_reachHeaps_109 X hq r4 ih4 v0 (1 : Int32) v2 hv0 σ5 hf
set_option maxHeartbeats 4000000 in
set_option maxRecDepth 100000 in
theorem tX0_reachHeaps_4 {C : Ctx} (X : CX C cX0_reachHeaps 6 RX0 wsX0_reachHeaps rmX0_reachHeaps (some .boolean)) {r : Int32 × Mem} (hq : QI C r) : ∀ (n : Nat) (v0 : Nat) (v1 : Int32) (v2 : Int32) (hv0 : ki v0 = 3) (σ : Mem) (hf : fX0_reachHeaps_4 n v0 v1 v2 σ = some r), G C 6 0 0 4 [(0, .ref (adr C v0)), (1, .int v1), (2, .int v2)] [] σ := by
  intro n
  induction n with
  | zero => intros; rename_i hf; exact absurd (show (none : Option (Int32 × Mem)) = some r from hf) (by simp)
  | succ n ih =>
    intro v0 v1 v2 hv0 σ hf
    exact tX0_reachHeaps_4b X hq (fX0_reachHeaps_4 n) (fun v0 v1 v2 σ hv0 hf => ih v0 v1 v2 hv0 σ hf) v0 v1 v2 hv0 σ hf
def fX0_reachHeaps_e (v0 : Nat) (σ : Mem) : Option (Int32 × Mem) :=
  fX0_reachHeaps_4 FU v0 (0 : Int32) (0 : Int32) σ
set_option maxHeartbeats 4000000 in
set_option maxRecDepth 100000 in
theorem tX0_reachHeaps_e {C : Ctx} (X : CX C cX0_reachHeaps 6 RX0 wsX0_reachHeaps rmX0_reachHeaps (some .boolean)) {r : Int32 × Mem} (hq : QI C r) (v0 : Nat) (hv0 : ki v0 = 3) (σ : Mem) (hf : fX0_reachHeaps_e v0 σ = some r) : G C 6 0 0 0 [(0, .ref (adr C v0))] [] σ := by
  unfold fX0_reachHeaps_e at hf
  refine g_iconst (v := (0 : Int32)) X dX0_reachHeaps_0 (by decide) ?_
  refine g_istore_n (L' := [(1, .int (0 : Int32)), (0, .ref (adr C v0))]) X dX0_reachHeaps_1 rfl (by decide) rfl ?_
  refine g_iconst (v := (0 : Int32)) X dX0_reachHeaps_2 (by decide) ?_
  refine g_istore_n (L' := [(2, .int (0 : Int32)), (1, .int (0 : Int32)), (0, .ref (adr C v0))]) X dX0_reachHeaps_3 rfl (by decide) rfl ?_
  refine g_sub [2, 1, 0] (L' := [(0, .ref (adr C v0)), (1, .int (0 : Int32)), (2, .int (0 : Int32))]) rfl ?_
  exact tX0_reachHeaps_4 X hq FU v0 (0 : Int32) (0 : Int32) hv0 σ hf
def fX0_reachHeaps (v0 : Nat) (σ : Mem) : Option (Int32 × Mem) := fX0_reachHeaps_e v0 σ
theorem kX0_reachHeaps (l : Launch) (v0 : Nat) (hv0 : ki v0 = 3) (σ : Mem) : KI l yX0_reachHeaps wsX0_reachHeaps rmX0_reachHeaps (fun ad => [.ref (ad v0)]) σ (fX0_reachHeaps v0 σ) := fun r hr => kt_of (by decide +kernel) rfl (fun _ => Nat.le_of_ble_eq_true rfl) (fun C X hne hq => tX0_reachHeaps_e X hq v0 hv0 σ hr)
/-! ### X0_findPaths -/
abbrev rmX0_findPaths : Room := { frames := 1, cells := 0, slots := 0, locals := 33 }
theorem infX0_findPaths_X0 : ∀ w ∈ u_ws RX0 TX0 15, w ∈ wsX0_findPaths := by decide +kernel
def fX0_findPaths_88 (σ : Mem) : Option (Int32 × Mem) :=
  some ((0 : Int32), σ)
set_option maxHeartbeats 4000000 in
set_option maxRecDepth 100000 in
theorem tX0_findPaths_88 {C : Ctx} (X : CX C cX0_findPaths 3 RX0 wsX0_findPaths rmX0_findPaths none) {r : Int32 × Mem} (hq : QV C r) (σ : Mem) (hf : fX0_findPaths_88 σ = some r) : G C 3 0 0 88 [] [] σ := by
  unfold fX0_findPaths_88 at hf
  exact r_vret X hq dX0_findPaths_88 hf
def fX0_findPaths_64b (r64 : Nat → Int32 → Int32 → Mem → Option (Int32 × Mem)) (v0 : Nat) (v1 : Int32) (v2 : Int32) (σ : Mem) : Option (Int32 × Mem) :=
  if v1 = 0 then (fX0_findPaths_88 σ)
  else (if (5 : Int32) < v2 then (fX0_findPaths_88 σ)
  else (bnd (fX0_reachHoles v0 σ) fun u1 σ2 =>
  bnd (fX0_reachHeaps v0 σ2) fun u3 σ4 =>
  r64 v0 u3 (v2 + 1) σ4))
def fX0_findPaths_64 : Nat → Nat → Int32 → Int32 → Mem → Option (Int32 × Mem)
  | 0 => fun _ _ _ _ => none
  | n + 1 => fX0_findPaths_64b (fX0_findPaths_64 n)
set_option maxHeartbeats 4000000 in
set_option maxRecDepth 100000 in
theorem tX0_findPaths_64b {C : Ctx} (X : CX C cX0_findPaths 3 RX0 wsX0_findPaths rmX0_findPaths none) {r : Int32 × Mem} (hq : QV C r) (r64 : Nat → Int32 → Int32 → Mem → Option (Int32 × Mem)) (ih64 : ∀ (v0 : Nat) (v1 : Int32) (v2 : Int32) (σ : Mem), ki v0 = 3 → r64 v0 v1 v2 σ = some r → G C 3 0 0 64 [(0, .ref (adr C v0)), (1, .int v1), (2, .int v2)] [] σ) (v0 : Nat) (v1 : Int32) (v2 : Int32) (hv0 : ki v0 = 3) (σ : Mem) (hf : fX0_findPaths_64b r64 v0 v1 v2 σ = some r) : G C 3 0 0 64 [(0, .ref (adr C v0)), (1, .int v1), (2, .int v2)] [] σ := by
  unfold fX0_findPaths_64b at hf
  refine g_iload_n X dX0_findPaths_64 1 rfl rfl ?_
  refine g_if_eq (tgt := 88) X dX0_findPaths_65 (by decide) hf (fun hf => ?_) (fun hf => ?_)
  · refine g_sub [] (L' := []) rfl ?_
    exact tX0_findPaths_88 X hq σ hf
  · refine g_iload_n X dX0_findPaths_68 2 rfl rfl ?_
    refine g_iconst (v := (5 : Int32)) X dX0_findPaths_69 (by decide) ?_
    refine g_icmp_gt (tgt := 88) X dX0_findPaths_70 (by decide) hf (fun hf => ?_) (fun hf => ?_)
    · refine g_sub [] (L' := []) rfl ?_
      exact tX0_findPaths_88 X hq σ hf
    · refine g_aload_n X dX0_findPaths_73 0 rfl rfl ?_
      refine c_VV (q := v0) (vs := []) (rest := []) X (kX0_reachHoles (cL C) v0 hv0 σ) (fun s a hts => cwV 0 hts gX0_findPaths_X0_reachHoles rfl rfl rfl (by decide +kernel) ⟨Nat.le_of_ble_eq_true rfl, Nat.le_of_ble_eq_true rfl⟩) (obj_p hv0) (rfl : vwCl[0]? = some (RX0, TX0, 15)) rfl rfl rfl rfl (Nat.le_of_ble_eq_true rfl) dX0_findPaths_74 ⟨Nat.le_of_ble_eq_true rfl, Nat.le_of_ble_eq_true rfl⟩ hf (fun u1 σ2 hf => ?_)
      refine g_aload_n X dX0_findPaths_77 0 rfl rfl ?_
      refine c_VI (q := v0) (vs := []) (rest := []) X (kX0_reachHeaps (cL C) v0 hv0 σ2) (fun s a hts => cwV 0 hts gX0_findPaths_X0_reachHeaps rfl rfl rfl (by decide +kernel) ⟨Nat.le_of_ble_eq_true rfl, Nat.le_of_ble_eq_true rfl⟩) (obj_p hv0) (rfl : vwCl[0]? = some (RX0, TX0, 15)) rfl rfl rfl rfl (Nat.le_of_ble_eq_true rfl) dX0_findPaths_78 ⟨Nat.le_of_ble_eq_true rfl, Nat.le_of_ble_eq_true rfl⟩ hf (fun u3 σ4 hf => ?_)
      refine g_istore_n (L' := [(1, .int u3), (0, .ref (adr C v0)), (2, .int v2)]) X dX0_findPaths_81 rfl (by decide) rfl ?_
      refine g_iinc (v := (v2 + 1)) (L' := [(2, .int (v2 + 1)), (1, .int u3), (0, .ref (adr C v0))]) X dX0_findPaths_82 2 rfl rfl (by decide) rfl ?_
      refine g_goto (tgt := 64) X dX0_findPaths_85 (by decide) ?_
      refine g_sub [2, 1, 0] (L' := [(0, .ref (adr C v0)), (1, .int u3), (2, .int (v2 + 1))]) rfl ?_
      exact ih64 v0 u3 (v2 + 1) σ4 hv0 hf
set_option maxHeartbeats 4000000 in
set_option maxRecDepth 100000 in
theorem tX0_findPaths_64 {C : Ctx} (X : CX C cX0_findPaths 3 RX0 wsX0_findPaths rmX0_findPaths none) {r : Int32 × Mem} (hq : QV C r) : ∀ (n : Nat) (v0 : Nat) (v1 : Int32) (v2 : Int32) (hv0 : ki v0 = 3) (σ : Mem) (hf : fX0_findPaths_64 n v0 v1 v2 σ = some r), G C 3 0 0 64 [(0, .ref (adr C v0)), (1, .int v1), (2, .int v2)] [] σ := by
  intro n
  induction n with
  | zero => intros; rename_i hf; exact absurd (show (none : Option (Int32 × Mem)) = some r from hf) (by simp)
  | succ n ih =>
    intro v0 v1 v2 hv0 σ hf
    exact tX0_findPaths_64b X hq (fX0_findPaths_64 n) (fun v0 v1 v2 σ hv0 hf => ih v0 v1 v2 hv0 σ hf) v0 v1 v2 hv0 σ hf
def fX0_findPaths_28 (r2 : Nat → Int32 → Mem → Option (Int32 × Mem)) (v0 : Nat) (v1 : Int32) (s0 : Int64) (s1 : Int32) (σ : Mem) : Option (Int32 × Mem) :=
  grd (inb s1 5) (ltM (wJ σ (v0 + 7) (ix s1) s0) fun σ1 =>
  grd (inb v1 5) (ltM (wI σ1 (v0 + 9) (ix v1) (-1 : Int32)) fun σ2 =>
  r2 v0 (v1 + 1) σ2))
set_option maxHeartbeats 4000000 in
set_option maxRecDepth 100000 in
theorem tX0_findPaths_28 {C : Ctx} (X : CX C cX0_findPaths 3 RX0 wsX0_findPaths rmX0_findPaths none) {r : Int32 × Mem} (hq : QV C r) (r2 : Nat → Int32 → Mem → Option (Int32 × Mem)) (ih2 : ∀ (v0 : Nat) (v1 : Int32) (σ : Mem), ki v0 = 3 → r2 v0 v1 σ = some r → G C 3 0 0 2 [(0, .ref (adr C v0)), (1, .int v1)] [] σ) (v0 : Nat) (v1 : Int32) (s0 : Int64) (s1 : Int32) (hv0 : ki v0 = 3) (σ : Mem) (hf : fX0_findPaths_28 r2 v0 v1 s0 s1 σ = some r) : G C 3 0 0 28 [(0, .ref (adr C v0)), (1, .int v1)] [.long s0, .int s1, .ref (adr C (v0 + 7))] σ := by
  unfold fX0_findPaths_28 at hf
  refine s_last (q := v0 + 7) (n := 5) X (pk7 hv0) (pl7 hv0) dX0_findPaths_28 hf (fun σ1 hf => ?_)
  refine g_aload_n X dX0_findPaths_29 0 rfl rfl ?_
  refine g_get (q := v0) (kf := 10) (v := .ref (adr C (v0 + 9))) X (obj_p hv0) rfl infX0_findPaths_X0 (by decide) (by decide +kernel) rfl dX0_findPaths_30 ?_
  refine g_iload_n X dX0_findPaths_33 1 rfl rfl ?_
  refine g_iconst (v := (-1 : Int32)) X dX0_findPaths_34 (by decide) ?_
  refine s_iast (q := v0 + 9) (n := 5) X (pk9 hv0) (pl9 hv0) dX0_findPaths_35 hf (fun σ2 hf => ?_)
  refine g_iinc (v := (v1 + 1)) (L' := [(1, .int (v1 + 1)), (0, .ref (adr C v0))]) X dX0_findPaths_36 1 rfl rfl (by decide) rfl ?_
  refine g_goto (tgt := 2) X dX0_findPaths_39 (by decide) ?_
  refine g_sub [1, 0] (L' := [(0, .ref (adr C v0)), (1, .int (v1 + 1))]) rfl ?_
  exact ih2 v0 (v1 + 1) σ2 hv0 hf
def fX0_findPaths_2b (r2 : Nat → Int32 → Mem → Option (Int32 × Mem)) (v0 : Nat) (v1 : Int32) (σ : Mem) : Option (Int32 × Mem) :=
  if (5 : Int32) ≤ v1 then (bnd (fJ7_fill_d0a16 (v0 + 8) (1152921504606846976 : Int64) σ) fun u1 σ2 =>
  bnd (fJ7_fill_53178 (v0 + 10) (-1 : Int32) σ2) fun u3 σ4 =>
  fX0_findPaths_64 FU v0 (1 : Int32) (0 : Int32) σ4)
  else (grd (inb v1 5) (if (rI σ (v0 + 1) (ix v1)) ≤ 0 then (fX0_findPaths_28 r2 v0 v1 (1152921504606846976 : Int64) v1 σ)
  else (fX0_findPaths_28 r2 v0 v1 (0 : Int64) v1 σ)))
def fX0_findPaths_2 : Nat → Nat → Int32 → Mem → Option (Int32 × Mem)
  | 0 => fun _ _ _ => none
  | n + 1 => fX0_findPaths_2b (fX0_findPaths_2 n)
set_option maxHeartbeats 4000000 in
set_option maxRecDepth 100000 in
theorem tX0_findPaths_2b {C : Ctx} (X : CX C cX0_findPaths 3 RX0 wsX0_findPaths rmX0_findPaths none) {r : Int32 × Mem} (hq : QV C r) (r2 : Nat → Int32 → Mem → Option (Int32 × Mem)) (ih2 : ∀ (v0 : Nat) (v1 : Int32) (σ : Mem), ki v0 = 3 → r2 v0 v1 σ = some r → G C 3 0 0 2 [(0, .ref (adr C v0)), (1, .int v1)] [] σ) (v0 : Nat) (v1 : Int32) (hv0 : ki v0 = 3) (σ : Mem) (hf : fX0_findPaths_2b r2 v0 v1 σ = some r) : G C 3 0 0 2 [(0, .ref (adr C v0)), (1, .int v1)] [] σ := by
  unfold fX0_findPaths_2b at hf
  refine g_iload_n X dX0_findPaths_2 1 rfl rfl ?_
  refine g_iconst (v := (5 : Int32)) X dX0_findPaths_3 (by decide) ?_
  refine g_icmp_ge (tgt := 42) X dX0_findPaths_4 (by decide) hf (fun hf => ?_) (fun hf => ?_)
  · refine g_aload_n X dX0_findPaths_42 0 rfl rfl ?_
    refine g_get (q := v0) (kf := 9) (v := .ref (adr C (v0 + 8))) X (obj_p hv0) rfl infX0_findPaths_X0 (by decide) (by decide +kernel) rfl dX0_findPaths_43 ?_
    refine g_ldc2 (v := (1152921504606846976 : Int64)) X (by decide +kernel) dX0_findPaths_46 ?_
    refine c_SV (vs := [.ref (adr C (v0 + 8)), .long (1152921504606846976 : Int64)]) (rest := []) X (kJ7_fill_d0a16 (cL C) (v0 + 8) (1152921504606846976 : Int64) (pk8 hv0) σ) (fun s a hts => va_cwS 2 hts gX0_findPaths_J7_fill_d0a16 rfl rfl rfl (by decide +kernel) ⟨Nat.le_of_ble_eq_true rfl, Nat.le_of_ble_eq_true rfl⟩) rfl rfl rfl (Nat.le_of_ble_eq_true rfl) dX0_findPaths_49 ⟨Nat.le_of_ble_eq_true rfl, Nat.le_of_ble_eq_true rfl⟩ hf (fun u1 σ2 hf => ?_)
    refine g_aload_n X dX0_findPaths_52 0 rfl rfl ?_
    refine g_get (q := v0) (kf := 11) (v := .ref (adr C (v0 + 10))) X (obj_p hv0) rfl infX0_findPaths_X0 (by decide) (by decide +kernel) rfl dX0_findPaths_53 ?_
    refine g_iconst (v := (-1 : Int32)) X dX0_findPaths_56 (by decide) ?_
    refine c_SV (vs := [.ref (adr C (v0 + 10)), .int (-1 : Int32)]) (rest := []) X (kJ7_fill_53178 (cL C) (v0 + 10) (-1 : Int32) (pk10 hv0) σ2) (fun s a hts => va_cwS 2 hts gX0_findPaths_J7_fill_53178 rfl rfl rfl (by decide +kernel) ⟨Nat.le_of_ble_eq_true rfl, Nat.le_of_ble_eq_true rfl⟩) rfl rfl rfl (Nat.le_of_ble_eq_true rfl) dX0_findPaths_57 ⟨Nat.le_of_ble_eq_true rfl, Nat.le_of_ble_eq_true rfl⟩ hf (fun u3 σ4 hf => ?_)
    refine g_iconst (v := (1 : Int32)) X dX0_findPaths_60 (by decide) ?_
    refine g_istore_n (L' := [(1, .int (1 : Int32)), (0, .ref (adr C v0))]) X dX0_findPaths_61 rfl (by decide) rfl ?_
    refine g_iconst (v := (0 : Int32)) X dX0_findPaths_62 (by decide) ?_
    refine g_istore_n (L' := [(2, .int (0 : Int32)), (1, .int (1 : Int32)), (0, .ref (adr C v0))]) X dX0_findPaths_63 rfl (by decide) rfl ?_
    refine g_sub [2, 1, 0] (L' := [(0, .ref (adr C v0)), (1, .int (1 : Int32)), (2, .int (0 : Int32))]) rfl ?_
    exact tX0_findPaths_64 X hq FU v0 (1 : Int32) (0 : Int32) hv0 σ4 hf
  · refine g_aload_n X dX0_findPaths_7 0 rfl rfl ?_
    refine g_get (q := v0) (kf := 8) (v := .ref (adr C (v0 + 7))) X (obj_p hv0) rfl infX0_findPaths_X0 (by decide) (by decide +kernel) rfl dX0_findPaths_8 ?_
    refine g_iload_n X dX0_findPaths_11 1 rfl rfl ?_
    refine g_aload_n X dX0_findPaths_12 0 rfl rfl ?_
    refine g_get (q := v0) (kf := 0) (v := .ref (adr C (v0 + 1))) X (obj_p hv0) rfl infX0_findPaths_X0 (by decide) (by decide +kernel) rfl dX0_findPaths_13 ?_
    refine g_iload_n X dX0_findPaths_16 1 rfl rfl ?_
    refine g_iald (q := v0 + 1) (n := 5) X (pk1 hv0) (pl1 hv0) dX0_findPaths_17 hf (fun hf => ?_)
    refine g_if_le (tgt := 25) X dX0_findPaths_18 (by decide) hf (fun hf => ?_) (fun hf => ?_)
    · refine g_ldc2 (v := (1152921504606846976 : Int64)) X (by decide +kernel) dX0_findPaths_25 ?_
      exact tX0_findPaths_28 X hq r2 ih2 v0 v1 (1152921504606846976 : Int64) v1 hv0 σ hf
    · refine g_lconst (v := (0 : Int64)) X dX0_findPaths_21 (by decide) ?_
      refine g_goto (tgt := 28) X dX0_findPaths_22 (by decide) ?_
      exact tX0_findPaths_28 X hq r2 ih2 v0 v1 (0 : Int64) v1 hv0 σ hf
set_option maxHeartbeats 4000000 in
set_option maxRecDepth 100000 in
theorem tX0_findPaths_2 {C : Ctx} (X : CX C cX0_findPaths 3 RX0 wsX0_findPaths rmX0_findPaths none) {r : Int32 × Mem} (hq : QV C r) : ∀ (n : Nat) (v0 : Nat) (v1 : Int32) (hv0 : ki v0 = 3) (σ : Mem) (hf : fX0_findPaths_2 n v0 v1 σ = some r), G C 3 0 0 2 [(0, .ref (adr C v0)), (1, .int v1)] [] σ := by
  intro n
  induction n with
  | zero => intros; rename_i hf; exact absurd (show (none : Option (Int32 × Mem)) = some r from hf) (by simp)
  | succ n ih =>
    intro v0 v1 hv0 σ hf
    exact tX0_findPaths_2b X hq (fX0_findPaths_2 n) (fun v0 v1 σ hv0 hf => ih v0 v1 hv0 σ hf) v0 v1 hv0 σ hf
def fX0_findPaths_e (v0 : Nat) (σ : Mem) : Option (Int32 × Mem) :=
  fX0_findPaths_2 FU v0 (0 : Int32) σ
set_option maxHeartbeats 4000000 in
set_option maxRecDepth 100000 in
theorem tX0_findPaths_e {C : Ctx} (X : CX C cX0_findPaths 3 RX0 wsX0_findPaths rmX0_findPaths none) {r : Int32 × Mem} (hq : QV C r) (v0 : Nat) (hv0 : ki v0 = 3) (σ : Mem) (hf : fX0_findPaths_e v0 σ = some r) : G C 3 0 0 0 [(0, .ref (adr C v0))] [] σ := by
  unfold fX0_findPaths_e at hf
  refine g_iconst (v := (0 : Int32)) X dX0_findPaths_0 (by decide) ?_
  refine g_istore_n (L' := [(1, .int (0 : Int32)), (0, .ref (adr C v0))]) X dX0_findPaths_1 rfl (by decide) rfl ?_
  refine g_sub [1, 0] (L' := [(0, .ref (adr C v0)), (1, .int (0 : Int32))]) rfl ?_
  exact tX0_findPaths_2 X hq FU v0 (0 : Int32) hv0 σ hf
def fX0_findPaths (v0 : Nat) (σ : Mem) : Option (Int32 × Mem) := fX0_findPaths_e v0 σ
theorem kX0_findPaths (l : Launch) (v0 : Nat) (hv0 : ki v0 = 3) (σ : Mem) : KV l yX0_findPaths wsX0_findPaths rmX0_findPaths (fun ad => [.ref (ad v0)]) σ (fX0_findPaths v0 σ) := fun r hr => kt_of (by decide +kernel) rfl (fun _ => Nat.le_of_ble_eq_true rfl) (fun C X hne hq => tX0_findPaths_e X hq v0 hv0 σ hr)
/-! ### X0_nearestHole -/
abbrev rmX0_nearestHole : Room := { frames := 0, cells := 0, slots := 0, locals := 8 }
theorem infX0_nearestHole_X0 : ∀ w ∈ u_ws RX0 TX0 15, w ∈ wsX0_nearestHole := by decide +kernel
def fX0_nearestHole_58 (r19 : Nat → Int32 → Int64 → Int32 → Mem → Option (Int32 × Mem)) (v0 : Nat) (v1 : Int32) (v2 : Int64) (v4 : Int32) (σ : Mem) : Option (Int32 × Mem) :=
  r19 v0 v1 v2 (v4 + 1) σ
set_option maxHeartbeats 4000000 in
set_option maxRecDepth 100000 in
theorem tX0_nearestHole_58 {C : Ctx} (X : CX C cX0_nearestHole 5 RX0 wsX0_nearestHole rmX0_nearestHole (some .int)) {r : Int32 × Mem} (hq : QI C r) (r19 : Nat → Int32 → Int64 → Int32 → Mem → Option (Int32 × Mem)) (ih19 : ∀ (v0 : Nat) (v1 : Int32) (v2 : Int64) (v4 : Int32) (σ : Mem), ki v0 = 3 → r19 v0 v1 v2 v4 σ = some r → G C 5 0 0 19 [(0, .ref (adr C v0)), (1, .int v1), (2, .long v2), (4, .int v4)] [] σ) (v0 : Nat) (v1 : Int32) (v2 : Int64) (v4 : Int32) (hv0 : ki v0 = 3) (σ : Mem) (hf : fX0_nearestHole_58 r19 v0 v1 v2 v4 σ = some r) : G C 5 0 0 58 [(0, .ref (adr C v0)), (1, .int v1), (2, .long v2), (4, .int v4)] [] σ := by
  unfold fX0_nearestHole_58 at hf
  refine g_iinc (v := (v4 + 1)) (L' := [(4, .int (v4 + 1)), (0, .ref (adr C v0)), (1, .int v1), (2, .long v2)]) X dX0_nearestHole_58 3 rfl rfl (by decide) rfl ?_
  refine g_goto (tgt := 19) X dX0_nearestHole_61 (by decide) ?_
  refine g_sub [1, 2, 3, 0] (L' := [(0, .ref (adr C v0)), (1, .int v1), (2, .long v2), (4, .int (v4 + 1))]) rfl ?_
  exact ih19 v0 v1 v2 (v4 + 1) σ hv0 hf
def fX0_nearestHole_19b (r19 : Nat → Int32 → Int64 → Int32 → Mem → Option (Int32 × Mem)) (v0 : Nat) (v1 : Int32) (v2 : Int64) (v4 : Int32) (σ : Mem) : Option (Int32 × Mem) :=
  if (5 : Int32) ≤ v4 then (some (v1, σ))
  else (grd (inb v4 5) (if (rI σ (v0 + 2) (ix v4)) ≤ 0 then (fX0_nearestHole_58 r19 v0 v1 v2 v4 σ)
  else (grd (inb v4 5) (if 0 ≤ (lg_cmp (rJ σ (v0 + 8) (ix v4)) v2) then (fX0_nearestHole_58 r19 v0 v1 v2 v4 σ)
  else (grd (inb v4 5) (ltJ (rJ σ (v0 + 8) (ix v4)) fun x1 =>
  fX0_nearestHole_58 r19 v0 v4 x1 v4 σ))))))
def fX0_nearestHole_19 : Nat → Nat → Int32 → Int64 → Int32 → Mem → Option (Int32 × Mem)
  | 0 => fun _ _ _ _ _ => none
  | n + 1 => fX0_nearestHole_19b (fX0_nearestHole_19 n)
set_option maxHeartbeats 4000000 in
set_option maxRecDepth 100000 in
theorem tX0_nearestHole_19b {C : Ctx} (X : CX C cX0_nearestHole 5 RX0 wsX0_nearestHole rmX0_nearestHole (some .int)) {r : Int32 × Mem} (hq : QI C r) (r19 : Nat → Int32 → Int64 → Int32 → Mem → Option (Int32 × Mem)) (ih19 : ∀ (v0 : Nat) (v1 : Int32) (v2 : Int64) (v4 : Int32) (σ : Mem), ki v0 = 3 → r19 v0 v1 v2 v4 σ = some r → G C 5 0 0 19 [(0, .ref (adr C v0)), (1, .int v1), (2, .long v2), (4, .int v4)] [] σ) (v0 : Nat) (v1 : Int32) (v2 : Int64) (v4 : Int32) (hv0 : ki v0 = 3) (σ : Mem) (hf : fX0_nearestHole_19b r19 v0 v1 v2 v4 σ = some r) : G C 5 0 0 19 [(0, .ref (adr C v0)), (1, .int v1), (2, .long v2), (4, .int v4)] [] σ := by
  unfold fX0_nearestHole_19b at hf
  refine g_iload X dX0_nearestHole_19 3 rfl ?_
  refine g_iconst (v := (5 : Int32)) X dX0_nearestHole_21 (by decide) ?_
  refine g_icmp_ge (tgt := 64) X dX0_nearestHole_22 (by decide) hf (fun hf => ?_) (fun hf => ?_)
  · refine g_iload_n X dX0_nearestHole_64 1 rfl rfl ?_
    exact r_iret X hq dX0_nearestHole_65 hf
  · refine g_aload_n X dX0_nearestHole_25 0 rfl rfl ?_
    refine g_get (q := v0) (kf := 1) (v := .ref (adr C (v0 + 2))) X (obj_p hv0) rfl infX0_nearestHole_X0 (by decide) (by decide +kernel) rfl dX0_nearestHole_26 ?_
    refine g_iload X dX0_nearestHole_29 3 rfl ?_
    refine g_iald (q := v0 + 2) (n := 5) X (pk2 hv0) (pl2 hv0) dX0_nearestHole_31 hf (fun hf => ?_)
    refine g_if_le (tgt := 58) X dX0_nearestHole_32 (by decide) hf (fun hf => ?_) (fun hf => ?_)
    · exact tX0_nearestHole_58 X hq r19 ih19 v0 v1 v2 v4 hv0 σ hf
    · refine g_aload_n X dX0_nearestHole_35 0 rfl rfl ?_
      refine g_get (q := v0) (kf := 9) (v := .ref (adr C (v0 + 8))) X (obj_p hv0) rfl infX0_nearestHole_X0 (by decide) (by decide +kernel) rfl dX0_nearestHole_36 ?_
      refine g_iload X dX0_nearestHole_39 3 rfl ?_
      refine g_lald (q := v0 + 8) (n := 5) X (pk8 hv0) (pl8 hv0) dX0_nearestHole_41 hf (fun hf => ?_)
      refine g_lload_n X dX0_nearestHole_42 2 rfl rfl ?_
      refine g_lcmp X dX0_nearestHole_43 ?_
      refine g_if_ge (tgt := 58) X dX0_nearestHole_44 (by decide) hf (fun hf => ?_) (fun hf => ?_)
      · exact tX0_nearestHole_58 X hq r19 ih19 v0 v1 v2 v4 hv0 σ hf
      · refine g_aload_n X dX0_nearestHole_47 0 rfl rfl ?_
        refine g_get (q := v0) (kf := 9) (v := .ref (adr C (v0 + 8))) X (obj_p hv0) rfl infX0_nearestHole_X0 (by decide) (by decide +kernel) rfl dX0_nearestHole_48 ?_
        refine g_iload X dX0_nearestHole_51 3 rfl ?_
        refine g_lald (q := v0 + 8) (n := 5) X (pk8 hv0) (pl8 hv0) dX0_nearestHole_53 hf (fun hf => ?_)
        refine s_lstore_n (M := fun x1 => [(2, .long x1), (0, .ref (adr C v0)), (1, .int v1), (4, .int v4)]) X dX0_nearestHole_54 rfl (by decide) (fun _ => rfl) hf (fun x1 hf => ?_)
        refine g_iload X dX0_nearestHole_55 3 rfl ?_
        refine g_istore_n (L' := [(1, .int v4), (2, .long x1), (0, .ref (adr C v0)), (4, .int v4)]) X dX0_nearestHole_57 rfl (by decide) rfl ?_
        refine g_sub [2, 0, 1, 3] (L' := [(0, .ref (adr C v0)), (1, .int v4), (2, .long x1), (4, .int v4)]) rfl ?_
        exact tX0_nearestHole_58 X hq r19 ih19 v0 v4 x1 v4 hv0 σ hf
set_option maxHeartbeats 4000000 in
set_option maxRecDepth 100000 in
theorem tX0_nearestHole_19 {C : Ctx} (X : CX C cX0_nearestHole 5 RX0 wsX0_nearestHole rmX0_nearestHole (some .int)) {r : Int32 × Mem} (hq : QI C r) : ∀ (n : Nat) (v0 : Nat) (v1 : Int32) (v2 : Int64) (v4 : Int32) (hv0 : ki v0 = 3) (σ : Mem) (hf : fX0_nearestHole_19 n v0 v1 v2 v4 σ = some r), G C 5 0 0 19 [(0, .ref (adr C v0)), (1, .int v1), (2, .long v2), (4, .int v4)] [] σ := by
  intro n
  induction n with
  | zero => intros; rename_i hf; exact absurd (show (none : Option (Int32 × Mem)) = some r from hf) (by simp)
  | succ n ih =>
    intro v0 v1 v2 v4 hv0 σ hf
    exact tX0_nearestHole_19b X hq (fX0_nearestHole_19 n) (fun v0 v1 v2 v4 σ hv0 hf => ih v0 v1 v2 v4 hv0 σ hf) v0 v1 v2 v4 hv0 σ hf
def fX0_nearestHole_e (v0 : Nat) (σ : Mem) : Option (Int32 × Mem) :=
  ltJ (((rI σ v0 13) + (rI σ v0 14)).toInt64 <<< ((25 : Int32).toInt64 &&& 63)) fun x1 =>
  fX0_nearestHole_19 FU v0 (-1 : Int32) x1 (0 : Int32) σ
set_option maxHeartbeats 4000000 in
set_option maxRecDepth 100000 in
theorem tX0_nearestHole_e {C : Ctx} (X : CX C cX0_nearestHole 5 RX0 wsX0_nearestHole rmX0_nearestHole (some .int)) {r : Int32 × Mem} (hq : QI C r) (v0 : Nat) (hv0 : ki v0 = 3) (σ : Mem) (hf : fX0_nearestHole_e v0 σ = some r) : G C 5 0 0 0 [(0, .ref (adr C v0))] [] σ := by
  unfold fX0_nearestHole_e at hf
  refine g_iconst (v := (-1 : Int32)) X dX0_nearestHole_0 (by decide) ?_
  refine g_istore_n (L' := [(1, .int (-1 : Int32)), (0, .ref (adr C v0))]) X dX0_nearestHole_1 rfl (by decide) rfl ?_
  refine g_aload_n X dX0_nearestHole_2 1 rfl rfl ?_
  refine g_get (q := v0) (kf := 13) (v := .int (rI σ v0 13)) X (obj_p hv0) rfl infX0_nearestHole_X0 (by decide) (by decide +kernel) rfl dX0_nearestHole_3 ?_
  refine g_aload_n X dX0_nearestHole_6 1 rfl rfl ?_
  refine g_get (q := v0) (kf := 14) (v := .int (rI σ v0 14)) X (obj_p hv0) rfl infX0_nearestHole_X0 (by decide) (by decide +kernel) rfl dX0_nearestHole_7 ?_
  refine g_iadd X dX0_nearestHole_10 ?_
  refine g_i2l X dX0_nearestHole_11 ?_
  refine g_bipush (v := (25 : Int32)) X dX0_nearestHole_12 (by decide) ?_
  refine g_lshl X dX0_nearestHole_14 ?_
  refine s_lstore_n (M := fun x1 => [(2, .long x1), (1, .int (-1 : Int32)), (0, .ref (adr C v0))]) X dX0_nearestHole_15 rfl (by decide) (fun _ => rfl) hf (fun x1 hf => ?_)
  refine g_iconst (v := (0 : Int32)) X dX0_nearestHole_16 (by decide) ?_
  refine g_istore (L' := [(4, .int (0 : Int32)), (2, .long x1), (1, .int (-1 : Int32)), (0, .ref (adr C v0))]) X dX0_nearestHole_17 (by decide) rfl ?_
  refine g_sub [3, 2, 1, 0] (L' := [(0, .ref (adr C v0)), (1, .int (-1 : Int32)), (2, .long x1), (4, .int (0 : Int32))]) rfl ?_
  exact tX0_nearestHole_19 X hq FU v0 (-1 : Int32) x1 (0 : Int32) hv0 σ hf
def fX0_nearestHole (v0 : Nat) (σ : Mem) : Option (Int32 × Mem) := fX0_nearestHole_e v0 σ
theorem kX0_nearestHole (l : Launch) (v0 : Nat) (hv0 : ki v0 = 3) (σ : Mem) : KI l yX0_nearestHole wsX0_nearestHole rmX0_nearestHole (fun ad => [.ref (ad v0)]) σ (fX0_nearestHole v0 σ) := fun r hr => kt_of (by decide +kernel) rfl (fun _ => Nat.le_of_ble_eq_true rfl) (fun C X hne hq => tX0_nearestHole_e X hq v0 hv0 σ hr)
/-! ### X0_roomOnPath -/
abbrev rmX0_roomOnPath : Room := { frames := 1, cells := 0, slots := 0, locals := 29 }
theorem infX0_roomOnPath_X0 : ∀ w ∈ u_ws RX0 TX0 15, w ∈ wsX0_roomOnPath := by decide +kernel
def fX0_roomOnPath_12b (r12 : Nat → Int32 → Int32 → Int32 → Mem → Option (Int32 × Mem)) (v0 : Nat) (v2 : Int32) (v3 : Int32) (v4 : Int32) (σ : Mem) : Option (Int32 × Mem) :=
  if (5 : Int32) ≤ v4 then (some ((0 : Int32), σ))
  else (grd (inb v3 5) (ltI (rI σ (v0 + 10) (ix v3)) fun x1 =>
  if x1 = (-1 : Int32) then (some ((0 : Int32), σ))
  else (bnd (fX2_wayOf x1 v3 σ) fun u2 σ3 =>
  grd (inb u2 25) (ltI (mnI v2 (rI σ3 (v0 + 4) (ix u2))) fun x4 =>
  grd (inb x1 5) (ltI (rI σ3 (v0 + 9) (ix x1)) fun x5 =>
  if x5 = (-1 : Int32) then (grd (inb x1 5) (some ((mnI x4 (rI σ3 (v0 + 1) (ix x1))), σ3)))
  else (bnd (fX2_wayOf x1 x5 σ3) fun u6 σ7 =>
  grd (inb u6 25) (ltI (mnI x4 (rI σ7 (v0 + 3) (ix u6))) fun x8 =>
  r12 v0 x8 x5 (v4 + 1) σ7)))))))
def fX0_roomOnPath_12 : Nat → Nat → Int32 → Int32 → Int32 → Mem → Option (Int32 × Mem)
  | 0 => fun _ _ _ _ _ => none
  | n + 1 => fX0_roomOnPath_12b (fX0_roomOnPath_12 n)
set_option maxHeartbeats 4000000 in
set_option maxRecDepth 100000 in
theorem tX0_roomOnPath_12b {C : Ctx} (X : CX C cX0_roomOnPath 6 RX0 wsX0_roomOnPath rmX0_roomOnPath (some .int)) {r : Int32 × Mem} (hq : QI C r) (r12 : Nat → Int32 → Int32 → Int32 → Mem → Option (Int32 × Mem)) (ih12 : ∀ (v0 : Nat) (v2 : Int32) (v3 : Int32) (v4 : Int32) (σ : Mem), ki v0 = 3 → r12 v0 v2 v3 v4 σ = some r → G C 6 0 0 12 [(0, .ref (adr C v0)), (2, .int v2), (3, .int v3), (4, .int v4)] [] σ) (v0 : Nat) (v2 : Int32) (v3 : Int32) (v4 : Int32) (hv0 : ki v0 = 3) (σ : Mem) (hf : fX0_roomOnPath_12b r12 v0 v2 v3 v4 σ = some r) : G C 6 0 0 12 [(0, .ref (adr C v0)), (2, .int v2), (3, .int v3), (4, .int v4)] [] σ := by
  unfold fX0_roomOnPath_12b at hf
  refine g_iload X dX0_roomOnPath_12 3 rfl ?_
  refine g_iconst (v := (5 : Int32)) X dX0_roomOnPath_14 (by decide) ?_
  refine g_icmp_ge (tgt := 97) X dX0_roomOnPath_15 (by decide) hf (fun hf => ?_) (fun hf => ?_)
  · refine g_iconst (v := (0 : Int32)) X dX0_roomOnPath_97 (by decide) ?_
    exact r_iret X hq dX0_roomOnPath_98 hf
  · refine g_aload_n X dX0_roomOnPath_18 0 rfl rfl ?_
    refine g_get (q := v0) (kf := 11) (v := .ref (adr C (v0 + 10))) X (obj_p hv0) rfl infX0_roomOnPath_X0 (by decide) (by decide +kernel) rfl dX0_roomOnPath_19 ?_
    refine g_iload_n X dX0_roomOnPath_22 2 rfl rfl ?_
    refine g_iald (q := v0 + 10) (n := 5) X (pk10 hv0) (pl10 hv0) dX0_roomOnPath_23 hf (fun hf => ?_)
    refine s_istore (M := fun x1 => [(5, .int x1), (0, .ref (adr C v0)), (2, .int v2), (3, .int v3), (4, .int v4)]) X dX0_roomOnPath_24 (by decide) (fun _ => rfl) hf (fun x1 hf => ?_)
    refine g_iload X dX0_roomOnPath_26 0 rfl ?_
    refine g_iconst (v := (-1 : Int32)) X dX0_roomOnPath_28 (by decide) ?_
    refine g_icmp_ne (tgt := 34) X dX0_roomOnPath_29 (by decide) hf (fun hf => ?_) (fun hf => ?_)
    · refine g_iload_n X dX0_roomOnPath_34 2 rfl rfl ?_
      refine g_aload_n X dX0_roomOnPath_35 1 rfl rfl ?_
      refine g_get (q := v0) (kf := 3) (v := .ref (adr C (v0 + 4))) X (obj_p hv0) rfl infX0_roomOnPath_X0 (by decide) (by decide +kernel) rfl dX0_roomOnPath_36 ?_
      refine g_iload X dX0_roomOnPath_39 0 rfl ?_
      refine g_iload_n X dX0_roomOnPath_41 3 rfl rfl ?_
      refine c_NI (vs := [.int x1, .int v3]) (rest := [.ref (adr C (v0 + 4)), .int v2]) X (kX2_wayOf (cL C) x1 v3 σ) rfl rfl rfl (fun s a hts hN => ⟨va_cnB 2 hts gX0_roomOnPath_X2_wayOf_n84 rfl rfl rfl hN (hts _ (by decide +kernel)) (by decide +kernel) ⟨Nat.le_of_ble_eq_true rfl, Nat.le_of_ble_eq_true rfl⟩, hts _ (by decide +kernel)⟩) rfl rfl rfl (Nat.le_of_ble_eq_true rfl) dX0_roomOnPath_42 ⟨Nat.le_of_ble_eq_true rfl, Nat.le_of_ble_eq_true rfl⟩ hf (fun u2 σ3 hf => ?_)
      refine g_iald (q := v0 + 4) (n := 25) X (pk4 hv0) (pl4 hv0) dX0_roomOnPath_45 hf (fun hf => ?_)
      refine g_minI X (by decide +kernel) (by decide +kernel) (by decide +kernel) (by decide +kernel) ⟨Nat.le_of_ble_eq_true rfl, Nat.le_of_ble_eq_true rfl, Nat.le_of_ble_eq_true rfl, Nat.le_of_ble_eq_true rfl⟩ dX0_roomOnPath_46 ?_
      refine s_istore_n (M := fun x4 => [(2, .int x4), (5, .int x1), (0, .ref (adr C v0)), (3, .int v3), (4, .int v4)]) X dX0_roomOnPath_49 rfl (by decide) (fun _ => rfl) hf (fun x4 hf => ?_)
      refine g_aload_n X dX0_roomOnPath_50 2 rfl rfl ?_
      refine g_get (q := v0) (kf := 10) (v := .ref (adr C (v0 + 9))) X (obj_p hv0) rfl infX0_roomOnPath_X0 (by decide) (by decide +kernel) rfl dX0_roomOnPath_51 ?_
      refine g_iload X dX0_roomOnPath_54 1 rfl ?_
      refine g_iald (q := v0 + 9) (n := 5) X (pk9 hv0) (pl9 hv0) dX0_roomOnPath_56 hf (fun hf => ?_)
      refine s_istore_n (M := fun x5 => [(3, .int x5), (2, .int x4), (5, .int x1), (0, .ref (adr C v0)), (4, .int v4)]) X dX0_roomOnPath_57 rfl (by decide) (fun _ => rfl) hf (fun x5 hf => ?_)
      refine g_iload_n X dX0_roomOnPath_58 0 rfl rfl ?_
      refine g_iconst (v := (-1 : Int32)) X dX0_roomOnPath_59 (by decide) ?_
      refine g_icmp_ne (tgt := 75) X dX0_roomOnPath_60 (by decide) hf (fun hf => ?_) (fun hf => ?_)
      · refine g_iload_n X dX0_roomOnPath_75 1 rfl rfl ?_
        refine g_aload_n X dX0_roomOnPath_76 3 rfl rfl ?_
        refine g_get (q := v0) (kf := 2) (v := .ref (adr C (v0 + 3))) X (obj_p hv0) rfl infX0_roomOnPath_X0 (by decide) (by decide +kernel) rfl dX0_roomOnPath_77 ?_
        refine g_iload X dX0_roomOnPath_80 2 rfl ?_
        refine g_iload_n X dX0_roomOnPath_82 0 rfl rfl ?_
        refine c_NI (vs := [.int x1, .int x5]) (rest := [.ref (adr C (v0 + 3)), .int x4]) X (kX2_wayOf (cL C) x1 x5 σ3) rfl rfl rfl (fun s a hts hN => ⟨va_cnB 2 hts gX0_roomOnPath_X2_wayOf_n84 rfl rfl rfl hN (hts _ (by decide +kernel)) (by decide +kernel) ⟨Nat.le_of_ble_eq_true rfl, Nat.le_of_ble_eq_true rfl⟩, hts _ (by decide +kernel)⟩) rfl rfl rfl (Nat.le_of_ble_eq_true rfl) dX0_roomOnPath_83 ⟨Nat.le_of_ble_eq_true rfl, Nat.le_of_ble_eq_true rfl⟩ hf (fun u6 σ7 hf => ?_)
        refine g_iald (q := v0 + 3) (n := 25) X (pk3 hv0) (pl3 hv0) dX0_roomOnPath_86 hf (fun hf => ?_)
        refine g_minI X (by decide +kernel) (by decide +kernel) (by decide +kernel) (by decide +kernel) ⟨Nat.le_of_ble_eq_true rfl, Nat.le_of_ble_eq_true rfl, Nat.le_of_ble_eq_true rfl, Nat.le_of_ble_eq_true rfl⟩ dX0_roomOnPath_87 ?_
        refine s_istore_n (M := fun x8 => [(2, .int x8), (3, .int x5), (5, .int x1), (0, .ref (adr C v0)), (4, .int v4)]) X dX0_roomOnPath_90 rfl (by decide) (fun _ => rfl) hf (fun x8 hf => ?_)
        refine g_iinc (v := (v4 + 1)) (L' := [(4, .int (v4 + 1)), (2, .int x8), (3, .int x5), (5, .int x1), (0, .ref (adr C v0))]) X dX0_roomOnPath_91 4 rfl rfl (by decide) rfl ?_
        refine g_goto (tgt := 12) X dX0_roomOnPath_94 (by decide) ?_
        refine g_sub [4, 1, 2, 0] (L' := [(0, .ref (adr C v0)), (2, .int x8), (3, .int x5), (4, .int (v4 + 1))]) rfl ?_
        exact ih12 v0 x8 x5 (v4 + 1) σ7 hv0 hf
      · refine g_iload_n X dX0_roomOnPath_63 1 rfl rfl ?_
        refine g_aload_n X dX0_roomOnPath_64 3 rfl rfl ?_
        refine g_get (q := v0) (kf := 0) (v := .ref (adr C (v0 + 1))) X (obj_p hv0) rfl infX0_roomOnPath_X0 (by decide) (by decide +kernel) rfl dX0_roomOnPath_65 ?_
        refine g_iload X dX0_roomOnPath_68 2 rfl ?_
        refine g_iald (q := v0 + 1) (n := 5) X (pk1 hv0) (pl1 hv0) dX0_roomOnPath_70 hf (fun hf => ?_)
        refine g_minI X (by decide +kernel) (by decide +kernel) (by decide +kernel) (by decide +kernel) ⟨Nat.le_of_ble_eq_true rfl, Nat.le_of_ble_eq_true rfl, Nat.le_of_ble_eq_true rfl, Nat.le_of_ble_eq_true rfl⟩ dX0_roomOnPath_71 ?_
        exact r_iret X hq dX0_roomOnPath_74 hf
    · refine g_iconst (v := (0 : Int32)) X dX0_roomOnPath_32 (by decide) ?_
      exact r_iret X hq dX0_roomOnPath_33 hf
set_option maxHeartbeats 4000000 in
set_option maxRecDepth 100000 in
theorem tX0_roomOnPath_12 {C : Ctx} (X : CX C cX0_roomOnPath 6 RX0 wsX0_roomOnPath rmX0_roomOnPath (some .int)) {r : Int32 × Mem} (hq : QI C r) : ∀ (n : Nat) (v0 : Nat) (v2 : Int32) (v3 : Int32) (v4 : Int32) (hv0 : ki v0 = 3) (σ : Mem) (hf : fX0_roomOnPath_12 n v0 v2 v3 v4 σ = some r), G C 6 0 0 12 [(0, .ref (adr C v0)), (2, .int v2), (3, .int v3), (4, .int v4)] [] σ := by
  intro n
  induction n with
  | zero => intros; rename_i hf; exact absurd (show (none : Option (Int32 × Mem)) = some r from hf) (by simp)
  | succ n ih =>
    intro v0 v2 v3 v4 hv0 σ hf
    exact tX0_roomOnPath_12b X hq (fX0_roomOnPath_12 n) (fun v0 v2 v3 v4 σ hv0 hf => ih v0 v2 v3 v4 hv0 σ hf) v0 v2 v3 v4 hv0 σ hf
def fX0_roomOnPath_e (v0 : Nat) (v1 : Int32) (σ : Mem) : Option (Int32 × Mem) :=
  grd (inb v1 5) (ltI (rI σ (v0 + 2) (ix v1)) fun x1 =>
  fX0_roomOnPath_12 FU v0 x1 v1 (0 : Int32) σ)
set_option maxHeartbeats 4000000 in
set_option maxRecDepth 100000 in
theorem tX0_roomOnPath_e {C : Ctx} (X : CX C cX0_roomOnPath 6 RX0 wsX0_roomOnPath rmX0_roomOnPath (some .int)) {r : Int32 × Mem} (hq : QI C r) (v0 : Nat) (v1 : Int32) (hv0 : ki v0 = 3) (σ : Mem) (hf : fX0_roomOnPath_e v0 v1 σ = some r) : G C 6 0 0 0 [(0, .ref (adr C v0)), (1, .int v1)] [] σ := by
  unfold fX0_roomOnPath_e at hf
  refine g_aload_n X dX0_roomOnPath_0 0 rfl rfl ?_
  refine g_get (q := v0) (kf := 1) (v := .ref (adr C (v0 + 2))) X (obj_p hv0) rfl infX0_roomOnPath_X0 (by decide) (by decide +kernel) rfl dX0_roomOnPath_1 ?_
  refine g_iload_n X dX0_roomOnPath_4 1 rfl rfl ?_
  refine g_iald (q := v0 + 2) (n := 5) X (pk2 hv0) (pl2 hv0) dX0_roomOnPath_5 hf (fun hf => ?_)
  refine s_istore_n (M := fun x1 => [(2, .int x1), (0, .ref (adr C v0)), (1, .int v1)]) X dX0_roomOnPath_6 rfl (by decide) (fun _ => rfl) hf (fun x1 hf => ?_)
  refine g_iload_n X dX0_roomOnPath_7 2 rfl rfl ?_
  refine g_istore_n (L' := [(3, .int v1), (2, .int x1), (0, .ref (adr C v0)), (1, .int v1)]) X dX0_roomOnPath_8 rfl (by decide) rfl ?_
  refine g_iconst (v := (0 : Int32)) X dX0_roomOnPath_9 (by decide) ?_
  refine g_istore (L' := [(4, .int (0 : Int32)), (3, .int v1), (2, .int x1), (0, .ref (adr C v0)), (1, .int v1)]) X dX0_roomOnPath_10 (by decide) rfl ?_
  refine g_sub [3, 2, 1, 0] (L' := [(0, .ref (adr C v0)), (2, .int x1), (3, .int v1), (4, .int (0 : Int32))]) rfl ?_
  exact tX0_roomOnPath_12 X hq FU v0 x1 v1 (0 : Int32) hv0 σ hf
def fX0_roomOnPath (v0 : Nat) (v1 : Int32) (σ : Mem) : Option (Int32 × Mem) := fX0_roomOnPath_e v0 v1 σ
theorem kX0_roomOnPath (l : Launch) (v0 : Nat) (v1 : Int32) (hv0 : ki v0 = 3) (σ : Mem) : KI l yX0_roomOnPath wsX0_roomOnPath rmX0_roomOnPath (fun ad => [.ref (ad v0), .int v1]) σ (fX0_roomOnPath v0 v1 σ) := fun r hr => kt_of (by decide +kernel) rfl (fun _ => Nat.le_of_ble_eq_true rfl) (fun C X hne hq => tX0_roomOnPath_e X hq v0 v1 hv0 σ hr)
/-! ### X0_move -/
abbrev rmX0_move : Room := { frames := 1, cells := 0, slots := 0, locals := 29 }
theorem infX0_move_X0 : ∀ w ∈ u_ws RX0 TX0 15, w ∈ wsX0_move := by decide +kernel
def fX0_move_e (v0 : Nat) (v1 : Int32) (v2 : Int32) (v3 : Int32) (σ : Mem) : Option (Int32 × Mem) :=
  bnd (fX2_wayOf v1 v2 σ) fun u1 σ2 =>
  grd (inb u1 25) (grd (inb u1 25) (ltM (wI σ2 (v0 + 3) (ix u1) ((rI σ2 (v0 + 3) (ix u1)) + v3)) fun σ3 =>
  grd (inb u1 25) (grd (inb u1 25) (ltM (wI σ3 (v0 + 4) (ix u1) ((rI σ3 (v0 + 4) (ix u1)) - v3)) fun σ4 =>
  grd (inb v1 5) (grd (inb v1 5) (ltM (wI σ4 (v0 + 1) (ix v1) ((rI σ4 (v0 + 1) (ix v1)) - v3)) fun σ5 =>
  grd (inb v2 5) (grd (inb v2 5) (ltM (wI σ5 (v0 + 2) (ix v2) ((rI σ5 (v0 + 2) (ix v2)) - v3)) fun σ6 =>
  grd (inb u1 25) (ltM (wI σ6 v0 4 ((rI σ6 v0 4) + (v3 * (((rI σ6 (v0 + 5) (ix u1)) - (rI σ6 v0 13)) - (rI σ6 v0 14))))) fun σ7 =>
  some ((0 : Int32), σ7))))))))))
set_option maxHeartbeats 4000000 in
set_option maxRecDepth 100000 in
theorem tX0_move_e {C : Ctx} (X : CX C cX0_move 5 RX0 wsX0_move rmX0_move none) {r : Int32 × Mem} (hq : QV C r) (v0 : Nat) (v1 : Int32) (v2 : Int32) (v3 : Int32) (hv0 : ki v0 = 3) (σ : Mem) (hf : fX0_move_e v0 v1 v2 v3 σ = some r) : G C 5 0 0 0 [(0, .ref (adr C v0)), (1, .int v1), (2, .int v2), (3, .int v3)] [] σ := by
  unfold fX0_move_e at hf
  refine g_iload_n X dX0_move_0 1 rfl rfl ?_
  refine g_iload_n X dX0_move_1 2 rfl rfl ?_
  refine c_NI (vs := [.int v1, .int v2]) (rest := []) X (kX2_wayOf (cL C) v1 v2 σ) rfl rfl rfl (fun s a hts hN => ⟨va_cnB 2 hts gX0_move_X2_wayOf_n84 rfl rfl rfl hN (hts _ (by decide +kernel)) (by decide +kernel) ⟨Nat.le_of_ble_eq_true rfl, Nat.le_of_ble_eq_true rfl⟩, hts _ (by decide +kernel)⟩) rfl rfl rfl (Nat.le_of_ble_eq_true rfl) dX0_move_2 ⟨Nat.le_of_ble_eq_true rfl, Nat.le_of_ble_eq_true rfl⟩ hf (fun u1 σ2 hf => ?_)
  refine g_istore (L' := [(4, .int u1), (0, .ref (adr C v0)), (1, .int v1), (2, .int v2), (3, .int v3)]) X dX0_move_5 (by decide) rfl ?_
  refine g_aload_n X dX0_move_7 1 rfl rfl ?_
  refine g_get (q := v0) (kf := 2) (v := .ref (adr C (v0 + 3))) X (obj_p hv0) rfl infX0_move_X0 (by decide) (by decide +kernel) rfl dX0_move_8 ?_
  refine g_iload X dX0_move_11 0 rfl ?_
  refine g_dup2 X dX0_move_13 rfl rfl ?_
  refine g_iald (q := v0 + 3) (n := 25) X (pk3 hv0) (pl3 hv0) dX0_move_14 hf (fun hf => ?_)
  refine g_iload_n X dX0_move_15 4 rfl rfl ?_
  refine g_iadd X dX0_move_16 ?_
  refine s_iast (q := v0 + 3) (n := 25) X (pk3 hv0) (pl3 hv0) dX0_move_17 hf (fun σ3 hf => ?_)
  refine g_aload_n X dX0_move_18 1 rfl rfl ?_
  refine g_get (q := v0) (kf := 3) (v := .ref (adr C (v0 + 4))) X (obj_p hv0) rfl infX0_move_X0 (by decide) (by decide +kernel) rfl dX0_move_19 ?_
  refine g_iload X dX0_move_22 0 rfl ?_
  refine g_dup2 X dX0_move_24 rfl rfl ?_
  refine g_iald (q := v0 + 4) (n := 25) X (pk4 hv0) (pl4 hv0) dX0_move_25 hf (fun hf => ?_)
  refine g_iload_n X dX0_move_26 4 rfl rfl ?_
  refine g_isub X dX0_move_27 ?_
  refine s_iast (q := v0 + 4) (n := 25) X (pk4 hv0) (pl4 hv0) dX0_move_28 hf (fun σ4 hf => ?_)
  refine g_aload_n X dX0_move_29 1 rfl rfl ?_
  refine g_get (q := v0) (kf := 0) (v := .ref (adr C (v0 + 1))) X (obj_p hv0) rfl infX0_move_X0 (by decide) (by decide +kernel) rfl dX0_move_30 ?_
  refine g_iload_n X dX0_move_33 2 rfl rfl ?_
  refine g_dup2 X dX0_move_34 rfl rfl ?_
  refine g_iald (q := v0 + 1) (n := 5) X (pk1 hv0) (pl1 hv0) dX0_move_35 hf (fun hf => ?_)
  refine g_iload_n X dX0_move_36 4 rfl rfl ?_
  refine g_isub X dX0_move_37 ?_
  refine s_iast (q := v0 + 1) (n := 5) X (pk1 hv0) (pl1 hv0) dX0_move_38 hf (fun σ5 hf => ?_)
  refine g_aload_n X dX0_move_39 1 rfl rfl ?_
  refine g_get (q := v0) (kf := 1) (v := .ref (adr C (v0 + 2))) X (obj_p hv0) rfl infX0_move_X0 (by decide) (by decide +kernel) rfl dX0_move_40 ?_
  refine g_iload_n X dX0_move_43 3 rfl rfl ?_
  refine g_dup2 X dX0_move_44 rfl rfl ?_
  refine g_iald (q := v0 + 2) (n := 5) X (pk2 hv0) (pl2 hv0) dX0_move_45 hf (fun hf => ?_)
  refine g_iload_n X dX0_move_46 4 rfl rfl ?_
  refine g_isub X dX0_move_47 ?_
  refine s_iast (q := v0 + 2) (n := 5) X (pk2 hv0) (pl2 hv0) dX0_move_48 hf (fun σ6 hf => ?_)
  refine g_aload_n X dX0_move_49 1 rfl rfl ?_
  refine g_dup X dX0_move_50 rfl ?_
  refine g_get (q := v0) (kf := 4) (v := .int (rI σ6 v0 4)) X (obj_p hv0) rfl infX0_move_X0 (by decide) (by decide +kernel) rfl dX0_move_51 ?_
  refine g_iload_n X dX0_move_54 4 rfl rfl ?_
  refine g_aload_n X dX0_move_55 1 rfl rfl ?_
  refine g_get (q := v0) (kf := 6) (v := .ref (adr C (v0 + 5))) X (obj_p hv0) rfl infX0_move_X0 (by decide) (by decide +kernel) rfl dX0_move_56 ?_
  refine g_iload X dX0_move_59 0 rfl ?_
  refine g_iald (q := v0 + 5) (n := 25) X (pk5 hv0) (pl5 hv0) dX0_move_61 hf (fun hf => ?_)
  refine g_aload_n X dX0_move_62 1 rfl rfl ?_
  refine g_get (q := v0) (kf := 13) (v := .int (rI σ6 v0 13)) X (obj_p hv0) rfl infX0_move_X0 (by decide) (by decide +kernel) rfl dX0_move_63 ?_
  refine g_isub X dX0_move_66 ?_
  refine g_aload_n X dX0_move_67 1 rfl rfl ?_
  refine g_get (q := v0) (kf := 14) (v := .int (rI σ6 v0 14)) X (obj_p hv0) rfl infX0_move_X0 (by decide) (by decide +kernel) rfl dX0_move_68 ?_
  refine g_isub X dX0_move_71 ?_
  refine g_imul X dX0_move_72 ?_
  refine g_iadd X dX0_move_73 ?_
  refine s_put (q := v0) (kf := 4) X (obj_p hv0) rfl infX0_move_X0 tyX0_ok nmX0 (by decide) (by decide +kernel) rfl rfl rfl rfl (fun _ _ => rfl) (fun _ _ => Nat.le_of_ble_eq_true rfl) dX0_move_74 hf (fun σ7 hf => ?_)
  exact r_vret X hq dX0_move_77 hf
def fX0_move (v0 : Nat) (v1 : Int32) (v2 : Int32) (v3 : Int32) (σ : Mem) : Option (Int32 × Mem) := fX0_move_e v0 v1 v2 v3 σ
theorem kX0_move (l : Launch) (v0 : Nat) (v1 : Int32) (v2 : Int32) (v3 : Int32) (hv0 : ki v0 = 3) (σ : Mem) : KV l yX0_move wsX0_move rmX0_move (fun ad => [.ref (ad v0), .int v1, .int v2, .int v3]) σ (fX0_move v0 v1 v2 v3 σ) := fun r hr => kt_of (by decide +kernel) rfl (fun _ => Nat.le_of_ble_eq_true rfl) (fun C X hne hq => tX0_move_e X hq v0 v1 v2 v3 hv0 σ hr)
/-! ### X0_carryAlongPath -/
abbrev rmX0_carryAlongPath : Room := { frames := 2, cells := 0, slots := 0, locals := 53 }
theorem infX0_carryAlongPath_X0 : ∀ w ∈ u_ws RX0 TX0 15, w ∈ wsX0_carryAlongPath := by decide +kernel
def fX0_carryAlongPath_69 (σ : Mem) : Option (Int32 × Mem) :=
  grd (decide ((0 : Int32) = 0 ∨ (0 : Int32) = 1)) (some ((0 : Int32), σ))
set_option maxHeartbeats 4000000 in
set_option maxRecDepth 100000 in
theorem tX0_carryAlongPath_69 {C : Ctx} (X : CX C cX0_carryAlongPath 6 RX0 wsX0_carryAlongPath rmX0_carryAlongPath (some .boolean)) {r : Int32 × Mem} (hq : QI C r) (σ : Mem) (hf : fX0_carryAlongPath_69 σ = some r) : G C 6 0 0 69 [] [] σ := by
  unfold fX0_carryAlongPath_69 at hf
  refine g_iconst (v := (0 : Int32)) X dX0_carryAlongPath_69 (by decide) ?_
  exact r_zret X hq dX0_carryAlongPath_70 hf
def fX0_carryAlongPath_5b (r5 : Nat → Int32 → Int32 → Int32 → Mem → Option (Int32 × Mem)) (v0 : Nat) (v2 : Int32) (v3 : Int32) (v4 : Int32) (σ : Mem) : Option (Int32 × Mem) :=
  if (5 : Int32) ≤ v4 then (fX0_carryAlongPath_69 σ)
  else (if v2 ≤ 0 then (fX0_carryAlongPath_69 σ)
  else (grd (inb v3 5) (ltI (rI σ (v0 + 10) (ix v3)) fun x1 =>
  if x1 = (-1 : Int32) then (grd (decide ((0 : Int32) = 0 ∨ (0 : Int32) = 1)) (some ((0 : Int32), σ)))
  else (bnd (fX0_move v0 x1 v3 v2 σ) fun u2 σ3 =>
  grd (inb x1 5) (ltI (rI σ3 (v0 + 9) (ix x1)) fun x4 =>
  if x4 = (-1 : Int32) then (grd (decide ((1 : Int32) = 0 ∨ (1 : Int32) = 1)) (some ((1 : Int32), σ3)))
  else (bnd (fX0_move v0 x1 x4 (-v2) σ3) fun u5 σ6 =>
  r5 v0 v2 x4 (v4 + 1) σ6))))))
def fX0_carryAlongPath_5 : Nat → Nat → Int32 → Int32 → Int32 → Mem → Option (Int32 × Mem)
  | 0 => fun _ _ _ _ _ => none
  | n + 1 => fX0_carryAlongPath_5b (fX0_carryAlongPath_5 n)
set_option maxHeartbeats 4000000 in
set_option maxRecDepth 100000 in
theorem tX0_carryAlongPath_5b {C : Ctx} (X : CX C cX0_carryAlongPath 6 RX0 wsX0_carryAlongPath rmX0_carryAlongPath (some .boolean)) {r : Int32 × Mem} (hq : QI C r) (r5 : Nat → Int32 → Int32 → Int32 → Mem → Option (Int32 × Mem)) (ih5 : ∀ (v0 : Nat) (v2 : Int32) (v3 : Int32) (v4 : Int32) (σ : Mem), ki v0 = 3 → r5 v0 v2 v3 v4 σ = some r → G C 6 0 0 5 [(0, .ref (adr C v0)), (2, .int v2), (3, .int v3), (4, .int v4)] [] σ) (v0 : Nat) (v2 : Int32) (v3 : Int32) (v4 : Int32) (hv0 : ki v0 = 3) (σ : Mem) (hf : fX0_carryAlongPath_5b r5 v0 v2 v3 v4 σ = some r) : G C 6 0 0 5 [(0, .ref (adr C v0)), (2, .int v2), (3, .int v3), (4, .int v4)] [] σ := by
  unfold fX0_carryAlongPath_5b at hf
  refine g_iload X dX0_carryAlongPath_5 3 rfl ?_
  refine g_iconst (v := (5 : Int32)) X dX0_carryAlongPath_7 (by decide) ?_
  refine g_icmp_ge (tgt := 69) X dX0_carryAlongPath_8 (by decide) hf (fun hf => ?_) (fun hf => ?_)
  · refine g_sub [] (L' := []) rfl ?_
    exact tX0_carryAlongPath_69 X hq σ hf
  · refine g_iload_n X dX0_carryAlongPath_11 1 rfl rfl ?_
    refine g_if_le (tgt := 69) X dX0_carryAlongPath_12 (by decide) hf (fun hf => ?_) (fun hf => ?_)
    · refine g_sub [] (L' := []) rfl ?_
      exact tX0_carryAlongPath_69 X hq σ hf
    · refine g_aload_n X dX0_carryAlongPath_15 0 rfl rfl ?_
      refine g_get (q := v0) (kf := 11) (v := .ref (adr C (v0 + 10))) X (obj_p hv0) rfl infX0_carryAlongPath_X0 (by decide) (by decide +kernel) rfl dX0_carryAlongPath_16 ?_
      refine g_iload_n X dX0_carryAlongPath_19 2 rfl rfl ?_
      refine g_iald (q := v0 + 10) (n := 5) X (pk10 hv0) (pl10 hv0) dX0_carryAlongPath_20 hf (fun hf => ?_)
      refine s_istore (M := fun x1 => [(5, .int x1), (0, .ref (adr C v0)), (2, .int v2), (3, .int v3), (4, .int v4)]) X dX0_carryAlongPath_21 (by decide) (fun _ => rfl) hf (fun x1 hf => ?_)
      refine g_iload X dX0_carryAlongPath_23 0 rfl ?_
      refine g_iconst (v := (-1 : Int32)) X dX0_carryAlongPath_25 (by decide) ?_
      refine g_icmp_ne (tgt := 31) X dX0_carryAlongPath_26 (by decide) hf (fun hf => ?_) (fun hf => ?_)
      · refine g_aload_n X dX0_carryAlongPath_31 1 rfl rfl ?_
        refine g_iload X dX0_carryAlongPath_32 0 rfl ?_
        refine g_iload_n X dX0_carryAlongPath_34 3 rfl rfl ?_
        refine g_iload_n X dX0_carryAlongPath_35 2 rfl rfl ?_
        refine c_VV (q := v0) (vs := [.int x1, .int v3, .int v2]) (rest := []) X (kX0_move (cL C) v0 x1 v3 v2 hv0 σ) (fun s a hts => cwV 3 hts gX0_carryAlongPath_X0_move rfl rfl rfl (by decide +kernel) ⟨Nat.le_of_ble_eq_true rfl, Nat.le_of_ble_eq_true rfl⟩) (obj_p hv0) (rfl : vwCl[0]? = some (RX0, TX0, 15)) rfl rfl rfl rfl (Nat.le_of_ble_eq_true rfl) dX0_carryAlongPath_36 ⟨Nat.le_of_ble_eq_true rfl, Nat.le_of_ble_eq_true rfl⟩ hf (fun u2 σ3 hf => ?_)
        refine g_aload_n X dX0_carryAlongPath_39 1 rfl rfl ?_
        refine g_get (q := v0) (kf := 10) (v := .ref (adr C (v0 + 9))) X (obj_p hv0) rfl infX0_carryAlongPath_X0 (by decide) (by decide +kernel) rfl dX0_carryAlongPath_40 ?_
        refine g_iload X dX0_carryAlongPath_43 0 rfl ?_
        refine g_iald (q := v0 + 9) (n := 5) X (pk9 hv0) (pl9 hv0) dX0_carryAlongPath_45 hf (fun hf => ?_)
        refine s_istore_n (M := fun x4 => [(3, .int x4), (5, .int x1), (0, .ref (adr C v0)), (2, .int v2), (4, .int v4)]) X dX0_carryAlongPath_46 rfl (by decide) (fun _ => rfl) hf (fun x4 hf => ?_)
        refine g_iload_n X dX0_carryAlongPath_47 0 rfl rfl ?_
        refine g_iconst (v := (-1 : Int32)) X dX0_carryAlongPath_48 (by decide) ?_
        refine g_icmp_ne (tgt := 54) X dX0_carryAlongPath_49 (by decide) hf (fun hf => ?_) (fun hf => ?_)
        · refine g_aload_n X dX0_carryAlongPath_54 2 rfl rfl ?_
          refine g_iload X dX0_carryAlongPath_55 1 rfl ?_
          refine g_iload_n X dX0_carryAlongPath_57 0 rfl rfl ?_
          refine g_iload_n X dX0_carryAlongPath_58 3 rfl rfl ?_
          refine g_ineg X dX0_carryAlongPath_59 ?_
          refine c_VV (q := v0) (vs := [.int x1, .int x4, .int (-v2)]) (rest := []) X (kX0_move (cL C) v0 x1 x4 (-v2) hv0 σ3) (fun s a hts => cwV 3 hts gX0_carryAlongPath_X0_move rfl rfl rfl (by decide +kernel) ⟨Nat.le_of_ble_eq_true rfl, Nat.le_of_ble_eq_true rfl⟩) (obj_p hv0) (rfl : vwCl[0]? = some (RX0, TX0, 15)) rfl rfl rfl rfl (Nat.le_of_ble_eq_true rfl) dX0_carryAlongPath_60 ⟨Nat.le_of_ble_eq_true rfl, Nat.le_of_ble_eq_true rfl⟩ hf (fun u5 σ6 hf => ?_)
          refine g_iinc (v := (v4 + 1)) (L' := [(4, .int (v4 + 1)), (3, .int x4), (5, .int x1), (0, .ref (adr C v0)), (2, .int v2)]) X dX0_carryAlongPath_63 4 rfl rfl (by decide) rfl ?_
          refine g_goto (tgt := 5) X dX0_carryAlongPath_66 (by decide) ?_
          refine g_sub [3, 4, 1, 0] (L' := [(0, .ref (adr C v0)), (2, .int v2), (3, .int x4), (4, .int (v4 + 1))]) rfl ?_
          exact ih5 v0 v2 x4 (v4 + 1) σ6 hv0 hf
        · refine g_iconst (v := (1 : Int32)) X dX0_carryAlongPath_52 (by decide) ?_
          exact r_zret X hq dX0_carryAlongPath_53 hf
      · refine g_iconst (v := (0 : Int32)) X dX0_carryAlongPath_29 (by decide) ?_
        exact r_zret X hq dX0_carryAlongPath_30 hf
set_option maxHeartbeats 4000000 in
set_option maxRecDepth 100000 in
theorem tX0_carryAlongPath_5 {C : Ctx} (X : CX C cX0_carryAlongPath 6 RX0 wsX0_carryAlongPath rmX0_carryAlongPath (some .boolean)) {r : Int32 × Mem} (hq : QI C r) : ∀ (n : Nat) (v0 : Nat) (v2 : Int32) (v3 : Int32) (v4 : Int32) (hv0 : ki v0 = 3) (σ : Mem) (hf : fX0_carryAlongPath_5 n v0 v2 v3 v4 σ = some r), G C 6 0 0 5 [(0, .ref (adr C v0)), (2, .int v2), (3, .int v3), (4, .int v4)] [] σ := by
  intro n
  induction n with
  | zero => intros; rename_i hf; exact absurd (show (none : Option (Int32 × Mem)) = some r from hf) (by simp)
  | succ n ih =>
    intro v0 v2 v3 v4 hv0 σ hf
    exact tX0_carryAlongPath_5b X hq (fX0_carryAlongPath_5 n) (fun v0 v2 v3 v4 σ hv0 hf => ih v0 v2 v3 v4 hv0 σ hf) v0 v2 v3 v4 hv0 σ hf
def fX0_carryAlongPath_e (v0 : Nat) (v1 : Int32) (v2 : Int32) (σ : Mem) : Option (Int32 × Mem) :=
  fX0_carryAlongPath_5 FU v0 v2 v1 (0 : Int32) σ
set_option maxHeartbeats 4000000 in
set_option maxRecDepth 100000 in
theorem tX0_carryAlongPath_e {C : Ctx} (X : CX C cX0_carryAlongPath 6 RX0 wsX0_carryAlongPath rmX0_carryAlongPath (some .boolean)) {r : Int32 × Mem} (hq : QI C r) (v0 : Nat) (v1 : Int32) (v2 : Int32) (hv0 : ki v0 = 3) (σ : Mem) (hf : fX0_carryAlongPath_e v0 v1 v2 σ = some r) : G C 6 0 0 0 [(0, .ref (adr C v0)), (1, .int v1), (2, .int v2)] [] σ := by
  unfold fX0_carryAlongPath_e at hf
  refine g_iload_n X dX0_carryAlongPath_0 1 rfl rfl ?_
  refine g_istore_n (L' := [(3, .int v1), (0, .ref (adr C v0)), (1, .int v1), (2, .int v2)]) X dX0_carryAlongPath_1 rfl (by decide) rfl ?_
  refine g_iconst (v := (0 : Int32)) X dX0_carryAlongPath_2 (by decide) ?_
  refine g_istore (L' := [(4, .int (0 : Int32)), (3, .int v1), (0, .ref (adr C v0)), (1, .int v1), (2, .int v2)]) X dX0_carryAlongPath_3 (by decide) rfl ?_
  refine g_sub [2, 4, 1, 0] (L' := [(0, .ref (adr C v0)), (2, .int v2), (3, .int v1), (4, .int (0 : Int32))]) rfl ?_
  exact tX0_carryAlongPath_5 X hq FU v0 v2 v1 (0 : Int32) hv0 σ hf
def fX0_carryAlongPath (v0 : Nat) (v1 : Int32) (v2 : Int32) (σ : Mem) : Option (Int32 × Mem) := fX0_carryAlongPath_e v0 v1 v2 σ
theorem kX0_carryAlongPath (l : Launch) (v0 : Nat) (v1 : Int32) (v2 : Int32) (hv0 : ki v0 = 3) (σ : Mem) : KI l yX0_carryAlongPath wsX0_carryAlongPath rmX0_carryAlongPath (fun ad => [.ref (ad v0), .int v1, .int v2]) σ (fX0_carryAlongPath v0 v1 v2 σ) := fun r hr => kt_of (by decide +kernel) rfl (fun _ => Nat.le_of_ble_eq_true rfl) (fun C X hne hq => tX0_carryAlongPath_e X hq v0 v1 v2 hv0 σ hr)
/-! ### X0_improve -/
abbrev rmX0_improve : Room := { frames := 3, cells := 0, slots := 0, locals := 78 }
def fX0_improve_53 (σ : Mem) : Option (Int32 × Mem) :=
  some ((0 : Int32), σ)
set_option maxHeartbeats 4000000 in
set_option maxRecDepth 100000 in
theorem tX0_improve_53 {C : Ctx} (X : CX C cX0_improve 4 RX0 wsX0_improve rmX0_improve none) {r : Int32 × Mem} (hq : QV C r) (σ : Mem) (hf : fX0_improve_53 σ = some r) : G C 4 0 0 53 [] [] σ := by
  unfold fX0_improve_53 at hf
  exact r_vret X hq dX0_improve_53 hf
def fX0_improve_46 (r4 : Nat → Int32 → Int32 → Mem → Option (Int32 × Mem)) (v0 : Nat) (v2 : Int32) (s0 : Int32) (σ : Mem) : Option (Int32 × Mem) :=
  r4 v0 s0 (v2 + 1) σ
set_option maxHeartbeats 4000000 in
set_option maxRecDepth 100000 in
theorem tX0_improve_46 {C : Ctx} (X : CX C cX0_improve 4 RX0 wsX0_improve rmX0_improve none) {r : Int32 × Mem} (hq : QV C r) (r4 : Nat → Int32 → Int32 → Mem → Option (Int32 × Mem)) (ih4 : ∀ (v0 : Nat) (v1 : Int32) (v2 : Int32) (σ : Mem), ki v0 = 3 → r4 v0 v1 v2 σ = some r → G C 4 0 0 4 [(0, .ref (adr C v0)), (1, .int v1), (2, .int v2)] [] σ) (v0 : Nat) (v2 : Int32) (s0 : Int32) (hv0 : ki v0 = 3) (σ : Mem) (hf : fX0_improve_46 r4 v0 v2 s0 σ = some r) : G C 4 0 0 46 [(0, .ref (adr C v0)), (2, .int v2)] [.int s0] σ := by
  unfold fX0_improve_46 at hf
  refine g_istore_n (L' := [(1, .int s0), (0, .ref (adr C v0)), (2, .int v2)]) X dX0_improve_46 rfl (by decide) rfl ?_
  refine g_iinc (v := (v2 + 1)) (L' := [(2, .int (v2 + 1)), (1, .int s0), (0, .ref (adr C v0))]) X dX0_improve_47 2 rfl rfl (by decide) rfl ?_
  refine g_goto (tgt := 4) X dX0_improve_50 (by decide) ?_
  refine g_sub [2, 1, 0] (L' := [(0, .ref (adr C v0)), (1, .int s0), (2, .int (v2 + 1))]) rfl ?_
  exact ih4 v0 s0 (v2 + 1) σ hv0 hf
def fX0_improve_45 (r4 : Nat → Int32 → Int32 → Mem → Option (Int32 × Mem)) (v0 : Nat) (v2 : Int32) (σ : Mem) : Option (Int32 × Mem) :=
  fX0_improve_46 r4 v0 v2 (0 : Int32) σ
set_option maxHeartbeats 4000000 in
set_option maxRecDepth 100000 in
theorem tX0_improve_45 {C : Ctx} (X : CX C cX0_improve 4 RX0 wsX0_improve rmX0_improve none) {r : Int32 × Mem} (hq : QV C r) (r4 : Nat → Int32 → Int32 → Mem → Option (Int32 × Mem)) (ih4 : ∀ (v0 : Nat) (v1 : Int32) (v2 : Int32) (σ : Mem), ki v0 = 3 → r4 v0 v1 v2 σ = some r → G C 4 0 0 4 [(0, .ref (adr C v0)), (1, .int v1), (2, .int v2)] [] σ) (v0 : Nat) (v2 : Int32) (hv0 : ki v0 = 3) (σ : Mem) (hf : fX0_improve_45 r4 v0 v2 σ = some r) : G C 4 0 0 45 [(0, .ref (adr C v0)), (2, .int v2)] [] σ := by
  unfold fX0_improve_45 at hf
  refine g_iconst (v := (0 : Int32)) X dX0_improve_45 (by decide) ?_
  exact tX0_improve_46 X hq r4 ih4 v0 v2 (0 : Int32) hv0 σ hf
def fX0_improve_4b (r4 : Nat → Int32 → Int32 → Mem → Option (Int32 × Mem)) (v0 : Nat) (v1 : Int32) (v2 : Int32) (σ : Mem) : Option (Int32 × Mem) :=
  if v1 = 0 then (fX0_improve_53 σ)
  else (if (101 : Int32) < v2 then (fX0_improve_53 σ)
  else (bnd (fX0_findPaths v0 σ) fun u1 σ2 =>
  bnd (fX0_nearestHole v0 σ2) fun u3 σ4 =>
  if u3 = (-1 : Int32) then (fX0_improve_45 r4 v0 v2 σ4)
  else (bnd (fX0_roomOnPath v0 u3 σ4) fun u5 σ6 =>
  bnd (fX0_carryAlongPath v0 u3 u5 σ6) fun u7 σ8 =>
  if u7 = 0 then (fX0_improve_45 r4 v0 v2 σ8)
  else (fX0_improve_46 r4 v0 v2 (1 : Int32) σ8))))
def fX0_improve_4 : Nat → Nat → Int32 → Int32 → Mem → Option (Int32 × Mem)
  | 0 => fun _ _ _ _ => none
  | n + 1 => fX0_improve_4b (fX0_improve_4 n)
set_option maxHeartbeats 4000000 in
set_option maxRecDepth 100000 in
theorem tX0_improve_4b {C : Ctx} (X : CX C cX0_improve 4 RX0 wsX0_improve rmX0_improve none) {r : Int32 × Mem} (hq : QV C r) (r4 : Nat → Int32 → Int32 → Mem → Option (Int32 × Mem)) (ih4 : ∀ (v0 : Nat) (v1 : Int32) (v2 : Int32) (σ : Mem), ki v0 = 3 → r4 v0 v1 v2 σ = some r → G C 4 0 0 4 [(0, .ref (adr C v0)), (1, .int v1), (2, .int v2)] [] σ) (v0 : Nat) (v1 : Int32) (v2 : Int32) (hv0 : ki v0 = 3) (σ : Mem) (hf : fX0_improve_4b r4 v0 v1 v2 σ = some r) : G C 4 0 0 4 [(0, .ref (adr C v0)), (1, .int v1), (2, .int v2)] [] σ := by
  unfold fX0_improve_4b at hf
  refine g_iload_n X dX0_improve_4 1 rfl rfl ?_
  refine g_if_eq (tgt := 53) X dX0_improve_5 (by decide) hf (fun hf => ?_) (fun hf => ?_)
  · refine g_sub [] (L' := []) rfl ?_
    exact tX0_improve_53 X hq σ hf
  · refine g_iload_n X dX0_improve_8 2 rfl rfl ?_
    refine g_bipush (v := (101 : Int32)) X dX0_improve_9 (by decide) ?_
    refine g_icmp_gt (tgt := 53) X dX0_improve_11 (by decide) hf (fun hf => ?_) (fun hf => ?_)
    · refine g_sub [] (L' := []) rfl ?_
      exact tX0_improve_53 X hq σ hf
    · refine g_aload_n X dX0_improve_14 0 rfl rfl ?_
      refine c_VV (q := v0) (vs := []) (rest := []) X (kX0_findPaths (cL C) v0 hv0 σ) (fun s a hts => cwV 0 hts gX0_improve_X0_findPaths rfl rfl rfl (by decide +kernel) ⟨Nat.le_of_ble_eq_true rfl, Nat.le_of_ble_eq_true rfl⟩) (obj_p hv0) (rfl : vwCl[0]? = some (RX0, TX0, 15)) rfl rfl rfl rfl (Nat.le_of_ble_eq_true rfl) dX0_improve_15 ⟨Nat.le_of_ble_eq_true rfl, Nat.le_of_ble_eq_true rfl⟩ hf (fun u1 σ2 hf => ?_)
      refine g_aload_n X dX0_improve_18 0 rfl rfl ?_
      refine c_VI (q := v0) (vs := []) (rest := []) X (kX0_nearestHole (cL C) v0 hv0 σ2) (fun s a hts => cwV 0 hts gX0_improve_X0_nearestHole rfl rfl rfl (by decide +kernel) ⟨Nat.le_of_ble_eq_true rfl, Nat.le_of_ble_eq_true rfl⟩) (obj_p hv0) (rfl : vwCl[0]? = some (RX0, TX0, 15)) rfl rfl rfl rfl (Nat.le_of_ble_eq_true rfl) dX0_improve_19 ⟨Nat.le_of_ble_eq_true rfl, Nat.le_of_ble_eq_true rfl⟩ hf (fun u3 σ4 hf => ?_)
      refine g_istore_n (L' := [(3, .int u3), (0, .ref (adr C v0)), (1, .int v1), (2, .int v2)]) X dX0_improve_22 rfl (by decide) rfl ?_
      refine g_iload_n X dX0_improve_23 0 rfl rfl ?_
      refine g_iconst (v := (-1 : Int32)) X dX0_improve_24 (by decide) ?_
      refine g_icmp_eq (tgt := 45) X dX0_improve_25 (by decide) hf (fun hf => ?_) (fun hf => ?_)
      · refine g_sub [1, 3] (L' := [(0, .ref (adr C v0)), (2, .int v2)]) rfl ?_
        exact tX0_improve_45 X hq r4 ih4 v0 v2 hv0 σ4 hf
      · refine g_aload_n X dX0_improve_28 1 rfl rfl ?_
        refine g_iload_n X dX0_improve_29 0 rfl rfl ?_
        refine g_aload_n X dX0_improve_30 1 rfl rfl ?_
        refine g_iload_n X dX0_improve_31 0 rfl rfl ?_
        refine c_VI (q := v0) (vs := [.int u3]) (rest := [.int u3, .ref (adr C v0)]) X (kX0_roomOnPath (cL C) v0 u3 hv0 σ4) (fun s a hts => cwV 1 hts gX0_improve_X0_roomOnPath rfl rfl rfl (by decide +kernel) ⟨Nat.le_of_ble_eq_true rfl, Nat.le_of_ble_eq_true rfl⟩) (obj_p hv0) (rfl : vwCl[0]? = some (RX0, TX0, 15)) rfl rfl rfl rfl (Nat.le_of_ble_eq_true rfl) dX0_improve_32 ⟨Nat.le_of_ble_eq_true rfl, Nat.le_of_ble_eq_true rfl⟩ hf (fun u5 σ6 hf => ?_)
        refine c_VI (q := v0) (vs := [.int u3, .int u5]) (rest := []) X (kX0_carryAlongPath (cL C) v0 u3 u5 hv0 σ6) (fun s a hts => cwV 2 hts gX0_improve_X0_carryAlongPath rfl rfl rfl (by decide +kernel) ⟨Nat.le_of_ble_eq_true rfl, Nat.le_of_ble_eq_true rfl⟩) (obj_p hv0) (rfl : vwCl[0]? = some (RX0, TX0, 15)) rfl rfl rfl rfl (Nat.le_of_ble_eq_true rfl) dX0_improve_35 ⟨Nat.le_of_ble_eq_true rfl, Nat.le_of_ble_eq_true rfl⟩ hf (fun u7 σ8 hf => ?_)
        refine g_if_eq (tgt := 45) X dX0_improve_38 (by decide) hf (fun hf => ?_) (fun hf => ?_)
        · refine g_sub [1, 3] (L' := [(0, .ref (adr C v0)), (2, .int v2)]) rfl ?_
          exact tX0_improve_45 X hq r4 ih4 v0 v2 hv0 σ8 hf
        · refine g_iconst (v := (1 : Int32)) X dX0_improve_41 (by decide) ?_
          refine g_goto (tgt := 46) X dX0_improve_42 (by decide) ?_
          refine g_sub [1, 3] (L' := [(0, .ref (adr C v0)), (2, .int v2)]) rfl ?_
          exact tX0_improve_46 X hq r4 ih4 v0 v2 (1 : Int32) hv0 σ8 hf
set_option maxHeartbeats 4000000 in
set_option maxRecDepth 100000 in
theorem tX0_improve_4 {C : Ctx} (X : CX C cX0_improve 4 RX0 wsX0_improve rmX0_improve none) {r : Int32 × Mem} (hq : QV C r) : ∀ (n : Nat) (v0 : Nat) (v1 : Int32) (v2 : Int32) (hv0 : ki v0 = 3) (σ : Mem) (hf : fX0_improve_4 n v0 v1 v2 σ = some r), G C 4 0 0 4 [(0, .ref (adr C v0)), (1, .int v1), (2, .int v2)] [] σ := by
  intro n
  induction n with
  | zero => intros; rename_i hf; exact absurd (show (none : Option (Int32 × Mem)) = some r from hf) (by simp)
  | succ n ih =>
    intro v0 v1 v2 hv0 σ hf
    exact tX0_improve_4b X hq (fX0_improve_4 n) (fun v0 v1 v2 σ hv0 hf => ih v0 v1 v2 hv0 σ hf) v0 v1 v2 hv0 σ hf
def fX0_improve_e (v0 : Nat) (σ : Mem) : Option (Int32 × Mem) :=
  fX0_improve_4 FU v0 (1 : Int32) (0 : Int32) σ
set_option maxHeartbeats 4000000 in
set_option maxRecDepth 100000 in
theorem tX0_improve_e {C : Ctx} (X : CX C cX0_improve 4 RX0 wsX0_improve rmX0_improve none) {r : Int32 × Mem} (hq : QV C r) (v0 : Nat) (hv0 : ki v0 = 3) (σ : Mem) (hf : fX0_improve_e v0 σ = some r) : G C 4 0 0 0 [(0, .ref (adr C v0))] [] σ := by
  unfold fX0_improve_e at hf
  refine g_iconst (v := (1 : Int32)) X dX0_improve_0 (by decide) ?_
  refine g_istore_n (L' := [(1, .int (1 : Int32)), (0, .ref (adr C v0))]) X dX0_improve_1 rfl (by decide) rfl ?_
  refine g_iconst (v := (0 : Int32)) X dX0_improve_2 (by decide) ?_
  refine g_istore_n (L' := [(2, .int (0 : Int32)), (1, .int (1 : Int32)), (0, .ref (adr C v0))]) X dX0_improve_3 rfl (by decide) rfl ?_
  refine g_sub [2, 1, 0] (L' := [(0, .ref (adr C v0)), (1, .int (1 : Int32)), (2, .int (0 : Int32))]) rfl ?_
  exact tX0_improve_4 X hq FU v0 (1 : Int32) (0 : Int32) hv0 σ hf
def fX0_improve (v0 : Nat) (σ : Mem) : Option (Int32 × Mem) := fX0_improve_e v0 σ
theorem kX0_improve (l : Launch) (v0 : Nat) (hv0 : ki v0 = 3) (σ : Mem) : KV l yX0_improve wsX0_improve rmX0_improve (fun ad => [.ref (ad v0)]) σ (fX0_improve v0 σ) := fun r hr => kt_of (by decide +kernel) rfl (fun _ => Nat.le_of_ble_eq_true rfl) (fun C X hne hq => tX0_improve_e X hq v0 hv0 σ hr)
/-! ### X0_turnToNext -/
abbrev rmX0_turnToNext : Room := { frames := 2, cells := 0, slots := 0, locals := 53 }
theorem infX0_turnToNext_X0 : ∀ w ∈ u_ws RX0 TX0 15, w ∈ wsX0_turnToNext := by decide +kernel
def fX0_turnToNext_65 (r7 : Nat → Int32 → Mem → Option (Int32 × Mem)) (v0 : Nat) (v1 : Int32) (v2 : Int32) (v3 : Int32) (v4 : Int32) (σ : Mem) : Option (Int32 × Mem) :=
  grd (inb v2 25) (bnd (fX0_move v0 v3 v4 (-(rI σ (v0 + 3) (ix v2))) σ) fun u1 σ2 =>
  r7 v0 (v1 + (-1)) σ2)
set_option maxHeartbeats 4000000 in
set_option maxRecDepth 100000 in
theorem tX0_turnToNext_65 {C : Ctx} (X : CX C cX0_turnToNext 5 RX0 wsX0_turnToNext rmX0_turnToNext (some .boolean)) {r : Int32 × Mem} (hq : QI C r) (r7 : Nat → Int32 → Mem → Option (Int32 × Mem)) (ih7 : ∀ (v0 : Nat) (v1 : Int32) (σ : Mem), ki v0 = 3 → r7 v0 v1 σ = some r → G C 5 0 0 7 [(0, .ref (adr C v0)), (1, .int v1)] [] σ) (v0 : Nat) (v1 : Int32) (v2 : Int32) (v3 : Int32) (v4 : Int32) (hv0 : ki v0 = 3) (σ : Mem) (hf : fX0_turnToNext_65 r7 v0 v1 v2 v3 v4 σ = some r) : G C 5 0 0 65 [(0, .ref (adr C v0)), (1, .int v1), (2, .int v2), (3, .int v3), (4, .int v4)] [] σ := by
  unfold fX0_turnToNext_65 at hf
  refine g_aload_n X dX0_turnToNext_65 0 rfl rfl ?_
  refine g_iload_n X dX0_turnToNext_66 3 rfl rfl ?_
  refine g_iload X dX0_turnToNext_67 4 rfl ?_
  refine g_aload_n X dX0_turnToNext_69 0 rfl rfl ?_
  refine g_get (q := v0) (kf := 2) (v := .ref (adr C (v0 + 3))) X (obj_p hv0) rfl infX0_turnToNext_X0 (by decide) (by decide +kernel) rfl dX0_turnToNext_70 ?_
  refine g_iload_n X dX0_turnToNext_73 2 rfl rfl ?_
  refine g_iald (q := v0 + 3) (n := 25) X (pk3 hv0) (pl3 hv0) dX0_turnToNext_74 hf (fun hf => ?_)
  refine g_ineg X dX0_turnToNext_75 ?_
  refine c_VV (q := v0) (vs := [.int v3, .int v4, .int (-(rI σ (v0 + 3) (ix v2)))]) (rest := []) X (kX0_move (cL C) v0 v3 v4 (-(rI σ (v0 + 3) (ix v2))) hv0 σ) (fun s a hts => cwV 3 hts gX0_turnToNext_X0_move rfl rfl rfl (by decide +kernel) ⟨Nat.le_of_ble_eq_true rfl, Nat.le_of_ble_eq_true rfl⟩) (obj_p hv0) (rfl : vwCl[0]? = some (RX0, TX0, 15)) rfl rfl rfl rfl (Nat.le_of_ble_eq_true rfl) dX0_turnToNext_76 ⟨Nat.le_of_ble_eq_true rfl, Nat.le_of_ble_eq_true rfl⟩ hf (fun u1 σ2 hf => ?_)
  refine g_iinc (v := (v1 + (-1))) (L' := [(1, .int (v1 + (-1))), (0, .ref (adr C v0)), (2, .int v2), (3, .int v3), (4, .int v4)]) X dX0_turnToNext_79 1 rfl rfl (by decide) rfl ?_
  refine g_goto (tgt := 7) X dX0_turnToNext_82 (by decide) ?_
  refine g_sub [1, 0] (L' := [(0, .ref (adr C v0)), (1, .int (v1 + (-1)))]) rfl ?_
  exact ih7 v0 (v1 + (-1)) σ2 hv0 hf
def fX0_turnToNext_7b (r7 : Nat → Int32 → Mem → Option (Int32 × Mem)) (v0 : Nat) (v1 : Int32) (σ : Mem) : Option (Int32 × Mem) :=
  if v1 < 0 then (grd (decide ((0 : Int32) = 0 ∨ (0 : Int32) = 1)) (some ((0 : Int32), σ)))
  else (grd (inb v1 25) (ltI (rI σ (34 + v0 / 12) (ix v1)) fun x1 =>
  ltI (x1 / (5 : Int32)) fun x2 =>
  ltI (x1 - x1 / (5 : Int32) * (5 : Int32)) fun x3 =>
  grd (inb x1 25) (if (rI σ (v0 + 4) (ix x1)) ≤ 0 then (fX0_turnToNext_65 r7 v0 v1 x1 x2 x3 σ)
  else (grd (inb x2 5) (if (rI σ (v0 + 1) (ix x2)) ≤ 0 then (fX0_turnToNext_65 r7 v0 v1 x1 x2 x3 σ)
  else (grd (inb x3 5) (if (rI σ (v0 + 2) (ix x3)) ≤ 0 then (fX0_turnToNext_65 r7 v0 v1 x1 x2 x3 σ)
  else (bnd (fX0_move v0 x2 x3 (1 : Int32) σ) fun u4 σ5 =>
  grd (decide ((1 : Int32) = 0 ∨ (1 : Int32) = 1)) (some ((1 : Int32), σ5))))))))))
def fX0_turnToNext_7 : Nat → Nat → Int32 → Mem → Option (Int32 × Mem)
  | 0 => fun _ _ _ => none
  | n + 1 => fX0_turnToNext_7b (fX0_turnToNext_7 n)
set_option maxHeartbeats 4000000 in
set_option maxRecDepth 100000 in
theorem tX0_turnToNext_7b {C : Ctx} (X : CX C cX0_turnToNext 5 RX0 wsX0_turnToNext rmX0_turnToNext (some .boolean)) {r : Int32 × Mem} (hq : QI C r) (r7 : Nat → Int32 → Mem → Option (Int32 × Mem)) (ih7 : ∀ (v0 : Nat) (v1 : Int32) (σ : Mem), ki v0 = 3 → r7 v0 v1 σ = some r → G C 5 0 0 7 [(0, .ref (adr C v0)), (1, .int v1)] [] σ) (v0 : Nat) (v1 : Int32) (hv0 : ki v0 = 3) (σ : Mem) (hf : fX0_turnToNext_7b r7 v0 v1 σ = some r) : G C 5 0 0 7 [(0, .ref (adr C v0)), (1, .int v1)] [] σ := by
  unfold fX0_turnToNext_7b at hf
  refine g_iload_n X dX0_turnToNext_7 1 rfl rfl ?_
  refine g_if_lt (tgt := 85) X dX0_turnToNext_8 (by decide) hf (fun hf => ?_) (fun hf => ?_)
  · refine g_iconst (v := (0 : Int32)) X dX0_turnToNext_85 (by decide) ?_
    exact r_zret X hq dX0_turnToNext_86 hf
  · refine g_aload_n X dX0_turnToNext_11 0 rfl rfl ?_
    refine g_get (q := v0) (kf := 5) (v := .ref (adr C (34 + v0 / 12))) X (obj_p hv0) rfl infX0_turnToNext_X0 (by decide) (by decide +kernel) rfl dX0_turnToNext_12 ?_
    refine g_iload_n X dX0_turnToNext_15 1 rfl rfl ?_
    refine g_iald (q := 34 + v0 / 12) (n := 25) X (pk11 hv0) (pl11 hv0) dX0_turnToNext_16 hf (fun hf => ?_)
    refine s_istore_n (M := fun x1 => [(2, .int x1), (0, .ref (adr C v0)), (1, .int v1)]) X dX0_turnToNext_17 rfl (by decide) (fun _ => rfl) hf (fun x1 hf => ?_)
    refine g_iload_n X dX0_turnToNext_18 0 rfl rfl ?_
    refine g_iconst (v := (5 : Int32)) X dX0_turnToNext_19 (by decide) ?_
    refine g_idivC X dX0_turnToNext_20 (by decide) ?_
    refine s_istore_n (M := fun x2 => [(3, .int x2), (2, .int x1), (0, .ref (adr C v0)), (1, .int v1)]) X dX0_turnToNext_21 rfl (by decide) (fun _ => rfl) hf (fun x2 hf => ?_)
    refine g_iload_n X dX0_turnToNext_22 1 rfl rfl ?_
    refine g_iconst (v := (5 : Int32)) X dX0_turnToNext_23 (by decide) ?_
    refine g_iremC X dX0_turnToNext_24 (by decide) ?_
    refine s_istore (M := fun x3 => [(4, .int x3), (3, .int x2), (2, .int x1), (0, .ref (adr C v0)), (1, .int v1)]) X dX0_turnToNext_25 (by decide) (fun _ => rfl) hf (fun x3 hf => ?_)
    refine g_aload_n X dX0_turnToNext_27 3 rfl rfl ?_
    refine g_get (q := v0) (kf := 3) (v := .ref (adr C (v0 + 4))) X (obj_p hv0) rfl infX0_turnToNext_X0 (by decide) (by decide +kernel) rfl dX0_turnToNext_28 ?_
    refine g_iload_n X dX0_turnToNext_31 2 rfl rfl ?_
    refine g_iald (q := v0 + 4) (n := 25) X (pk4 hv0) (pl4 hv0) dX0_turnToNext_32 hf (fun hf => ?_)
    refine g_if_le (tgt := 65) X dX0_turnToNext_33 (by decide) hf (fun hf => ?_) (fun hf => ?_)
    · refine g_sub [3, 4, 2, 1, 0] (L' := [(0, .ref (adr C v0)), (1, .int v1), (2, .int x1), (3, .int x2), (4, .int x3)]) rfl ?_
      exact tX0_turnToNext_65 X hq r7 ih7 v0 v1 x1 x2 x3 hv0 σ hf
    · refine g_aload_n X dX0_turnToNext_36 3 rfl rfl ?_
      refine g_get (q := v0) (kf := 0) (v := .ref (adr C (v0 + 1))) X (obj_p hv0) rfl infX0_turnToNext_X0 (by decide) (by decide +kernel) rfl dX0_turnToNext_37 ?_
      refine g_iload_n X dX0_turnToNext_40 1 rfl rfl ?_
      refine g_iald (q := v0 + 1) (n := 5) X (pk1 hv0) (pl1 hv0) dX0_turnToNext_41 hf (fun hf => ?_)
      refine g_if_le (tgt := 65) X dX0_turnToNext_42 (by decide) hf (fun hf => ?_) (fun hf => ?_)
      · refine g_sub [3, 4, 2, 1, 0] (L' := [(0, .ref (adr C v0)), (1, .int v1), (2, .int x1), (3, .int x2), (4, .int x3)]) rfl ?_
        exact tX0_turnToNext_65 X hq r7 ih7 v0 v1 x1 x2 x3 hv0 σ hf
      · refine g_aload_n X dX0_turnToNext_45 3 rfl rfl ?_
        refine g_get (q := v0) (kf := 1) (v := .ref (adr C (v0 + 2))) X (obj_p hv0) rfl infX0_turnToNext_X0 (by decide) (by decide +kernel) rfl dX0_turnToNext_46 ?_
        refine g_iload X dX0_turnToNext_49 0 rfl ?_
        refine g_iald (q := v0 + 2) (n := 5) X (pk2 hv0) (pl2 hv0) dX0_turnToNext_51 hf (fun hf => ?_)
        refine g_if_le (tgt := 65) X dX0_turnToNext_52 (by decide) hf (fun hf => ?_) (fun hf => ?_)
        · refine g_sub [3, 4, 2, 1, 0] (L' := [(0, .ref (adr C v0)), (1, .int v1), (2, .int x1), (3, .int x2), (4, .int x3)]) rfl ?_
          exact tX0_turnToNext_65 X hq r7 ih7 v0 v1 x1 x2 x3 hv0 σ hf
        · refine g_aload_n X dX0_turnToNext_55 3 rfl rfl ?_
          refine g_iload_n X dX0_turnToNext_56 1 rfl rfl ?_
          refine g_iload X dX0_turnToNext_57 0 rfl ?_
          refine g_iconst (v := (1 : Int32)) X dX0_turnToNext_59 (by decide) ?_
          refine c_VV (q := v0) (vs := [.int x2, .int x3, .int (1 : Int32)]) (rest := []) X (kX0_move (cL C) v0 x2 x3 (1 : Int32) hv0 σ) (fun s a hts => cwV 3 hts gX0_turnToNext_X0_move rfl rfl rfl (by decide +kernel) ⟨Nat.le_of_ble_eq_true rfl, Nat.le_of_ble_eq_true rfl⟩) (obj_p hv0) (rfl : vwCl[0]? = some (RX0, TX0, 15)) rfl rfl rfl rfl (Nat.le_of_ble_eq_true rfl) dX0_turnToNext_60 ⟨Nat.le_of_ble_eq_true rfl, Nat.le_of_ble_eq_true rfl⟩ hf (fun u4 σ5 hf => ?_)
          refine g_iconst (v := (1 : Int32)) X dX0_turnToNext_63 (by decide) ?_
          exact r_zret X hq dX0_turnToNext_64 hf
set_option maxHeartbeats 4000000 in
set_option maxRecDepth 100000 in
theorem tX0_turnToNext_7 {C : Ctx} (X : CX C cX0_turnToNext 5 RX0 wsX0_turnToNext rmX0_turnToNext (some .boolean)) {r : Int32 × Mem} (hq : QI C r) : ∀ (n : Nat) (v0 : Nat) (v1 : Int32) (hv0 : ki v0 = 3) (σ : Mem) (hf : fX0_turnToNext_7 n v0 v1 σ = some r), G C 5 0 0 7 [(0, .ref (adr C v0)), (1, .int v1)] [] σ := by
  intro n
  induction n with
  | zero => intros; rename_i hf; exact absurd (show (none : Option (Int32 × Mem)) = some r from hf) (by simp)
  | succ n ih =>
    intro v0 v1 hv0 σ hf
    exact tX0_turnToNext_7b X hq (fX0_turnToNext_7 n) (fun v0 v1 σ hv0 hf => ih v0 v1 hv0 σ hf) v0 v1 hv0 σ hf
def fX0_turnToNext_e (v0 : Nat) (σ : Mem) : Option (Int32 × Mem) :=
  ltI ((rI σ v0 12) - (1 : Int32)) fun x1 =>
  fX0_turnToNext_7 FU v0 x1 σ
set_option maxHeartbeats 4000000 in
set_option maxRecDepth 100000 in
theorem tX0_turnToNext_e {C : Ctx} (X : CX C cX0_turnToNext 5 RX0 wsX0_turnToNext rmX0_turnToNext (some .boolean)) {r : Int32 × Mem} (hq : QI C r) (v0 : Nat) (hv0 : ki v0 = 3) (σ : Mem) (hf : fX0_turnToNext_e v0 σ = some r) : G C 5 0 0 0 [(0, .ref (adr C v0))] [] σ := by
  unfold fX0_turnToNext_e at hf
  refine g_aload_n X dX0_turnToNext_0 0 rfl rfl ?_
  refine g_get (q := v0) (kf := 12) (v := .int (rI σ v0 12)) X (obj_p hv0) rfl infX0_turnToNext_X0 (by decide) (by decide +kernel) rfl dX0_turnToNext_1 ?_
  refine g_iconst (v := (1 : Int32)) X dX0_turnToNext_4 (by decide) ?_
  refine g_isub X dX0_turnToNext_5 ?_
  refine s_istore_n (M := fun x1 => [(1, .int x1), (0, .ref (adr C v0))]) X dX0_turnToNext_6 rfl (by decide) (fun _ => rfl) hf (fun x1 hf => ?_)
  refine g_sub [1, 0] (L' := [(0, .ref (adr C v0)), (1, .int x1)]) rfl ?_
  exact tX0_turnToNext_7 X hq FU v0 x1 hv0 σ hf
def fX0_turnToNext (v0 : Nat) (σ : Mem) : Option (Int32 × Mem) := fX0_turnToNext_e v0 σ
theorem kX0_turnToNext (l : Launch) (v0 : Nat) (hv0 : ki v0 = 3) (σ : Mem) : KI l yX0_turnToNext wsX0_turnToNext rmX0_turnToNext (fun ad => [.ref (ad v0)]) σ (fX0_turnToNext v0 σ) := fun r hr => kt_of (by decide +kernel) rfl (fun _ => Nat.le_of_ble_eq_true rfl) (fun C X hne hq => tX0_turnToNext_e X hq v0 hv0 σ hr)
