/-! The carrier's data, and plans laid out. -/
def SD (σ σ' : Mem) : Prop := (∀ k, 1 ≤ k → k ≤ 9 → σ'.1 k = σ.1 k) ∧ ∀ i, i ≠ 14 → rI σ' 0 i = rI σ 0 i
theorem SD.rf {σ : Mem} : SD σ σ := ⟨fun _ _ _ => rfl, fun _ _ => rfl⟩
theorem SD.tr {σ σ1 σ2 : Mem} (h1 : SD σ σ1) (h2 : SD σ1 σ2) : SD σ σ2 := ⟨fun k a c => (h2.1 k a c).trans (h1.1 k a c), fun i a => (h2.2 i a).trans (h1.2 i a)⟩
theorem smi_sd {b : Nat} {σ σ' : Mem} (h : SMI b σ σ') (hb : 10 ≤ b) : SD σ σ' := ⟨fun k h1 h2 => (h k (Or.inl (by omega))).1, fun i _ => by unfold rI; rw [(h 0 (Or.inl (by omega))).1]⟩
theorem sd_rI {σ σ' : Mem} (h : SD σ σ') {k : Nat} (h1 : 1 ≤ k) (h2 : k ≤ 9) (i : Nat) : rI σ' k i = rI σ k i := by
  unfold rI; rw [h.1 k h1 h2]
theorem sd_vI {σ σ' : Mem} (h : SD σ σ') {k : Nat} (h1 : 1 ≤ k) (h2 : k ≤ 9) (i : Nat) : vI σ' k i = vI σ k i := by
  unfold vI; rw [sd_rI h h1 h2]
theorem sd_v0 {σ σ' : Mem} (h : SD σ σ') {i : Nat} (hi : i ≠ 14) : vI σ' 0 i = vI σ 0 i := by
  unfold vI; rw [h.2 i hi]
def DAT (σ : Mem) (n m : Nat) : Prop :=
  (vI σ 1 2 = n ∧ n ≤ 5 ∧ vI σ 4 2 = m ∧ m ≤ 5) ∧
  (∀ i, i < n → 0 ≤ vI σ 2 i ∧ vI σ 2 i ≤ 100 ∧ 1 ≤ vI σ 3 i ∧ vI σ 3 i ≤ 20) ∧
  (∀ j, j < m → 0 ≤ vI σ 5 j ∧ vI σ 5 j ≤ 100 ∧ 1 ≤ vI σ 6 j ∧ vI σ 6 j ≤ 20) ∧
  (∀ w, w < 25 → -1 ≤ vI σ 7 w ∧ vI σ 7 w ≤ 10000 ∧ -1 ≤ vI σ 8 w ∧ vI σ 8 w ≤ 20 ∧ 0 ≤ vI σ 9 w ∧ vI σ 9 w ≤ 20) ∧
  (∀ i j, i < 5 → j < 5 → ¬ (i < n ∧ j < m) → vI σ 7 (5 * i + j) = -1 ∧ vI σ 8 (5 * i + j) = -1 ∧ vI σ 9 (5 * i + j) = 0) ∧
  (∀ i, i < 5 → n ≤ i → vI σ 3 i = 0) ∧ (∀ j, j < 5 → m ≤ j → vI σ 6 j = 0) ∧
  (0 ≤ vI σ 0 10 ∧ vI σ 0 10 ≤ 2 ∧ 0 ≤ vI σ 0 11 ∧ vI σ 0 11 ≤ 200 ∧ (vI σ 0 10 = 2 → 1 ≤ vI σ 0 11)) ∧
  (0 ≤ vI σ 0 12 ∧ vI σ 0 12 ≤ 10000 ∧ 0 ≤ vI σ 0 13 ∧ vI σ 0 13 ≤ 10000)
theorem sd_dat {σ σ' : Mem} {n m : Nat} (h : SD σ σ') (hD : DAT σ n m) : DAT σ' n m := by
  unfold DAT
  rw [sd_v0 h (show 10 ≠ 14 by omega), sd_v0 h (show 11 ≠ 14 by omega), sd_v0 h (show 12 ≠ 14 by omega), sd_v0 h (show 13 ≠ 14 by omega)]
  simp only [sd_vI h (show 1 ≤ 1 by omega) (show 1 ≤ 9 by omega), sd_vI h (show 1 ≤ 2 by omega) (show 2 ≤ 9 by omega), sd_vI h (show 1 ≤ 3 by omega) (show 3 ≤ 9 by omega), sd_vI h (show 1 ≤ 4 by omega) (show 4 ≤ 9 by omega), sd_vI h (show 1 ≤ 5 by omega) (show 5 ≤ 9 by omega), sd_vI h (show 1 ≤ 6 by omega) (show 6 ≤ 9 by omega), sd_vI h (show 1 ≤ 7 by omega) (show 7 ≤ 9 by omega), sd_vI h (show 1 ≤ 8 by omega) (show 8 ≤ 9 by omega), sd_vI h (show 1 ≤ 9 by omega) (show 9 ≤ 9 by omega)]
  exact hD
def dst (a b : Int) : Int := if a < b then b - a else a - b
def apt (me len a b : Int) : Int := if me = 1 then dst a b * dst a b else if me = 2 then min (dst a b % len) (len - dst a b % len) else dst a b
theorem dst_bd {a b : Int} (ha : 0 ≤ a ∧ a ≤ 100) (hb : 0 ≤ b ∧ b ≤ 100) : 0 ≤ dst a b ∧ dst a b ≤ 100 := by
  unfold dst; split <;> omega
theorem apt_bd {me len a b : Int} (ha : 0 ≤ a ∧ a ≤ 100) (hb : 0 ≤ b ∧ b ≤ 100) (hl : me = 2 → 1 ≤ len ∧ len ≤ 200) : 0 ≤ apt me len a b ∧ apt me len a b ≤ 10000 := by
  have hd := dst_bd ha hb
  unfold apt
  split
  · exact mul_bd (X := 100) (Y := 100) hd hd
  · split
    · rename_i h
      have h1 := hl h
      have e1 := Int.emod_nonneg (dst a b) (show len ≠ 0 by omega)
      have e2 := Int.emod_lt_of_pos (dst a b) (show 0 < len by omega)
      generalize dst a b % len = r at *
      omega
    · omega
def unD (σ : Mem) (i j : Nat) : Int := if vI σ 7 (5 * i + j) = -1 then apt (vI σ 0 10) (vI σ 0 11) (vI σ 2 i) (vI σ 5 j) else vI σ 7 (5 * i + j)
def unW (σ : Mem) (n m w : Nat) : Int := if w / 5 < n ∧ w % 5 < m then unD σ (w / 5) (w % 5) else 0
def uW (σ : Mem) (n m w : Nat) : Int := if w / 5 < n ∧ w % 5 < m then (if vI σ 8 w = -1 then 20 else vI σ 8 w) else 0
def aW (σ : Mem) (n i : Nat) : Int := if i < n then vI σ 3 i else 0
def bW (σ : Mem) (m j : Nat) : Int := if j < m then vI σ 6 j else 0
theorem sd_unD {σ σ' : Mem} (h : SD σ σ') : unD σ' = unD σ := by
  funext i j
  unfold unD
  rw [sd_vI h (by omega) (by omega), sd_v0 h (by omega), sd_v0 h (by omega), sd_vI h (by omega) (by omega), sd_vI h (by omega) (by omega)]
theorem sd_unW {σ σ' : Mem} (h : SD σ σ') {n m : Nat} : unW σ' n m = unW σ n m := by
  funext w; unfold unW; rw [sd_unD h]
theorem sd_uW {σ σ' : Mem} (h : SD σ σ') {n m : Nat} : uW σ' n m = uW σ n m := by
  funext w; unfold uW; rw [sd_vI h (by omega) (by omega)]
theorem sd_aW {σ σ' : Mem} (h : SD σ σ') {n : Nat} : aW σ' n = aW σ n := by
  funext w; unfold aW; rw [sd_vI h (by omega) (by omega)]
theorem sd_bW {σ σ' : Mem} (h : SD σ σ') {m : Nat} : bW σ' m = bW σ m := by
  funext w; unfold bW; rw [sd_vI h (by omega) (by omega)]
theorem unD_bd {σ : Mem} {n m i j : Nat} (hD : DAT σ n m) (hi : i < n) (hj : j < m) : 0 ≤ unD σ i j ∧ unD σ i j ≤ 10000 := by
  obtain ⟨h1, h2, h3, h4, h5, h6, h7, h8, h9⟩ := hD
  unfold unD
  split
  · have := h2 i hi
    have := h3 j hj
    exact apt_bd (by omega) (by omega) (by omega)
  · have := h4 (5 * i + j) (by omega)
    omega
theorem s_abI {x y : Int32} (hx : 0 ≤ x.toInt ∧ x.toInt ≤ 100) (hy : 0 ≤ y.toInt ∧ y.toInt ≤ 100) : (abI (x - y)).toInt = dst x.toInt y.toInt := by
  have e : (x - y).toInt = x.toInt - y.toInt := tI_sub (by unfold inR; omega)
  have z : ((0 : Int32)).toInt = 0 := by decide
  unfold abI dst
  split
  · rename_i h
    rw [leI, e, z] at h
    rw [if_neg (by omega), e]
  · rename_i h
    rw [leI, e, z] at h
    rw [if_pos (by omega), tI_sub (by rw [e, z]; unfold inR; omega), e, z]
    omega
theorem I_0 : ((0 : Int32)).toInt = 0 := by decide
theorem I_1 : ((1 : Int32)).toInt = 1 := by decide
theorem I_2 : ((2 : Int32)).toInt = 2 := by decide
theorem I_m1 : ((-1 : Int32)).toInt = -1 := by decide
theorem I_20 : ((20 : Int32)).toInt = 20 := by decide
theorem I_25 : ((25 : Int32)).toInt = 25 := by decide
theorem vIe {σ : Mem} {k i : Nat} {x : Int32} {z : Int} (hz : x.toInt = z) : rI σ k i = x ↔ vI σ k i = z := by
  rw [eqI, hz]; rfl
theorem s_measured {σ : Mem} {x y : Int32} (hx : 0 ≤ x.toInt ∧ x.toInt ≤ 100) (hy : 0 ≤ y.toInt ∧ y.toInt ≤ 100) (h8 : 0 ≤ vI σ 0 10 ∧ vI σ 0 10 ≤ 2 ∧ 0 ≤ vI σ 0 11 ∧ vI σ 0 11 ≤ 200 ∧ (vI σ 0 10 = 2 → 1 ≤ vI σ 0 11)) :
    ∃ z, fX2_measured x y σ = some (z, σ) ∧ z.toInt = apt (vI σ 0 10) (vI σ 0 11) x.toInt y.toInt := by
  have ha := s_abI hx hy
  have hd := dst_bd hx hy
  unfold fX2_measured fX2_measured_e ltI fX2_measured_34
  dsimp only
  by_cases h1 : vI σ 0 10 = 1
  · rw [if_pos ((vIe I_1).mpr h1)]
    refine ⟨_, rfl, ?_⟩
    have hm := mul_bd (X := 100) (Y := 100) hd hd
    rw [tI_mul (by rw [ha]; unfold inR; omega), ha]
    unfold apt
    rw [if_pos h1]
  · rw [if_neg (fun e => h1 ((vIe I_1).mp e))]
    by_cases h0 : vI σ 0 10 = 0
    · rw [if_pos ((vIe I_0).mpr h0)]
      refine ⟨_, rfl, ?_⟩
      rw [ha]
      unfold apt
      rw [if_neg h1, if_neg (by omega)]
    · have h2 : vI σ 0 10 = 2 := by omega
      have hl := h8.2.2.2.2 h2
      rw [if_neg (fun e => h0 ((vIe I_0).mp e)), if_pos (by rw [leI, I_1]; exact hl)]
      have hne : rI σ 0 11 ≠ 0 := fun e => by have := (vIe I_0).mp e; omega
      rw [show decide (rI σ 0 11 ≠ 0) = true from decide_eq_true hne, grd_t]
      have e1 : abI (x - y) = nI (dst x.toInt y.toInt).toNat := nI_eqI _ (by rw [ha]; omega)
      have e2 : rI σ 0 11 = nI (vI σ 0 11).toNat := nI_eqI _ (by show vI σ 0 11 = _; omega)
      refine ⟨_, rfl, ?_⟩
      rw [e1, e2, pk_rem (by omega) (by omega) (by omega), mnI_t, tI_sub, nI_t, nI_t]
      · unfold apt
        rw [if_neg h1, if_pos h2]
        have e3 : (((dst x.toInt y.toInt).toNat % (vI σ 0 11).toNat : Nat) : Int) = dst x.toInt y.toInt % vI σ 0 11 := by
          rw [Int.natCast_emod, Int.toNat_of_nonneg hd.1, Int.toNat_of_nonneg (by omega)]
        rw [e3, Int.toNat_of_nonneg (by omega)]
      · omega
      · have := Nat.mod_le (dst x.toInt y.toInt).toNat (vI σ 0 11).toNat
        omega
      · have := Nat.mod_le (dst x.toInt y.toInt).toNat (vI σ 0 11).toNat
        rw [nI_t (by omega), nI_t (by omega)]
        unfold inR
        omega
theorem s_unitCost {σ : Mem} {n m i j : Nat} (hD : DAT σ n m) (hi : i < n) (hj : j < m) : ∃ z, fX2_unitCost (nI i) (nI j) σ = some (z, σ) ∧ z.toInt = unD σ i j := by
  have hb := hD.1
  unfold fX2_unitCost fX2_unitCost_e ltI fX2_unitCost_42
  rw [s_wayOf, bnd_s, inb_n (by omega) (by omega), grd_t, ix_n (n := 5 * i + j) (by omega)]
  dsimp only
  have h2 := hD.2.1 i hi
  have h3 := hD.2.2.1 j hj
  have h8 := hD.2.2.2.2.2.2.2.1
  unfold unD
  by_cases h : vI σ 7 (5 * i + j) = -1
  · rw [if_pos ((vIe I_m1).mpr h), if_pos h, inb_n (by omega) (by omega), inb_n (by omega) (by omega), grd_t, grd_t, ix_n (n := i) (by omega), ix_n (n := j) (by omega)]
    obtain ⟨z, e, hz⟩ := s_measured (σ := σ) (x := rI σ 2 i) (y := rI σ 5 j) ⟨h2.1, h2.2.1⟩ ⟨h3.1, h3.2.1⟩ h8
    exact ⟨z, by rw [e, bnd_s], hz⟩
  · rw [if_neg (fun e => h ((vIe I_m1).mp e)), if_neg h]
    exact ⟨_, rfl, rfl⟩
/-- a plan laid out, nothing carried -/
def LAY (b : Nat) (σ : Mem) (a bb u un : Nat → Int) (lo mi : Int) : Prop :=
  (∀ i, i < 5 → vI σ (b + 1) i = a i) ∧ (∀ j, j < 5 → vI σ (b + 2) j = bb j) ∧ (∀ w, w < 25 → fl b σ w = 0) ∧
  (∀ w, w < 25 → vI σ (b + 4) w = u w ∧ (0 < u w → vI σ (b + 5) w = un w ∧ vJ σ (b + 6) w = cno un w)) ∧
  vI σ b 4 = lo * sm 5 a + mi * sm 5 bb ∧ vI σ b 13 = lo ∧ vI σ b 14 = mi ∧ OPX b σ u
theorem lay_plan {b : Nat} {σ : Mem} {a bb u un : Nat → Int} {lo mi : Int} (h : LAY b σ a bb u un lo mi) (hlm : 0 ≤ lo ∧ lo ≤ 10000 ∧ 0 ≤ mi ∧ mi ≤ 10000) (ha : ∀ i, i < 5 → 0 ≤ a i ∧ a i ≤ 21) (hb : ∀ j, j < 5 → 0 ≤ bb j ∧ bb j ≤ 21) (hu : ∀ w, w < 25 → 0 ≤ u w ∧ u w ≤ 20) (hun : ∀ w, w < 25 → 0 ≤ un w ∧ un w ≤ 10000) : PLAN b σ a bb u un lo mi := by
  obtain ⟨h1, h2, h3, h4, h5, h6, h7, h8⟩ := h
  have hcol : ∀ j, j < 5 → colS (fl b σ) j = 0 := fun j hj => by
    unfold colS
    rw [sm_congr (h := fun _ => 0) (fun i hi => h3 (5 * i + j) (by omega)), sm_zero]
  have hrow : ∀ i, i < 5 → rowS (fl b σ) i = 0 := fun i hi => by
    unfold rowS
    rw [sm_congr (h := fun _ => 0) (fun j hj => h3 (5 * i + j) (by omega)), sm_zero]
  have htot : tot (fun w => (un w - lo - mi) * fl b σ w) = 0 := by
    unfold tot
    rw [sm_congr (h := fun _ => 0) (fun i hi => ?_), sm_zero]
    rw [sm_congr (h := fun _ => 0) (fun j hj => ?_), sm_zero]
    show (un (5 * i + j) - lo - mi) * fl b σ (5 * i + j) = 0
    rw [h3 (5 * i + j) (by omega), Int.mul_zero]
  refine ⟨⟨fun w hw => ?_, hlm, h6, h7⟩, fun w hw h => ((h4 w hw).2 h).2, fun i hi => ?_, fun j hj => ?_, ?_⟩
  · have := h3 w hw
    have := hu w hw
    have := hun w hw
    have q := h4 w hw
    exact ⟨by omega, by omega, by omega, by omega, by omega, by omega, fun h => (q.2 h).1⟩
  · have := h1 i hi
    have := ha i hi
    rw [hrow i hi]
    omega
  · have := h2 j hj
    have := hb j hj
    rw [hcol j hj]
    omega
  · rw [htot, h5]; omega
theorem vI_wne {σ : Mem} {k i : Nat} {v : Int32} {k' i' : Nat} (h : k' ≠ k) : vI (wI σ k i v) k' i' = vI σ k' i' := by
  rw [vI_w, if_neg (fun q => h q.1)]
theorem wI_smi {b : Nat} {σ : Mem} {k i : Nat} {v : Int32} (h : b ≤ k ∧ k ≤ b + 10 ∨ b ≤ k ∧ 35 ≤ k) : SMI b σ (wI σ k i v) := fun k' hk => ⟨(wI_ne σ i v (by omega)).1, rfl⟩
theorem wJ_smi {b : Nat} {σ : Mem} {k i : Nat} {v : Int64} (h : b ≤ k ∧ k ≤ b + 10) : SMI b σ (wJ σ k i v) := fun k' hk => ⟨rfl, (wJ_ne σ i v (by omega)).2⟩
theorem opx_keep {b : Nat} {σ σ' : Mem} {u : Nat → Int} (h1 : vI σ' b 12 = vI σ b 12) (h2 : ∀ k, vI σ' (34 + b / 12) k = vI σ (34 + b / 12) k) (h : OPX b σ u) : OPX b σ' u := by
  obtain ⟨N, op, q1, q2, q3, q4, q5, q6⟩ := h
  exact ⟨N, op, q1, q2, by rw [h1]; exact q3, fun k hk => ⟨(q4 k hk).1, by rw [h2]; exact (q4 k hk).2⟩, q5, q6⟩
theorem opx_mono {b : Nat} {σ : Mem} {u u' : Nat → Int} (hu : ∀ w, w < 25 → 0 < u' w → 0 < u w) (h : OPX b σ u) : OPX b σ u' := by
  obtain ⟨N, op, q1, q2, q3, q4, q5, q6⟩ := h
  exact ⟨N, op, q1, q2, q3, q4, q5, fun w hw h => q6 w hw (hu w hw h)⟩
theorem opx_24 {b : Nat} {σ : Mem} {u : Nat → Int} (h : OPX b σ u) : b ≤ 24 := by
  obtain ⟨N, op, q1, -⟩ := h
  exact q1
theorem s_begin {b : Nat} {σ : Mem} {x y : Int32} (hb : ki b = 3) (un : Nat → Int) : ∃ σ', fX0_begin b x y σ = some (0, σ') ∧ SMI b σ σ' ∧ LAY b σ' (fun _ => 0) (fun _ => 0) (fun _ => 0) un x.toInt y.toInt ∧ vI σ' b 12 = 0 := by
  have hb24 : b ≤ 24 := by rcases ki_3 hb with rfl | rfl <;> omega
  unfold fX0_begin fX0_begin_e ltM
  rw [s_fill (by rw [pl1 hb]; decide), bnd_s, s_fill (by rw [pl2 hb]; decide), bnd_s, s_fill (by rw [pl3 hb]; decide), bnd_s, s_fill (by rw [pl4 hb]; decide), bnd_s, pl1 hb, pl2 hb, pl3 hb, pl4 hb]
  have h12 : ∀ τ : Mem, vI (wI (wI (wI (wI τ b 4 0) b 12 0) b 13 x) b 14 y) b 12 = 0 := fun τ => by
    rw [vI_w, if_neg (by omega), vI_w, if_neg (by omega), vI_w, if_pos ⟨rfl, rfl⟩, I_0]
  refine ⟨_, rfl, ?_, ?_, h12 _⟩
  · intro k hk
    refine ⟨?_, rfl⟩
    rw [(wI_ne _ _ _ (by omega)).1, (wI_ne _ _ _ (by omega)).1, (wI_ne _ _ _ (by omega)).1, (wI_ne _ _ _ (by omega)).1]
    unfold fillI
    simp only
    rw [if_neg (by omega), if_neg (by omega), if_neg (by omega), if_neg (by omega)]
  · have f : ∀ (σ : Mem) (k n k' i' : Nat), vI (fillI σ k 0 n) k' i' = if k' = k ∧ i' < n then 0 else vI σ k' i' := fun σ k n k' i' => by
      unfold vI; rw [rI_f]; split <;> rfl
    refine ⟨fun i hi => ?_, fun j hj => ?_, fun w hw => ?_, fun w hw => ⟨?_, fun h => absurd h (by dsimp only; omega)⟩, ?_, ?_, ?_, ⟨0, fun _ => 0, hb24, by omega, h12 _, fun k hk => absurd hk (by omega), fun i j _ h => absurd h (by omega), fun w _ h => absurd h (by dsimp only; omega)⟩⟩
    · rw [vI_wne (by omega), vI_wne (by omega), vI_wne (by omega), vI_wne (by omega), f, if_neg (by omega), f, if_neg (by omega), f, if_neg (by omega), f, if_pos ⟨rfl, hi⟩]
    · rw [vI_wne (by omega), vI_wne (by omega), vI_wne (by omega), vI_wne (by omega), f, if_neg (by omega), f, if_neg (by omega), f, if_pos ⟨rfl, hj⟩]
    · unfold fl
      rw [vI_wne (by omega), vI_wne (by omega), vI_wne (by omega), vI_wne (by omega), f, if_neg (by omega), f, if_pos ⟨rfl, hw⟩]
    · rw [vI_wne (by omega), vI_wne (by omega), vI_wne (by omega), vI_wne (by omega), f, if_pos ⟨rfl, hw⟩]
    · rw [vI_w, if_neg (by omega), vI_w, if_neg (by omega), vI_w, if_neg (by omega), vI_w, if_pos ⟨rfl, rfl⟩, sm_zero, I_0]
      omega
    · rw [vI_w, if_neg (by omega), vI_w, if_pos ⟨rfl, rfl⟩]
    · rw [vI_w, if_pos ⟨rfl, rfl⟩]
section LAYS
variable {b : Nat} {a bb u un : Nat → Int} {lo mi : Int}
theorem s_letStay {σ : Mem} {i : Nat} {x : Int32} (h : LAY b σ a bb u un lo mi) (hi : i < 5) (hlm : 0 ≤ lo ∧ lo ≤ 10000 ∧ 0 ≤ mi ∧ mi ≤ 10000) (hx : -21 ≤ x.toInt ∧ x.toInt ≤ 21) (ha : ∀ i, i < 5 → 0 ≤ a i ∧ a i ≤ 21) (hb : ∀ j, j < 5 → 0 ≤ bb j ∧ bb j ≤ 21) :
    ∃ σ', fX0_letStay b (nI i) x σ = some (0, σ') ∧ SMI b σ σ' ∧ LAY b σ' (fun k => if k = i then a k + x.toInt else a k) bb u un lo mi ∧ vI σ' b 12 = vI σ b 12 := by
  obtain ⟨h1, h2, h3, h4, h5, h6, h7, h8⟩ := h
  have hb24 := opx_24 h8
  unfold fX0_letStay fX0_letStay_e ltM
  rw [inb_n hi (by omega), grd_t, grd_t, ix_n (by omega)]
  refine ⟨_, rfl, (wI_smi (by omega)).tr (wI_smi (by omega)), ⟨fun k hk => ?_, fun j hj => ?_, fun w hw => ?_, fun w hw => ?_, ?_, ?_, ?_, opx_keep (by rw [vI_w, if_neg (by omega), vI_wne (by omega)]) (fun k => by rw [vI_wne (by omega), vI_wne (by omega)]) h8⟩, by rw [vI_w, if_neg (by omega), vI_wne (by omega)]⟩
  · show _ = if k = i then a k + x.toInt else a k
    rw [vI_wne (by omega), vI_w]
    by_cases e : k = i
    · subst e
      rw [if_pos ⟨rfl, rfl⟩, if_pos rfl, tI_add, ← h1 k hk]
      · rfl
      · have := ha k hk
        have := h1 k hk
        unfold vI at this
        unfold inR
        omega
    · rw [if_neg (by omega), if_neg e]; exact h1 k hk
  · rw [vI_wne (by omega), vI_wne (by omega)]; exact h2 j hj
  · unfold fl
    rw [vI_wne (by omega), vI_wne (by omega)]; exact h3 w hw
  · rw [vI_wne (by omega), vI_wne (by omega), vI_wne (by omega), vI_wne (by omega), vJ_wI, vJ_wI]; exact h4 w hw
  · have hsm : sm 5 (fun k => if k = i then a k + x.toInt else a k) = sm 5 a + x.toInt := by
      rw [sm_congr (h := fun k => if k = i then a i + x.toInt else a k) (fun k _ => by by_cases e : k = i <;> simp [e]), sm_upd hi]
      omega
    have a1 : 0 ≤ sm 5 a ∧ sm 5 a ≤ 105 := by
      have q0 := ha 0 (by omega); have q1 := ha 1 (by omega); have q2 := ha 2 (by omega); have q3 := ha 3 (by omega); have q4 := ha 4 (by omega)
      simp only [sm]
      omega
    have b1 : 0 ≤ sm 5 bb ∧ sm 5 bb ≤ 105 := by
      have q0 := hb 0 (by omega); have q1 := hb 1 (by omega); have q2 := hb 2 (by omega); have q3 := hb 3 (by omega); have q4 := hb 4 (by omega)
      simp only [sm]
      omega
    have m1 := mul_bd (X := 10000) (Y := 105) ⟨hlm.1, hlm.2.1⟩ a1
    have m2 := mul_bd (X := 10000) (Y := 105) ⟨hlm.2.2.1, hlm.2.2.2⟩ b1
    have e2 : x.toInt * lo ≤ 21 * lo := Int.mul_le_mul_of_nonneg_right hx.2 hlm.1
    have e3 : -21 * lo ≤ x.toInt * lo := Int.mul_le_mul_of_nonneg_right hx.1 hlm.1
    have e4 : (rI σ b 13).toInt = lo := h6
    have e5 : (rI σ b 4).toInt = lo * sm 5 a + mi * sm 5 bb := h5
    rw [vI_w, if_pos ⟨rfl, rfl⟩, rI_w, if_neg (by omega), rI_w, if_neg (by omega), hsm, Int.mul_add, Int.mul_comm lo x.toInt]
    rw [tI_add, tI_mul, e4, e5]
    · omega
    · rw [e4]; unfold inR; omega
    · rw [tI_mul, e4, e5]
      · unfold inR; omega
      · rw [e4]; unfold inR; omega
  · rw [vI_w, if_neg (by omega), vI_wne (by omega)]; exact h6
  · rw [vI_w, if_neg (by omega), vI_wne (by omega)]; exact h7
theorem s_letLack {σ : Mem} {i : Nat} {x : Int32} (h : LAY b σ a bb u un lo mi) (hi : i < 5) (hlm : 0 ≤ lo ∧ lo ≤ 10000 ∧ 0 ≤ mi ∧ mi ≤ 10000) (hx : -21 ≤ x.toInt ∧ x.toInt ≤ 21) (ha : ∀ i, i < 5 → 0 ≤ a i ∧ a i ≤ 21) (hb : ∀ j, j < 5 → 0 ≤ bb j ∧ bb j ≤ 21) :
    ∃ σ', fX0_letLack b (nI i) x σ = some (0, σ') ∧ SMI b σ σ' ∧ LAY b σ' a (fun k => if k = i then bb k + x.toInt else bb k) u un lo mi ∧ vI σ' b 12 = vI σ b 12 := by
  obtain ⟨h1, h2, h3, h4, h5, h6, h7, h8⟩ := h
  have hb24 := opx_24 h8
  unfold fX0_letLack fX0_letLack_e ltM
  rw [inb_n hi (by omega), grd_t, grd_t, ix_n (by omega)]
  refine ⟨_, rfl, (wI_smi (by omega)).tr (wI_smi (by omega)), ⟨fun j hj => ?_, fun k hk => ?_, fun w hw => ?_, fun w hw => ?_, ?_, ?_, ?_, opx_keep (by rw [vI_w, if_neg (by omega), vI_wne (by omega)]) (fun k => by rw [vI_wne (by omega), vI_wne (by omega)]) h8⟩, by rw [vI_w, if_neg (by omega), vI_wne (by omega)]⟩
  · rw [vI_wne (by omega), vI_wne (by omega)]; exact h1 j hj
  · show _ = if k = i then bb k + x.toInt else bb k
    rw [vI_wne (by omega), vI_w]
    by_cases e : k = i
    · subst e
      rw [if_pos ⟨rfl, rfl⟩, if_pos rfl, tI_add, ← h2 k hk]
      · rfl
      · have := hb k hk
        have := h2 k hk
        unfold vI at this
        unfold inR
        omega
    · rw [if_neg (by omega), if_neg e]; exact h2 k hk
  · unfold fl
    rw [vI_wne (by omega), vI_wne (by omega)]; exact h3 w hw
  · rw [vI_wne (by omega), vI_wne (by omega), vI_wne (by omega), vI_wne (by omega), vJ_wI, vJ_wI]; exact h4 w hw
  · have hsm : sm 5 (fun k => if k = i then bb k + x.toInt else bb k) = sm 5 bb + x.toInt := by
      rw [sm_congr (h := fun k => if k = i then bb i + x.toInt else bb k) (fun k _ => by by_cases e : k = i <;> simp [e]), sm_upd hi]
      omega
    have a1 : 0 ≤ sm 5 a ∧ sm 5 a ≤ 105 := by
      have q0 := ha 0 (by omega); have q1 := ha 1 (by omega); have q2 := ha 2 (by omega); have q3 := ha 3 (by omega); have q4 := ha 4 (by omega)
      simp only [sm]
      omega
    have b1 : 0 ≤ sm 5 bb ∧ sm 5 bb ≤ 105 := by
      have q0 := hb 0 (by omega); have q1 := hb 1 (by omega); have q2 := hb 2 (by omega); have q3 := hb 3 (by omega); have q4 := hb 4 (by omega)
      simp only [sm]
      omega
    have m1 := mul_bd (X := 10000) (Y := 105) ⟨hlm.1, hlm.2.1⟩ a1
    have m2 := mul_bd (X := 10000) (Y := 105) ⟨hlm.2.2.1, hlm.2.2.2⟩ b1
    have e2 : x.toInt * mi ≤ 21 * mi := Int.mul_le_mul_of_nonneg_right hx.2 hlm.2.2.1
    have e3 : -21 * mi ≤ x.toInt * mi := Int.mul_le_mul_of_nonneg_right hx.1 hlm.2.2.1
    have e4 : (rI σ b 14).toInt = mi := h7
    have e5 : (rI σ b 4).toInt = lo * sm 5 a + mi * sm 5 bb := h5
    rw [vI_w, if_pos ⟨rfl, rfl⟩, rI_w, if_neg (by omega), rI_w, if_neg (by omega), hsm, Int.mul_add, Int.mul_comm mi x.toInt]
    rw [tI_add, tI_mul, e4, e5]
    · omega
    · rw [e4]; unfold inR; omega
    · rw [tI_mul, e4, e5]
      · unfold inR; omega
      · rw [e4]; unfold inR; omega
  · rw [vI_w, if_neg (by omega), vI_wne (by omega)]; exact h6
  · rw [vI_w, if_neg (by omega), vI_wne (by omega)]; exact h7
end LAYS
