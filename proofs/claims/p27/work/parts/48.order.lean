/-! By order. -/
section ORDER
variable {σ : Mem} {n m : Nat}
def CGO (σ : Mem) : Prop := vI σ 0 10 ≠ 1 ∧ sm 5 (fun i => vI σ 3 i) = sm 5 (fun j => vI σ 6 j) ∧ ∀ w, w < 25 → vI σ 7 w = -1 ∧ vI σ 8 w = -1
theorem cg_loop (hA : vI σ 0 10 ≠ 1) (hB : sm 5 (fun i => vI σ 3 i) = sm 5 (fun j => vI σ 6 j)) : ∀ (d w fu : Nat), w + d = 25 → d < fu → (∀ k, k < w → vI σ 7 k = -1 ∧ vI σ 8 k = -1) → (CGO σ ∧ fX2_canGoByOrder_35 fu (nI w) σ = some (1, σ)) ∨ (¬ CGO σ ∧ fX2_canGoByOrder_35 fu (nI w) σ = some (0, σ)) := by
  intro d
  induction d with
  | zero =>
    intro w fu h1 h2 hI
    obtain ⟨fu, rfl⟩ : ∃ q, fu = q + 1 := ⟨fu - 1, by omega⟩
    have hw : w = 25 := by omega
    subst hw
    refine Or.inl ⟨⟨hA, hB, hI⟩, ?_⟩
    show fX2_canGoByOrder_35b _ _ _ = _
    unfold fX2_canGoByOrder_35b
    rw [if_pos (by decide)]
    rfl
  | succ d ih =>
    intro w fu h1 h2 hI
    obtain ⟨fu, rfl⟩ : ∃ q, fu = q + 1 := ⟨fu - 1, by omega⟩
    have hs : fX2_canGoByOrder_35 (fu + 1) (nI w) σ = if rI σ 7 w = -1 then (if rI σ 8 w = -1 then fX2_canGoByOrder_35 fu (nI (w + 1)) σ else some (0, σ)) else some (0, σ) := by
      show fX2_canGoByOrder_35b _ _ _ = _
      unfold fX2_canGoByOrder_35b fX2_canGoByOrder_61
      rw [if_neg (by rw [leI, nI_t (by omega), I_25]; omega), inb_n (show w < 25 by omega) (by omega), grd_t, grd_t, ix_n (n := w) (by omega), nI_1]
      rfl
    rw [hs]
    by_cases h7 : vI σ 7 w = -1
    · rw [if_pos ((vIe I_m1).mpr h7)]
      by_cases h8 : vI σ 8 w = -1
      · rw [if_pos ((vIe I_m1).mpr h8)]
        exact ih (w + 1) fu (by omega) (by omega) (fun k hk => by
          by_cases e : k = w
          · subst e; exact ⟨h7, h8⟩
          · exact hI k (by omega))
      · rw [if_neg (fun e => h8 ((vIe I_m1).mp e))]
        exact Or.inr ⟨fun h => h8 (h.2.2 w (by omega)).2, rfl⟩
    · rw [if_neg (fun e => h7 ((vIe I_m1).mp e))]
      exact Or.inr ⟨fun h => h7 (h.2.2 w (by omega)).1, rfl⟩
theorem sm5_bd {g : Nat → Int} (h : ∀ i, i < 5 → 0 ≤ g i ∧ g i ≤ 20) : 0 ≤ sm 5 g ∧ sm 5 g ≤ 100 := sm_bd h
theorem am_bd (hD : DAT σ n m) : (∀ i, i < 5 → 0 ≤ vI σ 3 i ∧ vI σ 3 i ≤ 20) ∧ ∀ i, i < 5 → 0 ≤ vI σ 6 i ∧ vI σ 6 i ≤ 20 := by
  refine ⟨fun i hi => ?_, fun i hi => ?_⟩
  · by_cases h : i < n
    · have := hD.2.1 i h; omega
    · have := hD.2.2.2.2.2.1 i hi (by omega); omega
  · by_cases h : i < m
    · have := hD.2.2.1 i h; omega
    · have := hD.2.2.2.2.2.2.1 i hi (by omega); omega
theorem s_canGo (hD : DAT σ n m) : (CGO σ ∧ fX2_canGoByOrder σ = some (1, σ)) ∨ (¬ CGO σ ∧ fX2_canGoByOrder σ = some (0, σ)) := by
  unfold fX2_canGoByOrder fX2_canGoByOrder_e fX2_canGoByOrder_31
  by_cases h1 : vI σ 0 10 = 1
  · rw [if_pos ((vIe I_1).mpr h1)]
    exact Or.inr ⟨fun h => h.1 h1, rfl⟩
  · rw [if_neg (fun e => h1 ((vIe I_1).mp e)), s_sum (by decide), bnd_s, s_sum (by decide), bnd_s]
    have b1 : 0 ≤ sm 5 (fun i => vI σ 3 i) ∧ sm 5 (fun i => vI σ 3 i) ≤ 100 := sm5_bd (am_bd hD).1
    have b2 : 0 ≤ sm 5 (fun i => vI σ 6 i) ∧ sm 5 (fun i => vI σ 6 i) ≤ 100 := sm5_bd (am_bd hD).2
    have ee : oI (sm (ln 3) (fun i => vI σ 3 i)) = oI (sm (ln 6) (fun i => vI σ 6 i)) ↔ sm 5 (fun i => vI σ 3 i) = sm 5 (fun j => vI σ 6 j) := by
      rw [eqI, oI_to (by show inR (sm 5 _); unfold inR; omega), oI_to (by show inR (sm 5 _); unfold inR; omega)]
      exact Iff.rfl
    by_cases h2 : sm 5 (fun i => vI σ 3 i) = sm 5 (fun j => vI σ 6 j)
    · rw [if_pos (ee.mpr h2)]
      exact cg_loop h1 h2 25 0 FU (by omega) (by unfold FU; omega) (fun k h => absurd h (by omega))
    · rw [if_neg (fun q => h2 (ee.mp q))]
      exact Or.inr ⟨fun h => h2 h.2.1, rfl⟩
/-- only the row of surpluses differs -/
def S10 (σ σ' : Mem) : Prop := (∀ k, k ≠ 10 → σ'.1 k = σ.1 k) ∧ σ'.2 = σ.2
theorem S10.rf : S10 σ σ := ⟨fun _ _ => rfl, rfl⟩
theorem S10.tr {σ1 σ2 : Mem} (h1 : S10 σ σ1) (h2 : S10 σ1 σ2) : S10 σ σ2 := ⟨fun k a => (h2.1 k a).trans (h1.1 k a), h2.2.trans h1.2⟩
theorem s10_rI {σ σ' : Mem} (h : S10 σ σ') {k : Nat} (hk : k ≠ 10) (i : Nat) : rI σ' k i = rI σ k i := by unfold rI; rw [h.1 k hk]
theorem s10_vI {σ σ' : Mem} (h : S10 σ σ') {k : Nat} (hk : k ≠ 10) (i : Nat) : vI σ' k i = vI σ k i := by unfold vI; rw [s10_rI h hk]
theorem s10_inv {σ σ' : Mem} (h : S10 σ σ') (hI : INV σ n m) : INV σ' n m := inv_sr ⟨fun k h1 h2 => ⟨h.1 k (by omega), by rw [h.2]⟩, fun i _ => s10_rI h (by omega) i⟩ (fun k h1 h2 => ⟨h.1 k (by omega), by rw [h.2]⟩) (s10_vI h (by omega) _) hI
theorem s10_sd {σ σ' : Mem} (h : S10 σ σ') : SD σ σ' := ⟨fun k h1 h2 => h.1 k (by omega), fun i _ => s10_rI h (by omega) i⟩
theorem as_loop {P : Nat} (hP : P ≤ 200) {u : Int32} : ∀ (d k fu : Nat) (σ : Mem), k + d = P ∨ (P ≤ k ∧ d = 0 ∧ k ≤ 1000) → d < fu → ∃ σ', fX2_addSurplus_31 fu u (nI P) (nI k) σ = some (0, σ') ∧ S10 σ σ' ∧ ∀ i, rI σ' 10 i = if k ≤ i ∧ i < P then rI σ 10 i + u else rI σ 10 i := by
  intro d
  induction d with
  | zero =>
    intro k fu σ h1 h2
    obtain ⟨fu, rfl⟩ : ∃ q, fu = q + 1 := ⟨fu - 1, by omega⟩
    refine ⟨σ, ?_, S10.rf, fun i => by rw [if_neg (by omega)]⟩
    show fX2_addSurplus_31b _ _ _ _ _ = _
    unfold fX2_addSurplus_31b
    rw [if_pos (by rw [leI, nI_t (by omega), nI_t (by omega)]; omega)]
    rfl
  | succ d ih =>
    intro k fu σ h1 h2
    obtain ⟨fu, rfl⟩ : ∃ q, fu = q + 1 := ⟨fu - 1, by omega⟩
    obtain ⟨σ', q1, q2, q3⟩ := ih (k + 1) fu (wI σ 10 k (rI σ 10 k + u)) (by omega) (by omega)
    refine ⟨σ', ?_, S10.tr ⟨fun k' hk => (wI_ne σ k _ hk).1, rfl⟩ q2, fun i => ?_⟩
    · rw [← q1]
      show fX2_addSurplus_31b _ _ _ _ _ = _
      unfold fX2_addSurplus_31b ltM
      rw [if_neg (by rw [leI, nI_t (by omega), nI_t (by omega)]; omega), if_neg (by rw [leI, nI_t (by omega), I_200]; omega), inb_n (show k < 200 by omega) (by omega), grd_t, grd_t, ix_n (n := k) (by omega), nI_1]
    · have hw : rI (wI σ 10 k (rI σ 10 k + u)) 10 i = if i = k then rI σ 10 k + u else rI σ 10 i := by
        rw [rI_w]
        by_cases e : i = k
        · rw [if_pos ⟨rfl, e⟩, if_pos e]
        · rw [if_neg (fun q => e q.2), if_neg e]
      rw [q3 i, hw]
      by_cases e : i = k
      · subst e
        rw [if_neg (show ¬ (i + 1 ≤ i ∧ i < P) by omega), if_pos rfl, if_pos (show i ≤ i ∧ i < P by omega)]
      · rw [if_neg e]
        by_cases h : k ≤ i ∧ i < P
        · rw [if_pos (show k + 1 ≤ i ∧ i < P by omega), if_pos h]
        · rw [if_neg (show ¬ (k + 1 ≤ i ∧ i < P) by omega), if_neg h]
/-- the first place that a side's units count at -/
def fst' (me len p : Int) : Int := if me = 2 then p % len else p
theorem fst_bd {me len p : Int} (hp : 0 ≤ p ∧ p ≤ 100) (hl : me = 2 → 1 ≤ len ∧ len ≤ 200) : 0 ≤ fst' me len p ∧ fst' me len p ≤ 200 := by
  unfold fst'
  split
  · rename_i h
    have h1 := hl h
    have e1 := Int.emod_nonneg p (show len ≠ 0 by omega)
    have e2 := Int.emod_lt_of_pos p (show 0 < len by omega)
    omega
  · omega
theorem s_addSurplus {P : Nat} (hP : P ≤ 200) {x u : Int32} (h8 : 0 ≤ vI σ 0 10 ∧ vI σ 0 10 ≤ 2 ∧ 0 ≤ vI σ 0 11 ∧ vI σ 0 11 ≤ 200 ∧ (vI σ 0 10 = 2 → 1 ≤ vI σ 0 11)) (hx : 0 ≤ x.toInt ∧ x.toInt ≤ 100) :
    ∃ σ', fX2_addSurplus x u (nI P) σ = some (0, σ') ∧ S10 σ σ' ∧ ∀ i, rI σ' 10 i = if fst' (vI σ 0 10) (vI σ 0 11) x.toInt ≤ (i : Int) ∧ i < P then rI σ 10 i + u else rI σ 10 i := by
  have hf := fst_bd (me := vI σ 0 10) (len := vI σ 0 11) hx (fun h => ⟨h8.2.2.2.2 h, h8.2.2.2.1⟩)
  obtain ⟨σ', q1, q2, q3⟩ := as_loop hP (u := u) (P - (fst' (vI σ 0 10) (vI σ 0 11) x.toInt).toNat) (fst' (vI σ 0 10) (vI σ 0 11) x.toInt).toNat FU σ (by omega) (by unfold FU; omega)
  refine ⟨σ', ?_, q2, fun i => ?_⟩
  · rw [← q1]
    unfold fX2_addSurplus fX2_addSurplus_e fX2_addSurplus_24 fX2_addSurplus_25
    have e0 : nI (fst' (vI σ 0 10) (vI σ 0 11) x.toInt).toNat = oI (fst' (vI σ 0 10) (vI σ 0 11) x.toInt) := by
      rw [oI_nat, Int.toNat_of_nonneg hf.1]
    rw [e0]
    unfold fst'
    by_cases h2 : vI σ 0 10 = 2
    · have hl := h8.2.2.2.2 h2
      rw [if_pos ((vIe I_2).mpr h2), if_neg (by rw [leI, I_0]; exact Int.not_le.mpr hl), if_pos h2]
      have hne : rI σ 0 11 ≠ 0 := fun e => by have := (vIe I_0).mp e; omega
      rw [show decide (rI σ 0 11 ≠ 0) = true from decide_eq_true hne, grd_t]
      have e1 : x = nI x.toInt.toNat := nI_eqI _ (by omega)
      have e2 : rI σ 0 11 = nI (vI σ 0 11).toNat := nI_eqI _ (by show vI σ 0 11 = _; omega)
      have e3 : x - x / rI σ 0 11 * rI σ 0 11 = oI (x.toInt % vI σ 0 11) := by
        rw [e2]
        conv => lhs; rw [e1]
        rw [pk_rem (by omega) (by omega) (by omega), oI_nat]
        congr 1
        rw [Int.natCast_emod, Int.toNat_of_nonneg hx.1, Int.toNat_of_nonneg (by omega)]
      rw [e3]
    · rw [if_neg (fun e => h2 ((vIe I_2).mp e)), if_neg h2, oI_t]
  · rw [q3 i]
    by_cases h : fst' (vI σ 0 10) (vI σ 0 11) x.toInt ≤ (i : Int) ∧ i < P
    · rw [if_pos h, if_pos (by omega)]
    · rw [if_neg h, if_neg (by omega)]
/-- the surplus at a place -/
def surH (σ : Mem) (n : Nat) (k : Nat) : Int := sm n (fun i => if fst' (vI σ 0 10) (vI σ 0 11) (vI σ 2 i) ≤ (k : Int) then vI σ 3 i else 0)
def surJ (σ : Mem) (m : Nat) (k : Nat) : Int := sm m (fun i => if fst' (vI σ 0 10) (vI σ 0 11) (vI σ 5 i) ≤ (k : Int) then vI σ 6 i else 0)
theorem fs_52 {σ0 : Mem} {P : Nat} (hP : P ≤ 200) (hD0 : DAT σ0 n m) : ∀ (d j fu : Nat) (σ : Mem), j + d = m → d < fu → S10 σ0 σ → (∀ k, k < P → rI σ 10 k = oI (surH σ0 n k - surJ σ0 j k)) → ∃ σ', fX2_fillSurpluses_52 fu (nI P) (nI j) σ = some (0, σ') ∧ S10 σ0 σ' ∧ ∀ k, k < P → rI σ' 10 k = oI (surH σ0 n k - surJ σ0 m k) := by
  have h5 := hD0.1
  intro d
  induction d with
  | zero =>
    intro j fu σ h1 h2 hs hI
    obtain ⟨fu, rfl⟩ : ∃ q, fu = q + 1 := ⟨fu - 1, by omega⟩
    have hj : j = m := by omega
    subst hj
    refine ⟨σ, ?_, hs, hI⟩
    show fX2_fillSurpluses_52b _ _ _ _ = _
    unfold fX2_fillSurpluses_52b
    rw [if_pos (le_nI (by rw [s10_vI hs (by omega)]; exact h5.2.2.1) (by omega))]
  | succ d ih =>
    intro j fu σ h1 h2 hs hI
    obtain ⟨fu, rfl⟩ : ∃ q, fu = q + 1 := ⟨fu - 1, by omega⟩
    have hj : j < m := by omega
    have h3 := hD0.2.2.1 j hj
    have e5 : (rI σ 5 j).toInt = vI σ0 5 j := s10_vI hs (by omega) _
    have e0 : ∀ i, vI σ 0 i = vI σ0 0 i := fun i => s10_vI hs (by omega) _
    obtain ⟨σ1, q1, q2, q3⟩ := s_addSurplus (σ := σ) hP (x := rI σ 5 j) (u := -(rI σ 6 j)) (by rw [e0, e0]; exact hD0.2.2.2.2.2.2.2.1) (by rw [e5]; omega)
    obtain ⟨σ', w1, w2, w3⟩ := ih (j + 1) fu σ1 (by omega) (by omega) (hs.tr q2) (fun k hk => by
      rw [q3 k, hI k hk, e0, e0, e5]
      have es : surJ σ0 (j + 1) k = surJ σ0 j k + (if fst' (vI σ0 0 10) (vI σ0 0 11) (vI σ0 5 j) ≤ (k : Int) then vI σ0 6 j else 0) := rfl
      rw [es]
      by_cases h : fst' (vI σ0 0 10) (vI σ0 0 11) (vI σ0 5 j) ≤ (k : Int)
      · rw [if_pos ⟨h, hk⟩, if_pos h, oI_v, s10_vI hs (by omega), oI_neg, oI_add]
        congr 1
        omega
      · rw [if_neg (fun q => h q.1), if_neg h, Int.add_zero])
    refine ⟨σ', ?_, w2, w3⟩
    rw [← w1]
    show fX2_fillSurpluses_52b _ _ _ _ = _
    unfold fX2_fillSurpluses_52b
    rw [if_neg (not_le_nI (by rw [s10_vI hs (by omega)]; exact h5.2.2.1) hj (by omega)), inb_n (show j < 5 by omega) (by omega), grd_t, grd_t, ix_n (n := j) (by omega), q1, bnd_s, nI_1]
theorem fs_10 {σ0 : Mem} {P : Nat} (hP : P ≤ 200) (hD0 : DAT σ0 n m) : ∀ (d j fu : Nat) (σ : Mem), j + d = n → d < fu → S10 σ0 σ → (∀ k, k < P → rI σ 10 k = oI (surH σ0 j k)) → ∃ σ', fX2_fillSurpluses_10 fu (nI P) (nI j) σ = some (0, σ') ∧ S10 σ0 σ' ∧ ∀ k, k < P → rI σ' 10 k = oI (surH σ0 n k - surJ σ0 m k) := by
  have h5 := hD0.1
  intro d
  induction d with
  | zero =>
    intro j fu σ h1 h2 hs hI
    obtain ⟨fu, rfl⟩ : ∃ q, fu = q + 1 := ⟨fu - 1, by omega⟩
    have hj : j = n := by omega
    subst hj
    obtain ⟨σ', w1, w2, w3⟩ := fs_52 hP hD0 m 0 FU σ (by omega) (by unfold FU; omega) hs (fun k hk => by
      rw [hI k hk]
      show oI _ = oI (surH σ0 j k - 0)
      rw [Int.sub_zero])
    refine ⟨σ', ?_, w2, w3⟩
    rw [← w1]
    show fX2_fillSurpluses_10b _ _ _ _ = _
    unfold fX2_fillSurpluses_10b
    rw [if_pos (le_nI (by rw [s10_vI hs (by omega)]; exact h5.1) (by omega))]
    rfl
  | succ d ih =>
    intro j fu σ h1 h2 hs hI
    obtain ⟨fu, rfl⟩ : ∃ q, fu = q + 1 := ⟨fu - 1, by omega⟩
    have hj : j < n := by omega
    have h3 := hD0.2.1 j hj
    have e5 : (rI σ 2 j).toInt = vI σ0 2 j := s10_vI hs (by omega) _
    have e0 : ∀ i, vI σ 0 i = vI σ0 0 i := fun i => s10_vI hs (by omega) _
    obtain ⟨σ1, q1, q2, q3⟩ := s_addSurplus (σ := σ) hP (x := rI σ 2 j) (u := rI σ 3 j) (by rw [e0, e0]; exact hD0.2.2.2.2.2.2.2.1) (by rw [e5]; omega)
    obtain ⟨σ', w1, w2, w3⟩ := ih (j + 1) fu σ1 (by omega) (by omega) (hs.tr q2) (fun k hk => by
      rw [q3 k, hI k hk, e0, e0, e5]
      have es : surH σ0 (j + 1) k = surH σ0 j k + (if fst' (vI σ0 0 10) (vI σ0 0 11) (vI σ0 2 j) ≤ (k : Int) then vI σ0 3 j else 0) := rfl
      rw [es]
      by_cases h : fst' (vI σ0 0 10) (vI σ0 0 11) (vI σ0 2 j) ≤ (k : Int)
      · rw [if_pos ⟨h, hk⟩, if_pos h, oI_v, s10_vI hs (by omega), oI_add]
      · rw [if_neg (fun q => h q.1), if_neg h, Int.add_zero])
    refine ⟨σ', ?_, w2, w3⟩
    rw [← w1]
    show fX2_fillSurpluses_10b _ _ _ _ = _
    unfold fX2_fillSurpluses_10b
    rw [if_neg (not_le_nI (by rw [s10_vI hs (by omega)]; exact h5.1) hj (by omega)), inb_n (show j < 5 by omega) (by omega), grd_t, grd_t, ix_n (n := j) (by omega), q1, bnd_s, nI_1]
theorem s_fillSurpluses {P : Nat} (hP : P ≤ 200) (hD : DAT σ n m) : ∃ σ', fX2_fillSurpluses (nI P) σ = some (0, σ') ∧ S10 σ σ' ∧ ∀ k, k < P → rI σ' 10 k = oI (surH σ n k - surJ σ m k) := by
  have s1 : S10 σ (fillI σ 10 0 200) := ⟨fun k hk => by unfold fillI; simp [hk], rfl⟩
  obtain ⟨σ', w1, w2, w3⟩ := fs_10 hP hD n 0 FU (fillI σ 10 0 200) (by omega) (by have := hD.1; unfold FU; omega) s1 (fun k hk => by
    rw [rI_f, if_pos ⟨rfl, by omega⟩]
    rfl)
  refine ⟨σ', ?_, w2, w3⟩
  unfold fX2_fillSurpluses fX2_fillSurpluses_e
  rw [s_fill (show ln 10 < 1000 by decide), bnd_s]
  exact w1
theorem s_abI2 {z : Int} (hz : -1000 ≤ z ∧ z ≤ 1000) : abI (oI z) = oI (if z < 0 then -z else z) := by
  have e : (oI z).toInt = z := oI_to (by unfold inR; omega)
  unfold abI
  by_cases h : z < 0
  · rw [if_neg (by rw [leI, e, I_0]; omega), if_pos h]
    have : (0 : Int32) = oI 0 := rfl
    rw [this, oI_sub]
    congr 1
    omega
  · rw [if_pos (by rw [leI, e, I_0]; omega), if_neg h]
def obF (s : Nat → Int) (P : Nat) (o : Int) : Int := sm P (fun k => if s k - o < 0 then -(s k - o) else s k - o)
theorem so_loop {s : Nat → Int} {P : Nat} (hP : P ≤ 200) {o : Int} (ho : -100 ≤ o ∧ o ≤ 100) (hs : ∀ k, k < P → rI σ 10 k = oI (s k) ∧ -100 ≤ s k ∧ s k ≤ 100) : ∀ (d k fu : Nat), k + d = P → d < fu → fX2_sizesOff_5 fu (oI o) (nI P) (oI (obF s k o)) (nI k) σ = some (oI (obF s P o), σ) := by
  intro d
  induction d with
  | zero =>
    intro k fu h1 h2
    obtain ⟨fu, rfl⟩ : ∃ q, fu = q + 1 := ⟨fu - 1, by omega⟩
    have hj : k = P := by omega
    subst hj
    show fX2_sizesOff_5b _ _ _ _ _ _ = _
    unfold fX2_sizesOff_5b
    rw [if_pos (leI.mpr (Int.le_refl _))]
    rfl
  | succ d ih =>
    intro k fu h1 h2
    obtain ⟨fu, rfl⟩ : ∃ q, fu = q + 1 := ⟨fu - 1, by omega⟩
    rw [← ih (k + 1) fu (by omega) (by omega)]
    show fX2_sizesOff_5b _ _ _ _ _ _ = _
    unfold fX2_sizesOff_5b ltI
    obtain ⟨hk1, hk2⟩ := hs k (by omega)
    rw [if_neg (by rw [leI, nI_t (by omega), nI_t (by omega)]; omega), if_neg (by rw [leI, nI_t (by omega), I_200]; omega), inb_n (show k < 200 by omega) (by omega), grd_t, ix_n (n := k) (by omega), hk1, oI_sub, s_abI2 (by omega), oI_add, nI_1]
    rfl
theorem s_sizesOff {s : Nat → Int} {P : Nat} (hP : P ≤ 200) {o : Int} (ho : -100 ≤ o ∧ o ≤ 100) (hs : ∀ k, k < P → rI σ 10 k = oI (s k) ∧ -100 ≤ s k ∧ s k ≤ 100) : fX2_sizesOff (oI o) (nI P) σ = some (oI (obF s P o), σ) := so_loop hP ho hs P 0 FU (by omega) (by unfold FU; omega)
theorem ob_bd {s : Nat → Int} {o : Int} (ho : -100 ≤ o ∧ o ≤ 100) : ∀ P, P ≤ 200 → (∀ k, k < P → -100 ≤ s k ∧ s k ≤ 100) → 0 ≤ obF s P o ∧ obF s P o ≤ 200 * P := by
  intro P
  induction P with
  | zero => intro _ _; exact ⟨Int.le_refl _, Int.le_refl _⟩
  | succ P ih =>
    intro hP hs
    have h1 := ih (by omega) (fun k hk => hs k (by omega))
    have h2 := hs P (by omega)
    unfold obF at h1 ⊢
    simp only [sm]
    split <;> omega
/-- the least of the first sizes and those off -100, -99 .. -/
def mnO (s : Nat → Int) (P : Nat) : Nat → Int
  | 0 => obF s P 0
  | t + 1 => min (mnO s P t) (obF s P ((t : Int) - 100))
theorem or_loop {s : Nat → Int} {P : Nat} (hP : P ≤ 200) (hl : rI σ 0 11 = nI P) (hs : ∀ k, k < P → rI σ 10 k = oI (s k) ∧ -100 ≤ s k ∧ s k ≤ 100) : ∀ (d t fu : Nat), t + d = 201 → d < fu → 0 ≤ mnO s P t ∧ mnO s P t ≤ 40000 → fX2_order_59 fu (oI (mnO s P t)) (oI ((t : Int) - 100)) σ = some (Sum.inl (oI (mnO s P 201)), σ) := by
  intro d
  induction d with
  | zero =>
    intro t fu h1 h2 hb
    obtain ⟨fu, rfl⟩ : ∃ q, fu = q + 1 := ⟨fu - 1, by omega⟩
    have hj : t = 201 := by omega
    subst hj
    show fX2_order_59b _ _ _ _ = _
    unfold fX2_order_59b
    rw [if_pos (by decide)]
  | succ d ih =>
    intro t fu h1 h2 hb
    obtain ⟨fu, rfl⟩ : ∃ q, fu = q + 1 := ⟨fu - 1, by omega⟩
    have ho : -100 ≤ (t : Int) - 100 ∧ (t : Int) - 100 ≤ 100 := by omega
    have hb2 := ob_bd (s := s) ho P hP (fun k hk => (hs k hk).2)
    have hmn : mnO s P (t + 1) = min (mnO s P t) (obF s P ((t : Int) - 100)) := rfl
    have hnext := ih (t + 1) fu (by omega) (by omega) (by rw [hmn]; omega)
    rw [← hnext]
    show fX2_order_59b _ _ _ _ = _
    unfold fX2_order_59b ltI
    rw [if_neg (by rw [ltI', oI_to (by unfold inR; omega), I_100]; omega), hl, s_sizesOff hP ho hs, bnd_s]
    have e1 : mnI (oI (mnO s P t)) (oI (obF s P ((t : Int) - 100))) = oI (mnO s P (t + 1)) := oI_e (by rw [mnI_t, oI_to (by unfold inR; omega), oI_to (by unfold inR; omega), hmn])
    have e2 : oI ((t : Int) - 100) + 1 = oI (((t + 1 : Nat) : Int) - 100) := by
      have : (1 : Int32) = oI 1 := rfl
      rw [this, oI_add]
      congr 1
      omega
    rw [e1, e2]
def orF (σ : Mem) (n m : Nat) : Int := if vI σ 0 10 = 0 then obF (fun k => surH σ n k - surJ σ m k) 100 0 else mnO (fun k => surH σ n k - surJ σ m k) (vI σ 0 11).toNat 201
theorem sur_bd (hD : DAT σ n m) (k : Nat) : 0 ≤ surH σ n k ∧ surH σ n k ≤ 100 ∧ 0 ≤ surJ σ m k ∧ surJ σ m k ≤ 100 := by
  have h5 := hD.1
  have k1 : ∀ j, j ≤ n → 0 ≤ surH σ j k ∧ surH σ j k ≤ 20 * j := by
    intro j
    induction j with
    | zero => intro _; exact ⟨Int.le_refl _, Int.le_refl _⟩
    | succ j ih =>
      intro hj
      have h1 := ih (by omega)
      have h2 := hD.2.1 j (by omega)
      unfold surH at h1 ⊢
      simp only [sm]
      split <;> omega
  have k2 : ∀ j, j ≤ m → 0 ≤ surJ σ j k ∧ surJ σ j k ≤ 20 * j := by
    intro j
    induction j with
    | zero => intro _; exact ⟨Int.le_refl _, Int.le_refl _⟩
    | succ j ih =>
      intro hj
      have h1 := ih (by omega)
      have h2 := hD.2.2.1 j (by omega)
      unfold surJ at h1 ⊢
      simp only [sm]
      split <;> omega
  have := k1 n (by omega)
  have := k2 m (by omega)
  omega
theorem v_order (hI : INV σ n m) : (¬ CGO σ ∧ fX2_order σ = some (Sum.inr 2, σ)) ∨ (CGO σ ∧ ∃ σ', fX2_order σ = some (Sum.inl (oI (orF σ n m)), σ') ∧ S10 σ σ' ∧ INV σ' n m) := by
  have hD := hI.1
  unfold fX2_order fX2_order_e orF
  rcases s_canGo hD with ⟨hc, e⟩ | ⟨hc, e⟩
  · rw [e, bnd_s, if_neg (by decide)]
    have h8 := hD.2.2.2.2.2.2.2.1
    refine Or.inr ⟨hc, ?_⟩
    by_cases h0 : vI σ 0 10 = 0
    · rw [if_pos ((vIe I_0).mpr h0), if_pos h0]
      obtain ⟨σ1, q1, q2, q3⟩ := s_fillSurpluses (P := 100) (by omega) hD
      have q1' : fX2_fillSurpluses 100 σ = some (0, σ1) := q1
      have e1 : fX2_sizesOff 0 100 σ1 = some (oI (obF (fun k => surH σ n k - surJ σ m k) 100 0), σ1) := s_sizesOff (σ := σ1) (P := 100) (o := 0) (by omega) (by omega) (fun k hk => ⟨q3 k hk, by have := sur_bd hD k; omega⟩)
      rw [q1', bnd_s, e1, bnd_s]
      exact ⟨σ1, rfl, q2, s10_inv q2 hI⟩
    · rw [if_neg (fun e => h0 ((vIe I_0).mp e)), if_neg h0]
      have h2 : vI σ 0 10 = 2 := by have := hc.1; omega
      have e11 : rI σ 0 11 = nI (vI σ 0 11).toNat := nI_eqI _ (by show vI σ 0 11 = _; omega)
      obtain ⟨σ1, q1, q2, q3⟩ := s_fillSurpluses (P := (vI σ 0 11).toNat) (by omega) hD
      have e11' : rI σ1 0 11 = nI (vI σ 0 11).toNat := by rw [s10_rI q2 (by omega)]; exact e11
      have hss : ∀ k, k < (vI σ 0 11).toNat → rI σ1 10 k = oI (surH σ n k - surJ σ m k) ∧ -100 ≤ surH σ n k - surJ σ m k ∧ surH σ n k - surJ σ m k ≤ 100 := fun k hk => ⟨q3 k hk, by have := sur_bd hD k; omega⟩
      have e1 : fX2_sizesOff 0 (nI (vI σ 0 11).toNat) σ1 = some (oI (obF (fun k => surH σ n k - surJ σ m k) (vI σ 0 11).toNat 0), σ1) := s_sizesOff (σ := σ1) (o := 0) (by omega) (by omega) hss
      have hb := ob_bd (s := fun k => surH σ n k - surJ σ m k) (o := 0) (by omega) (vI σ 0 11).toNat (by omega) (fun k hk => (hss k hk).2)
      rw [e11, q1, bnd_s, e11', e1, bnd_s]
      have e2 := or_loop (s := fun k => surH σ n k - surJ σ m k) (by omega) e11' hss 201 0 FU (by omega) (by unfold FU; omega) (by show 0 ≤ obF _ _ 0 ∧ obF _ _ 0 ≤ 40000; omega)
      exact ⟨σ1, e2, q2, s10_inv q2 hI⟩
  · rw [e, bnd_s, if_pos rfl]
    exact Or.inl ⟨hc, rfl⟩
end ORDER
