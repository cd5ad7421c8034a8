/-! The Model is told of ways; its answers of plans. -/
section MTELL2
variable {σ : Mem} {n m : Nat}
theorem n10 : ¬ (1 : Int32) = 0 := by decide
theorem n20 : ¬ (2 : Int32) = 0 := by decide
theorem z00 : (0 : Int32) = 0 := rfl
theorem mt_own {x y c : Int32} (hR : REL σ n m) : fX3_own x y c σ =
    if ¬ ((0 ≤ x.toInt ∧ x.toInt < n) ∧ 0 ≤ y.toInt ∧ y.toInt < m) then some (0, wI σ 35 0 1) else if ¬ (-1 ≤ c.toInt ∧ c.toInt ≤ 10000) then some (0, wI σ 35 0 2)
    else some (rI σ 40 (5 * ix x + ix y), wI (wI σ 35 0 0) 40 (5 * ix x + ix y) c) := by
  unfold fX3_own fX3_own_e fX3_own_34
  rw [m_isWay hR, bnd_s, m_in, bnd_s, I_m1, I_10000, m_goesWell, m_goesWell, m_goesWell, bnd_s, bnd_s, bnd_s]
  by_cases h1 : (0 ≤ x.toInt ∧ x.toInt < n) ∧ 0 ≤ y.toInt ∧ y.toInt < m
  · rw [if_pos h1, if_neg n10, if_neg (show ¬ ¬ ((0 ≤ x.toInt ∧ x.toInt < n) ∧ 0 ≤ y.toInt ∧ y.toInt < m) from fun q => q h1)]
    by_cases h2 : -1 ≤ c.toInt ∧ c.toInt ≤ 10000
    · rw [if_pos h2, if_neg n10, if_neg (show ¬ ¬ (-1 ≤ c.toInt ∧ c.toInt ≤ 10000) from fun q => q h2), if_pos z00, if_neg n10]
      have h5 := hR.1.1
      obtain ⟨i, hi, rfl⟩ := nI_ex h1.1
      obtain ⟨j, hj, rfl⟩ := nI_ex h1.2
      rw [nI_way5]
      unfold ltI ltM
      simp only [inb_n (show 5 * i + j < 25 by omega) (show 25 < 2147483648 by omega), grd_t, ix_n (show 5 * i + j < 2147483648 by omega), ix_n (show i < 2147483648 by omega), ix_n (show j < 2147483648 by omega)]
      have e : rI (wI σ 35 0 0) 40 (5 * i + j) = rI σ 40 (5 * i + j) := by rw [rI_w, if_neg (by omega)]
      rw [e]
    · rw [if_neg h2, if_pos z00, if_pos h2, if_neg n20, if_pos z00]
  · rw [if_neg h1, if_pos z00, if_pos h1, if_neg n10, if_pos z00]
theorem mt_cap {x y c : Int32} (hR : REL σ n m) : fX3_cap x y c σ =
    if ¬ ((0 ≤ x.toInt ∧ x.toInt < n) ∧ 0 ≤ y.toInt ∧ y.toInt < m) then some (0, wI σ 35 0 1) else if ¬ (-1 ≤ c.toInt ∧ c.toInt ≤ 20) then some (0, wI σ 35 0 2)
    else some (rI σ 41 (5 * ix x + ix y), wI (wI σ 35 0 0) 41 (5 * ix x + ix y) c) := by
  unfold fX3_cap fX3_cap_e fX3_cap_33
  rw [m_isWay hR, bnd_s, m_in, bnd_s, I_m1, I_20, m_goesWell, m_goesWell, m_goesWell, bnd_s, bnd_s, bnd_s]
  by_cases h1 : (0 ≤ x.toInt ∧ x.toInt < n) ∧ 0 ≤ y.toInt ∧ y.toInt < m
  · rw [if_pos h1, if_neg n10, if_neg (show ¬ ¬ ((0 ≤ x.toInt ∧ x.toInt < n) ∧ 0 ≤ y.toInt ∧ y.toInt < m) from fun q => q h1)]
    by_cases h2 : -1 ≤ c.toInt ∧ c.toInt ≤ 20
    · rw [if_pos h2, if_neg n10, if_neg (show ¬ ¬ (-1 ≤ c.toInt ∧ c.toInt ≤ 20) from fun q => q h2), if_pos z00, if_neg n10]
      have h5 := hR.1.1
      obtain ⟨i, hi, rfl⟩ := nI_ex h1.1
      obtain ⟨j, hj, rfl⟩ := nI_ex h1.2
      rw [nI_way5]
      unfold ltI ltM
      simp only [inb_n (show 5 * i + j < 25 by omega) (show 25 < 2147483648 by omega), grd_t, ix_n (show 5 * i + j < 2147483648 by omega), ix_n (show i < 2147483648 by omega), ix_n (show j < 2147483648 by omega)]
      have e : rI (wI σ 35 0 0) 41 (5 * i + j) = rI σ 41 (5 * i + j) := by rw [rI_w, if_neg (by omega)]
      rw [e]
    · rw [if_neg h2, if_pos z00, if_pos h2, if_neg n20, if_pos z00]
  · rw [if_neg h1, if_pos z00, if_pos h1, if_neg n10, if_pos z00]
theorem mt_carry {x y c : Int32} (hR : REL σ n m) : fX3_carry x y c σ =
    if ¬ ((0 ≤ x.toInt ∧ x.toInt < n) ∧ 0 ≤ y.toInt ∧ y.toInt < m) then some (0, wI σ 35 0 1) else if ¬ (0 ≤ c.toInt ∧ c.toInt ≤ 20) then some (0, wI σ 35 0 2)
    else some (rI σ 42 (5 * ix x + ix y), wI (wI σ 35 0 0) 42 (5 * ix x + ix y) c) := by
  unfold fX3_carry fX3_carry_e fX3_carry_33
  rw [m_isWay hR, bnd_s, m_in, bnd_s, I_0, I_20, m_goesWell, m_goesWell, m_goesWell, bnd_s, bnd_s, bnd_s]
  by_cases h1 : (0 ≤ x.toInt ∧ x.toInt < n) ∧ 0 ≤ y.toInt ∧ y.toInt < m
  · rw [if_pos h1, if_neg n10, if_neg (show ¬ ¬ ((0 ≤ x.toInt ∧ x.toInt < n) ∧ 0 ≤ y.toInt ∧ y.toInt < m) from fun q => q h1)]
    by_cases h2 : 0 ≤ c.toInt ∧ c.toInt ≤ 20
    · rw [if_pos h2, if_neg n10, if_neg (show ¬ ¬ (0 ≤ c.toInt ∧ c.toInt ≤ 20) from fun q => q h2), if_pos z00, if_neg n10]
      have h5 := hR.1.1
      obtain ⟨i, hi, rfl⟩ := nI_ex h1.1
      obtain ⟨j, hj, rfl⟩ := nI_ex h1.2
      rw [nI_way5]
      unfold ltI ltM
      simp only [inb_n (show 5 * i + j < 25 by omega) (show 25 < 2147483648 by omega), grd_t, ix_n (show 5 * i + j < 2147483648 by omega), ix_n (show i < 2147483648 by omega), ix_n (show j < 2147483648 by omega)]
      have e : rI (wI σ 35 0 0) 42 (5 * i + j) = rI σ 42 (5 * i + j) := by rw [rI_w, if_neg (by omega)]
      rw [e]
    · rw [if_neg h2, if_pos z00, if_pos h2, if_neg n20, if_pos z00]
  · rw [if_neg h1, if_pos z00, if_pos h1, if_neg n10, if_pos z00]
theorem mt_terms {x y : Int32} : fX3_terms x y σ =
    if ¬ ((0 ≤ x.toInt ∧ x.toInt ≤ 10000) ∧ 0 ≤ y.toInt ∧ y.toInt ≤ 10000) then some (0, wI σ 35 0 1)
    else some (rI σ 35 12, wI (wI (wI σ 35 0 0) 35 12 x) 35 13 y) := by
  unfold fX3_terms fX3_terms_e fX3_terms_27 fX3_terms_28
  rw [m_in, bnd_s, I_0, I_10000, m_in, bnd_s, I_0, I_10000, m_goesWell, m_goesWell, bnd_s, bnd_s]
  by_cases h1 : 0 ≤ x.toInt ∧ x.toInt ≤ 10000
  · rw [if_pos h1, if_neg n10]
    by_cases h2 : 0 ≤ y.toInt ∧ y.toInt ≤ 10000
    · rw [if_pos h2, if_neg n10, if_neg (show ¬ ¬ ((0 ≤ x.toInt ∧ x.toInt ≤ 10000) ∧ 0 ≤ y.toInt ∧ y.toInt ≤ 10000) from fun q => q ⟨h1, h2⟩), if_pos z00, if_neg n10]
      unfold ltI ltM
      dsimp only
      have e : rI (wI σ 35 0 0) 35 12 = rI σ 35 12 := by rw [rI_w, if_neg (by omega)]
      rw [e]
    · rw [if_neg h2, if_pos z00, if_pos (show ¬ ((0 ≤ x.toInt ∧ x.toInt ≤ 10000) ∧ 0 ≤ y.toInt ∧ y.toInt ≤ 10000) from fun q => h2 q.2), if_neg n10, if_pos z00]
  · rw [if_neg h1, if_pos z00, if_pos (show ¬ ((0 ≤ x.toInt ∧ x.toInt ≤ 10000) ∧ 0 ≤ y.toInt ∧ y.toInt ≤ 10000) from fun q => h1 q.1), if_neg n10, if_pos z00]
/-- the cell of the latest throw -/
theorem thr_w {x : Int32} : rI (wI σ 35 0 x) 35 0 = x := by rw [rI_w, if_pos ⟨rfl, rfl⟩]
theorem smt_thr {σ' : Mem} (h : SMT σ σ') : rI σ' 35 0 = rI σ 35 0 := by unfold rI; rw [h.1 35 (by omega)]
theorem smf_thr {σ' : Mem} (h : SMF σ σ') : rI σ' 35 0 = rI σ 35 0 := by unfold rI; rw [(h 35 (by omega)).1]
theorem mt_unit {x y : Int32} (hR : REL σ n m) : (¬ okW n m x y ∧ fX3_unit x y σ = some (0, wI σ 35 0 1)) ∨ (okW n m x y ∧ fX3_unit x y σ = some (oI (unD σ (ix x) (ix y)), wI σ 35 0 0)) := by
  unfold fX3_unit fX3_unit_e fX3_unit_15 fX3_unit_31
  rw [m_isWay hR, bnd_s, m_goesWell, m_goesWell, bnd_s, bnd_s]
  by_cases h1 : (0 ≤ x.toInt ∧ x.toInt < n) ∧ 0 ≤ y.toInt ∧ y.toInt < m
  · rw [if_pos h1, if_neg n10, if_pos z00, if_neg n10]
    have h5 := hR.1.1
    obtain ⟨i, hi, rfl⟩ := nI_ex h1.1
    obtain ⟨j, hj, rfl⟩ := nI_ex h1.2
    rw [m_unitOf (w0_rel hR) hi hj, bnd_s, sd_unD (smm_sd w_smm0), ix_n (n := i) (by omega), ix_n (n := j) (by omega)]
    exact Or.inr ⟨h1, rfl⟩
  · rw [if_neg h1, if_pos z00, if_neg n10, if_pos z00]
    exact Or.inl ⟨h1, rfl⟩
theorem mt_carried {x y : Int32} (hR : REL σ n m) (hI : INV σ n m) : (¬ okW n m x y ∧ fX3_carried x y σ = some (0, wI σ 35 0 1)) ∨ (okW n m x y ∧ ∃ σ', fX3_carried x y σ = some (oI (lf σ n m (5 * ix x + ix y)), σ') ∧ SMM σ σ' ∧ rI σ' 35 0 = 0) := by
  unfold fX3_carried fX3_carried_e fX3_carried_15
  rw [m_isWay hR, bnd_s, m_goesWell, m_goesWell, bnd_s, bnd_s]
  by_cases h1 : (0 ≤ x.toInt ∧ x.toInt < n) ∧ 0 ≤ y.toInt ∧ y.toInt < m
  · rw [if_pos h1, if_neg n10, if_pos z00, if_neg n10]
    have h5 := hR.1.1
    obtain ⟨i, hi, rfl⟩ := nI_ex h1.1
    obtain ⟨j, hj, rfl⟩ := nI_ex h1.2
    obtain ⟨σ1, e1, s1, p1, p2, p3⟩ := m_findPlan (w0_rel (x := 0) hR) (smm_inv w_smm0 hI)
    rw [sd_lf (smm_sd w_smm0)] at p1
    rw [e1, bnd_s, nI_way5, inb_n (show 5 * i + j < 25 by omega) (by omega), grd_t, ix_n (n := 5 * i + j) (by omega), oI_v, p1 _ (by omega), ix_n (n := i) (by omega), ix_n (n := j) (by omega)]
    exact Or.inr ⟨h1, σ1, rfl, w_smm0.tr (smf_smm s1), by rw [smf_thr s1, thr_w]⟩
  · rw [if_neg h1, if_pos z00, if_neg n10, if_pos z00]
    exact Or.inl ⟨h1, rfl⟩
theorem mt_left {v x : Int32} (hR : REL σ n m) (hI : INV σ n m) : (¬ okN n m v x ∧ fX3_left v x σ = some (0, wI σ 35 0 1)) ∨ (okN n m v x ∧ ∃ σ', fX3_left v x σ = some (oI (if v = 0 then aW σ n (ix x) - rowS (lf σ n m) (ix x) else bW σ m (ix x) - colS (lf σ n m) (ix x)), σ') ∧ SMM σ σ' ∧ rI σ' 35 0 = 0) := by
  unfold fX3_left fX3_left_e fX3_left_15 fX3_left_46
  rw [m_isOne hR, bnd_s, m_goesWell, m_goesWell, bnd_s, bnd_s]
  by_cases h1 : 0 ≤ x.toInt ∧ x.toInt < szOf n m v
  · rw [if_pos h1, if_neg n10, if_pos z00, if_neg n10]
    have h5 := hR.1.1
    have h6 : szOf n m v ≤ 5 := by unfold szOf; split <;> omega
    obtain ⟨i, hi, rfl⟩ := nI_ex h1
    obtain ⟨σ1, e1, s1, p1, p2, p3⟩ := m_findPlan (w0_rel (x := 0) hR) (smm_inv w_smm0 hI)
    rw [sd_lf (smm_sd w_smm0), sd_aW (smm_sd w_smm0)] at p2
    rw [sd_lf (smm_sd w_smm0), sd_bW (smm_sd w_smm0)] at p3
    rw [e1, bnd_s, inb_n (show i < 5 by omega) (by omega), grd_t, grd_t, ix_n (n := i) (by omega), oI_v, oI_v, p2 i (by omega), p3 i (by omega)]
    refine Or.inr ⟨h1, σ1, ?_, w_smm0.tr (smf_smm s1), by rw [smf_thr s1, thr_w]⟩
    by_cases hv : v = 0
    · rw [if_pos hv, if_pos hv]
    · rw [if_neg hv, if_neg hv]
  · rw [if_neg h1, if_pos z00, if_neg n10, if_pos z00]
    exact Or.inl ⟨h1, rfl⟩
end MTELL2
