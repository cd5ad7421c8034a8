/-! The Model: without, prices, tolls. -/
section MPRICES
variable {σ : Mem} {n m : Nat}
theorem lv_cost (hR : REL σ n m) (hI : INV σ n m) : -100000000 ≤ lv σ n m ∧ lv σ n m ≤ 100000000 := by
  obtain ⟨σ', e1, s1, I1, P1, p, q, C1⟩ := s_planned hI
  have h := plan_cost P1
  rw [lv_of (best_of P1 C1).1] at h
  exact h
theorem mt_without {x y : Int32} (hR : REL σ n m) (hI : INV σ n m) : (¬ okW n m x y ∧ fX3_without x y σ = some (0, wI σ 35 0 1)) ∨ (okW n m x y ∧ ∃ σ', fX3_without x y σ = some (oI (woF σ n m (5 * ix x + ix y)), σ') ∧ SMM σ σ' ∧ rI σ' 35 0 = 0) := by
  unfold fX3_without fX3_without_e fX3_without_15
  rw [m_isWay hR, bnd_s, m_goesWell, m_goesWell, bnd_s, bnd_s]
  by_cases h1 : (0 ≤ x.toInt ∧ x.toInt < n) ∧ 0 ≤ y.toInt ∧ y.toInt < m
  · rw [if_pos h1, if_neg n10, if_pos z00, if_neg n10]
    have h5 := hR.1.1
    have hD := hR.1
    obtain ⟨i, hi, rfl⟩ := nI_ex h1.1
    obtain ⟨j, hj, rfl⟩ := nI_ex h1.2
    obtain ⟨σ1, e1, s1, M1⟩ := m_leastT (w0_rel (x := 0) hR)
    have sd0 := smm_sd (w_smm0 (σ := σ) (v := 0))
    rw [sd_lv sd0] at e1
    rw [sd_aW sd0, sd_bW sd0, sd_uM sd0] at M1
    have hw : 5 * i + j < 25 := by omega
    have s2 : SMT σ1 (wI σ1 45 (5 * i + j) 0) := smt_w (by omega)
    have M2 : M0 (wI σ1 45 (5 * i + j) 0) n m (aW σ n) (bW σ m) (fun k => if k = 5 * i + j then 0 else uM σ n m k) := by
      refine ⟨fun i' hi' => by rw [vI_wne (by omega)]; exact M1.1 i' hi', fun j' hj' => by rw [vI_wne (by omega)]; exact M1.2.1 j' hj', fun k hk => ?_⟩
      have q := M1.2.2 k hk
      show 0 ≤ (if k = 5 * i + j then (0 : Int) else uM σ n m k) ∧ (if k = 5 * i + j then (0 : Int) else uM σ n m k) ≤ 40 ∧ (_ → _ = if k = 5 * i + j then (0 : Int) else uM σ n m k) ∧ (_ → (if k = 5 * i + j then (0 : Int) else uM σ n m k) = 0)
      rw [vI_w]
      by_cases e : k = 5 * i + j
      · rw [if_pos e, if_pos ⟨rfl, e⟩]
        exact ⟨by omega, by omega, fun _ => I_0, fun _ => rfl⟩
      · rw [if_neg e, if_neg (fun z => e z.2)]
        exact q
    have s02 := w_smm0.tr (smt_smm (s1.tr s2))
    have R2 := smm_rel s02 hR
    have sd2 := smm_sd s02
    obtain ⟨σ3, e3, s3, -⟩ := m_solve R2 M2
    rw [sd_unW sd2, sd_v0 sd2 (show 12 ≠ 14 by omega), sd_v0 sd2 (show 13 ≠ 14 by omega)] at e3
    have eLV := lv_fea (un := unW σ n m) (lo := vI σ 0 12) (mi := vI σ 0 13) (fea_iff (a := aW σ n) (bb := bW σ m) (u := fun k => if k = 5 * i + j then 0 else uM σ n m k) (u' := fun k => if k = 5 * i + j then 0 else uW σ n m k) (fun j hj => (bW_bd hD j hj).2) (fun w _ => by
      by_cases e : w = 5 * i + j
      · rw [if_pos e, if_pos e]; exact Or.inl rfl
      · rw [if_neg e, if_neg e]; exact uM_uW w))
    rw [eLV] at e3
    have hv := lv_cost hR hI
    rw [e1, bnd_s, nI_way5, inb_n hw (by omega), grd_t, ix_n (n := 5 * i + j) (by omega)]
    unfold ltM
    dsimp only
    rw [e3, bnd_s, oI_sub, ix_n (n := i) (by omega), ix_n (n := j) (by omega)]
    exact Or.inr ⟨h1, σ3, rfl, s02.tr (sms_smm s3), by rw [smt_thr (sms_smt s3), smt_thr s2, smt_thr s1, thr_w]⟩
  · rw [if_neg h1, if_pos z00, if_neg n10, if_pos z00]
    exact Or.inl ⟨h1, rfl⟩
theorem m_priceH {i : Nat} (hR : REL σ n m) (hi : i < n) : ∃ σ', fX3_priceOf 0 (nI i) σ = some (oI (hPr σ n m i), σ') ∧ SMT σ σ' := by
  have h5 := hR.1.1
  have hD := hR.1
  obtain ⟨σ1, e1, s1, M1⟩ := m_leastT hR
  have hA := M1.1 i (by omega)
  have ha := aW_bd hD i (by omega)
  have s2 : SMT σ1 (wI σ1 43 i (oI (aW σ n i + 1))) := smt_w (by omega)
  have M2 : M0 (wI σ1 43 i (oI (aW σ n i + 1))) n m (fun k => if k = i then aW σ n k + 1 else aW σ n k) (bW σ m) (uM σ n m) := by
    refine ⟨fun k hk => ?_, fun j' hj' => by rw [vI_wne (by omega)]; exact M1.2.1 j' hj', fun k hk => by rw [vI_wne (by omega)]; exact M1.2.2 k hk⟩
    have q := M1.1 k hk
    show _ = (if k = i then aW σ n k + 1 else aW σ n k) ∧ 0 ≤ (if k = i then aW σ n k + 1 else aW σ n k) ∧ (if k = i then aW σ n k + 1 else aW σ n k) ≤ 21 ∧ (n ≤ k → (if k = i then aW σ n k + 1 else aW σ n k) = 0)
    rw [vI_w]
    by_cases e : k = i
    · subst e
      rw [if_pos ⟨rfl, rfl⟩, if_pos rfl, oI_to (by unfold inR; omega)]
      exact ⟨rfl, by omega, by omega, fun h => by omega⟩
    · rw [if_neg (fun z => e z.2), if_neg e]
      exact q
  have s02 := s1.tr s2
  have R2 := smm_rel (smt_smm s02) hR
  have sd2 := smm_sd (smt_smm s02)
  obtain ⟨σ3, e3, s3, -⟩ := m_solve R2 M2
  rw [sd_unW sd2, sd_v0 sd2 (show 12 ≠ 14 by omega), sd_v0 sd2 (show 13 ≠ 14 by omega)] at e3
  have eLV := lv_fea (un := unW σ n m) (lo := vI σ 0 12) (mi := vI σ 0 13) (fea_iff (a := fun k => if k = i then aW σ n k + 1 else aW σ n k) (bb := bW σ m) (u := uM σ n m) (u' := uW σ n m) (fun j hj => (bW_bd hD j hj).2) (fun w _ => uM_uW w))
  rw [eLV] at e3
  refine ⟨σ3, ?_, s02.tr (sms_smt s3)⟩
  unfold fX3_priceOf fX3_priceOf_e ltM
  rw [e1, bnd_s, if_pos z00, inb_n (show i < 5 by omega) (by omega), grd_t, grd_t, ix_n (n := i) (by omega)]
  have h1 : (1 : Int32) = oI 1 := rfl
  have e4 : rI σ1 43 i + 1 = oI (aW σ n i + 1) := by rw [oI_v, hA.1, h1, oI_add]
  rw [e4]
  dsimp only
  rw [e3, bnd_s, oI_sub]
  rfl
theorem m_priceJ {j : Nat} (hR : REL σ n m) (hj : j < m) : ∃ σ', fX3_priceOf 1 (nI j) σ = some (oI (jPr σ n m j), σ') ∧ SMT σ σ' := by
  have h5 := hR.1.1
  have hD := hR.1
  obtain ⟨σ1, e1, s1, M1⟩ := m_leastT hR
  have hB := M1.2.1 j (by omega)
  have hb := bW_bd hD j (by omega)
  have hb1 : 1 ≤ bW σ m j := by
    unfold bW
    rw [if_pos hj]
    exact (hD.2.2.1 j hj).2.2.1
  have s2 : SMT σ1 (wI σ1 44 j (oI (bW σ m j - 1))) := smt_w (by omega)
  have M2 : M0 (wI σ1 44 j (oI (bW σ m j - 1))) n m (aW σ n) (fun k => if k = j then bW σ m k - 1 else bW σ m k) (uM σ n m) := by
    refine ⟨fun j' hj' => by rw [vI_wne (by omega)]; exact M1.1 j' hj', fun k hk => ?_, fun k hk => by rw [vI_wne (by omega)]; exact M1.2.2 k hk⟩
    have q := M1.2.1 k hk
    show _ = (if k = j then bW σ m k - 1 else bW σ m k) ∧ 0 ≤ (if k = j then bW σ m k - 1 else bW σ m k) ∧ (if k = j then bW σ m k - 1 else bW σ m k) ≤ 21 ∧ (m ≤ k → (if k = j then bW σ m k - 1 else bW σ m k) = 0)
    rw [vI_w]
    by_cases e : k = j
    · subst e
      rw [if_pos ⟨rfl, rfl⟩, if_pos rfl, oI_to (by unfold inR; omega)]
      exact ⟨rfl, by omega, by omega, fun h => by omega⟩
    · rw [if_neg (fun z => e z.2), if_neg e]
      exact q
  have s02 := s1.tr s2
  have R2 := smm_rel (smt_smm s02) hR
  have sd2 := smm_sd (smt_smm s02)
  obtain ⟨σ3, e3, s3, -⟩ := m_solve R2 M2
  rw [sd_unW sd2, sd_v0 sd2 (show 12 ≠ 14 by omega), sd_v0 sd2 (show 13 ≠ 14 by omega)] at e3
  have eLV := lv_fea (un := unW σ n m) (lo := vI σ 0 12) (mi := vI σ 0 13) (fea_iff (a := aW σ n) (bb := fun k => if k = j then bW σ m k - 1 else bW σ m k) (u := uM σ n m) (u' := uW σ n m) (fun k hk => by
    have := (bW_bd hD k hk).2
    split <;> omega) (fun w _ => uM_uW w))
  rw [eLV] at e3
  refine ⟨σ3, ?_, s02.tr (sms_smt s3)⟩
  unfold fX3_priceOf fX3_priceOf_e ltM
  rw [e1, bnd_s, if_neg n10, inb_n (show j < 5 by omega) (by omega), grd_t, grd_t, ix_n (n := j) (by omega)]
  have h1 : (1 : Int32) = oI 1 := rfl
  have e4 : rI σ1 44 j - 1 = oI (bW σ m j - 1) := by rw [oI_v, hB.1, h1, oI_sub]
  rw [e4]
  dsimp only
  rw [e3, bnd_s, oI_sub]
  rfl
theorem mt_price {v x : Int32} (hv01 : v = 0 ∨ v = 1) (hR : REL σ n m) : (¬ okN n m v x ∧ fX3_price v x σ = some (0, wI σ 35 0 1)) ∨ (okN n m v x ∧ ∃ σ', fX3_price v x σ = some (oI (if v = 0 then hPr σ n m (ix x) else jPr σ n m (ix x)), σ') ∧ SMM σ σ' ∧ rI σ' 35 0 = 0) := by
  unfold fX3_price fX3_price_e fX3_price_15 fX3_price_31
  rw [m_isOne hR, bnd_s, m_goesWell, m_goesWell, bnd_s, bnd_s]
  by_cases h1 : 0 ≤ x.toInt ∧ x.toInt < szOf n m v
  · rw [if_pos h1, if_neg n10, if_pos z00, if_neg n10]
    have h5 := hR.1.1
    have hh := h1
    unfold szOf at hh
    have sd0 := smm_sd (w_smm0 (σ := σ) (v := 0))
    rcases hv01 with rfl | rfl
    · rw [if_pos z00] at hh
      obtain ⟨i, hi, rfl⟩ := nI_ex hh
      obtain ⟨σ1, e1, s1⟩ := m_priceH (w0_rel (x := 0) hR) hi
      rw [sd_hPr sd0] at e1
      rw [e1, bnd_s, if_pos z00, ix_n (n := i) (by omega)]
      exact Or.inr ⟨h1, σ1, rfl, w_smm0.tr (smt_smm s1), by rw [smt_thr s1, thr_w]⟩
    · rw [if_neg n10] at hh
      obtain ⟨i, hi, rfl⟩ := nI_ex hh
      obtain ⟨σ1, e1, s1⟩ := m_priceJ (w0_rel (x := 0) hR) hi
      rw [sd_jPr sd0] at e1
      rw [e1, bnd_s, if_neg n10, ix_n (n := i) (by omega)]
      exact Or.inr ⟨h1, σ1, rfl, w_smm0.tr (smt_smm s1), by rw [smt_thr s1, thr_w]⟩
  · rw [if_neg h1, if_pos z00, if_neg n10, if_pos z00]
    exact Or.inl ⟨h1, rfl⟩
theorem m_tollOf {i j : Nat} (hR : REL σ n m) (hI : INV σ n m) (hi : i < n) (hj : j < m) : ∃ σ', fX3_tollOf (nI i) (nI j) σ = some (oI (tlW σ n m i j), σ') ∧ SMT σ σ' := by
  have h5 := hR.1.1
  have e41 := (hR.2.2.2.2.2 (5 * i + j) (by omega)).2.1
  unfold fX3_tollOf fX3_tollOf_e fX3_tollOf_38 fX3_tollOf_48 tlW tlF
  rw [nI_way5, inb_n (show 5 * i + j < 25 by omega) (by omega), grd_t, ix_n (n := 5 * i + j) (by omega)]
  by_cases h : vI σ 8 (5 * i + j) = -1
  · rw [if_pos ((vIe I_m1).mpr (by rw [e41]; exact h)), if_pos h, if_pos (show (0 : Int32) ≤ 0 by decide)]
    exact ⟨σ, rfl, SMT.rf⟩
  · obtain ⟨σ1, e1, s1⟩ := m_priceH hR hi
    have R1 := smm_rel (smt_smm s1) hR
    obtain ⟨σ2, e2, s2⟩ := m_priceJ R1 hj
    rw [sd_jPr (smm_sd (smt_smm s1))] at e2
    have s12 := s1.tr s2
    have e3 := m_unitOf (smm_rel (smt_smm s12) hR) hi hj
    rw [sd_unD (smm_sd (smt_smm s12))] at e3
    obtain ⟨-, -, -, -, b1⟩ := v_heapPrice hI hi
    obtain ⟨-, -, -, -, b2⟩ := v_holePrice hI hj
    have b3 := unD_bd hR.1 hi hj
    rw [if_neg (fun e => h (by rw [← e41]; exact (vIe I_m1).mp e)), if_neg h, e1, bnd_s, e2, bnd_s, e3, bnd_s, oI_add, oI_sub]
    refine ⟨σ2, ?_, s12⟩
    have ele : oI (hPr σ n m i + jPr σ n m j - unD σ i j) ≤ 0 ↔ hPr σ n m i + jPr σ n m j - unD σ i j ≤ 0 := by
      rw [leI, oI_to (by unfold inR; omega), I_0]
    by_cases hle : hPr σ n m i + jPr σ n m j - unD σ i j ≤ 0
    · rw [if_pos (ele.mpr hle), Int.max_eq_left hle]; rfl
    · rw [if_neg (fun q => hle (ele.mp q)), Int.max_eq_right (by omega)]
theorem mt_toll {x y : Int32} (hR : REL σ n m) (hI : INV σ n m) : (¬ okW n m x y ∧ fX3_toll x y σ = some (0, wI σ 35 0 1)) ∨ (okW n m x y ∧ ∃ σ', fX3_toll x y σ = some (oI (tlW σ n m (ix x) (ix y)), σ') ∧ SMM σ σ' ∧ rI σ' 35 0 = 0) := by
  unfold fX3_toll fX3_toll_e fX3_toll_15 fX3_toll_31
  rw [m_isWay hR, bnd_s, m_goesWell, m_goesWell, bnd_s, bnd_s]
  by_cases h1 : (0 ≤ x.toInt ∧ x.toInt < n) ∧ 0 ≤ y.toInt ∧ y.toInt < m
  · rw [if_pos h1, if_neg n10, if_pos z00, if_neg n10]
    have h5 := hR.1.1
    obtain ⟨i, hi, rfl⟩ := nI_ex h1.1
    obtain ⟨j, hj, rfl⟩ := nI_ex h1.2
    obtain ⟨σ1, e1, s1⟩ := m_tollOf (w0_rel (x := 0) hR) (smm_inv w_smm0 hI) hi hj
    rw [sd_tlW (smm_sd w_smm0)] at e1
    rw [e1, bnd_s, ix_n (n := i) (by omega), ix_n (n := j) (by omega)]
    exact Or.inr ⟨h1, σ1, rfl, w_smm0.tr (smt_smm s1), by rw [smt_thr s1, thr_w]⟩
  · rw [if_neg h1, if_pos z00, if_neg n10, if_pos z00]
    exact Or.inl ⟨h1, rfl⟩
end MPRICES
