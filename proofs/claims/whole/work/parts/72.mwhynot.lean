/-! The Model: whyNot. -/
section MWHYNOT
variable {σ : Mem} {n m : Nat}
theorem mt_whyNot (hR : REL σ n m) (hH : HND σ) (hI : INV σ n m) : ∃ (z : Int) (σ' : Mem), FBH σ n m z ∧ fX3_whyNot σ = some (oI (if z = 0 then (if hcs σ n m ≤ lv σ n m then 0 else 4) else z), σ') ∧ SMM σ σ' ∧ rI σ' 35 0 = 0 := by
  have R0 := w0_rel (x := 0) hR
  have sd0 := smm_sd (w_smm0 (σ := σ) (v := 0))
  have sd0' : SD (wI σ 35 0 0) σ := ⟨fun k a b => (sd0.1 k a b).symm, fun i hi => (sd0.2 i hi).symm⟩
  obtain ⟨z, e, hz⟩ := m_wrong R0 (smm_hnd w_smm0 hH)
  have h03 := fbh_03 hz
  have hzσ : FBH σ n m z := sd_fbh sd0 hz
  have ez : oI z ≤ 0 ↔ z = 0 := by
    rw [leI, oI_to (by unfold inR; omega), I_0]
    omega
  unfold fX3_whyNot fX3_whyNot_e fX3_whyNot_38 ltM
  dsimp only
  rw [e, bnd_s]
  by_cases h : z = 0
  · subst h
    obtain ⟨σ1, e1, s1, -⟩ := m_leastT R0
    rw [sd_lv sd0] at e1
    have hb := hcs_bd hR.1 hzσ
    have hl := lv_cost hR hI
    rw [if_pos (ez.mpr rfl), m_handc R0 (smm_hnd w_smm0 hH) hz, bnd_s, e1, bnd_s, sd_hcs sd0]
    have ele : oI (hcs σ n m) ≤ oI (lv σ n m) ↔ hcs σ n m ≤ lv σ n m := by
      rw [leI, oI_to (by unfold inR; omega), oI_to (by unfold inR; omega)]
    refine ⟨0, σ1, hzσ, ?_, w_smm0.tr (smt_smm s1), by rw [smt_thr s1, thr_w]⟩
    rw [if_pos rfl]
    by_cases hle : hcs σ n m ≤ lv σ n m
    · rw [if_pos (ele.mpr hle), if_pos hle]; rfl
    · rw [if_neg (fun q => hle (ele.mp q)), if_neg hle]; rfl
  · rw [if_neg (fun q => h (ez.mp q))]
    exact ⟨z, _, hzσ, by rw [if_neg h], w_smm0, thr_w⟩
end MWHYNOT
