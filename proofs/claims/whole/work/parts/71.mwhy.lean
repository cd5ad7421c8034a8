/-! The Model: whyNot, handCost. -/
section MWHY
variable {σ : Mem} {n m : Nat}
theorem hand_ok (h : FBH σ n m 0) : okR σ (vI σ 9) n m := by
  rcases h with ⟨h, -⟩ | ⟨h1, ⟨h, -⟩ | ⟨h2, -⟩⟩
  · omega
  · omega
  · exact ⟨h1, h2⟩
theorem hand_cs : c1F σ (vI σ 9) n m n + c2F σ (vI σ 9) n m = hcs σ n m := by
  have e : c1F σ (vI σ 9) n m n = sm n (fun i => sm m (fun j => vI σ 9 (5 * i + j) * unD σ i j)) + sm n (fun i => vI σ 0 12 * (vI σ 3 i - hfr σ m i)) := sm_add n _ _
  have e2 : c2F σ (vI σ 9) n m = sm m (fun j => vI σ 0 13 * (vI σ 6 j - hto σ n j)) := rfl
  rw [e, e2]
  unfold hcs
  omega
theorem m_handc (hR : REL σ n m) (hH : HND σ) (h : FBH σ n m 0) : fX3_costOf 42 σ = some (oI (hcs σ n m), σ) := by
  rcases m_costOf (v := 42) (R := vI σ 9) (by decide) (fun w hw => ⟨hH w hw, by have := hR.1.2.2.2.1 w hw; omega⟩) hR with ⟨-, e⟩ | ⟨g, -⟩
  · rw [e, hand_cs]
  · exact absurd (hand_ok h) g
theorem sd_fbh {σ' : Mem} (h : SD σ σ') {z : Int} (hz : FBH σ' n m z) : FBH σ n m z := by
  have e1 : ∀ i, hfr σ' m i = hfr σ m i := fun i => sm_congr (fun j _ => sd_vI h (by omega) (by omega) _)
  have e2 : ∀ i, hto σ' n i = hto σ n i := fun i => sm_congr (fun j _ => sd_vI h (by omega) (by omega) _)
  unfold FBH at hz ⊢
  simp only [e1, e2, sd_vI h (show 1 ≤ 3 by omega) (show 3 ≤ 9 by omega), sd_vI h (show 1 ≤ 6 by omega) (show 6 ≤ 9 by omega), sd_vI h (show 1 ≤ 8 by omega) (show 8 ≤ 9 by omega), sd_vI h (show 1 ≤ 9 by omega) (show 9 ≤ 9 by omega)] at hz
  exact hz
theorem sd_hcs {σ' : Mem} (h : SD σ σ') : hcs σ' n m = hcs σ n m := by
  have e1 : ∀ i, hfr σ' m i = hfr σ m i := fun i => sm_congr (fun j _ => sd_vI h (by omega) (by omega) _)
  have e2 : ∀ i, hto σ' n i = hto σ n i := fun i => sm_congr (fun j _ => sd_vI h (by omega) (by omega) _)
  unfold hcs
  simp only [e1, e2, sd_unD h, sd_v0 h (show 12 ≠ 14 by omega), sd_v0 h (show 13 ≠ 14 by omega), sd_vI h (show 1 ≤ 3 by omega) (show 3 ≤ 9 by omega), sd_vI h (show 1 ≤ 6 by omega) (show 6 ≤ 9 by omega), sd_vI h (show 1 ≤ 9 by omega) (show 9 ≤ 9 by omega)]
theorem fbh_03 {z : Int} (h : FBH σ n m z) : 0 ≤ z ∧ z ≤ 3 := by
  rcases h with ⟨h, -⟩ | ⟨-, ⟨h, -⟩ | ⟨-, ⟨h, -⟩ | ⟨h, -⟩⟩⟩ <;> omega
theorem mt_handCost (hR : REL σ n m) (hH : HND σ) : ∃ z : Int, FBH σ n m z ∧ fX3_handCost σ = some (if z = 0 then (oI (hcs σ n m), wI σ 35 0 0) else (0, wI σ 35 0 1)) := by
  obtain ⟨z, e, hz⟩ := m_wrong hR hH
  have h03 := fbh_03 hz
  refine ⟨z, hz, ?_⟩
  unfold fX3_handCost fX3_handCost_e fX3_handCost_13 fX3_handCost_31
  rw [e, bnd_s, m_goesWell, m_goesWell, bnd_s, bnd_s]
  have ez : oI z = 0 ↔ z = 0 := by
    rw [eqI, oI_to (by unfold inR; omega), I_0]
  by_cases h : z = 0
  · subst h
    have R0 := w0_rel (x := 0) hR
    have sd0 := smm_sd (w_smm0 (σ := σ) (v := 0))
    have sd0' : SD (wI σ 35 0 0) σ := ⟨fun k a b => (sd0.1 k a b).symm, fun i hi => (sd0.2 i hi).symm⟩
    have hz' : FBH (wI σ 35 0 0) n m 0 := sd_fbh sd0' hz
    rw [if_pos (ez.mpr rfl), if_pos z00, if_neg n10, m_handc R0 (smm_hnd w_smm0 hH) hz', bnd_s, sd_hcs sd0, if_pos rfl]
  · rw [if_neg (fun q => h (ez.mp q)), if_neg n10, if_pos z00, if_neg h]
end MWHY
