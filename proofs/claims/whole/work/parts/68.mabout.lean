/-! The Model: about. -/
section MABOUT
variable {σ : Mem} {n m : Nat}
theorem mt_about {v x y : Int32} (hR : REL σ n m) (hH : HND σ) : fX3_about v x y σ = if ¬ (0 ≤ x.toInt ∧ x.toInt < szOf n m v) then some (0, wI σ 35 0 1) else if ¬ (0 ≤ y.toInt ∧ y.toInt ≤ 2) then some (0, wI σ 35 0 2) else some (oI (abF σ n m v (ix x) y.toInt), wI σ 35 0 0) := by
  have h5 := hR.1.1
  unfold fX3_about fX3_about_e fX3_about_32 fX3_about_71 fX3_about_92 fX3_about_105
  rw [m_isOne hR, bnd_s, m_in, bnd_s, I_0, I_2, m_goesWell, m_goesWell, m_goesWell, bnd_s, bnd_s, bnd_s]
  by_cases h1 : 0 ≤ x.toInt ∧ x.toInt < szOf n m v
  · rw [if_pos h1, if_neg n10, if_neg (show ¬ ¬ (0 ≤ x.toInt ∧ x.toInt < szOf n m v) from fun q => q h1)]
    by_cases h2 : 0 ≤ y.toInt ∧ y.toInt ≤ 2
    · rw [if_pos h2, if_neg n10, if_neg (show ¬ ¬ (0 ≤ y.toInt ∧ y.toInt ≤ 2) from fun q => q h2), if_pos z00, if_neg n10]
      have h6 : szOf n m v ≤ 5 := by unfold szOf; split <;> omega
      obtain ⟨i, hi, rfl⟩ := nI_ex h1
      have R0 := w0_rel (x := 0) hR
      rw [m_byHand (by omega), bnd_s, hand_row R0 (smm_hnd w_smm0 hH) (by omega), hand_col R0 (smm_hnd w_smm0 hH) (by omega), ix_n (n := i) (by omega)]
      have eh : hfr (wI σ 35 0 0) m i = hfr σ m i := by
        unfold hfr
        exact sm_congr (fun j _ => vI_wne (by omega))
      have et : hto (wI σ 35 0 0) n i = hto σ n i := by
        unfold hto
        exact sm_congr (fun j _ => vI_wne (by omega))
      rw [eh, et]
      simp only [inb_n (show i < 5 by omega) (show 5 < 2147483648 by omega), grd_t]
      have e35 : ∀ k, k ≠ 35 → rI (wI σ 35 0 0) k i = oI (vI σ k i) := fun k hk => by rw [rI_w, if_neg (fun q => hk q.1), oI_v]
      rw [e35 36 (by omega), e35 37 (by omega), e35 38 (by omega), e35 39 (by omega)]
      have hi' := hi
      unfold szOf at hi'
      have hy : y.toInt = 0 ∨ y.toInt = 1 ∨ y.toInt = 2 := by omega
      have ex : ∀ (c : Int32) (z : Int), c.toInt = z → y.toInt = z → y = c := fun c z h h' => by rw [eqI, h, h']
      by_cases hv : v = 0
      · rw [if_pos hv] at hi'
        obtain ⟨a1, a2⟩ := hR.2.2.2.1 i hi'
        simp only [if_pos hv]
        unfold abF sdOf
        simp only [if_pos hv]
        rw [a1, a2]
        rcases hy with hy | hy | hy
        · obtain rfl := ex 0 0 I_0 hy
          rfl
        · obtain rfl := ex 1 1 I_1 hy
          rfl
        · obtain rfl := ex 2 2 I_2 hy
          rfl
      · rw [if_neg hv] at hi'
        obtain ⟨a1, a2⟩ := hR.2.2.2.2.1 i hi'
        simp only [if_neg hv]
        unfold abF sdOf
        simp only [if_neg hv]
        rw [a1, a2]
        rcases hy with hy | hy | hy
        · obtain rfl := ex 0 0 I_0 hy
          rfl
        · obtain rfl := ex 1 1 I_1 hy
          rfl
        · obtain rfl := ex 2 2 I_2 hy
          rfl
    · rw [if_neg h2, if_pos z00, if_pos h2, if_neg n20, if_pos z00]
  · rw [if_neg h1, if_pos z00, if_pos h1, if_neg n10, if_pos z00]
end MABOUT
