/-! The Model: by hand, about. -/
section MHAND
variable {σ : Mem} {n m : Nat}
theorem bh_loop {v : Int32} {i : Nat} (hi : i < 5) : ∀ (d k fu : Nat), k + d = 5 → d < fu → fX3_byHand_5 fu v (nI i) (oI (if v = 0 then rfr (vI σ 42) k i else rto (vI σ 42) k i)) (nI k) σ = some (oI (if v = 0 then rowS (vI σ 42) i else colS (vI σ 42) i), σ) := by
  intro d
  induction d with
  | zero =>
    intro k fu h1 h2
    obtain ⟨fu, rfl⟩ : ∃ q, fu = q + 1 := ⟨fu - 1, by omega⟩
    have hk : k = 5 := by omega
    subst hk
    show fX3_byHand_5b _ _ _ _ _ _ = _
    unfold fX3_byHand_5b
    rw [if_pos (by decide)]
    rfl
  | succ d ih =>
    intro k fu h1 h2
    obtain ⟨fu, rfl⟩ : ∃ q, fu = q + 1 := ⟨fu - 1, by omega⟩
    rw [← ih (k + 1) fu (by omega) (by omega)]
    show fX3_byHand_5b _ _ _ _ _ _ = _
    unfold fX3_byHand_5b fX3_byHand_35 ltI
    rw [if_neg (by rw [leI, nI_t (by omega), I_5]; omega), nI_way5, nI_way5]
    simp only [inb_n (show 5 * i + k < 25 by omega) (show 25 < 2147483648 by omega), inb_n (show 5 * k + i < 25 by omega) (show 25 < 2147483648 by omega), grd_t, ix_n (show 5 * i + k < 2147483648 by omega), ix_n (show 5 * k + i < 2147483648 by omega), nI_1]
    by_cases h : v = 0
    · simp only [if_pos h]
      rw [oI_v, oI_add]
      rfl
    · simp only [if_neg h]
      rw [oI_v, oI_add]
      rfl
theorem m_byHand {v : Int32} {i : Nat} (hi : i < 5) : fX3_byHand v (nI i) σ = some (oI (if v = 0 then rowS (vI σ 42) i else colS (vI σ 42) i), σ) := by
  have h := bh_loop (σ := σ) (v := v) hi 5 0 FU (by omega) (by unfold FU; omega)
  have e : (if v = 0 then rfr (vI σ 42) 0 i else rto (vI σ 42) 0 i) = 0 := by split <;> rfl
  rw [e] at h
  exact h
/-- sums by hand over all are sums over those that are -/
theorem hand_row (hR : REL σ n m) (hH : HND σ) {i : Nat} (hi : i < 5) : rowS (vI σ 42) i = hfr σ m i := by
  have h5 := hR.1.1
  have e : ∀ j, j < 5 → vI σ 42 (5 * i + j) = if j < m then vI σ 9 (5 * i + j) else 0 := fun j hj => by
    rw [hH _ (by omega)]
    by_cases h : j < m
    · rw [if_pos h]
    · rw [if_neg h]
      exact (hR.1.2.2.2.2.1 i j hi hj (fun q => h q.2)).2.2
  unfold rowS hfr
  rw [sm_congr e]
  have hm : m = 0 ∨ m = 1 ∨ m = 2 ∨ m = 3 ∨ m = 4 ∨ m = 5 := by omega
  rcases hm with rfl | rfl | rfl | rfl | rfl | rfl <;> simp [sm]
theorem hand_col (hR : REL σ n m) (hH : HND σ) {j : Nat} (hj : j < 5) : colS (vI σ 42) j = hto σ n j := by
  have h5 := hR.1.1
  have e : ∀ i, i < 5 → vI σ 42 (5 * i + j) = if i < n then vI σ 9 (5 * i + j) else 0 := fun i hi => by
    rw [hH _ (by omega)]
    by_cases h : i < n
    · rw [if_pos h]
    · rw [if_neg h]
      exact (hR.1.2.2.2.2.1 i j hi hj (fun q => h q.1)).2.2
  unfold colS hto
  rw [sm_congr e]
  have hm : n = 0 ∨ n = 1 ∨ n = 2 ∨ n = 3 ∨ n = 4 ∨ n = 5 := by omega
  rcases hm with rfl | rfl | rfl | rfl | rfl | rfl <;> simp [sm]
end MHAND
