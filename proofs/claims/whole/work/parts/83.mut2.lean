/-! Calls that change what both hold. -/
section MUT2
variable {σ : Mem} {n m : Nat}
theorem st_heap {x y : Int32} (h : WLD σ) : STP (wrp (tt 1 2) (fX2_heap x y σ)) (fX3_heap x y) := by
  obtain ⟨n, m, hR, hH, hI⟩ := h
  have h5 := hR.1.1
  have e1 := s_heap (x := x) (y := y) hR.1
  have e2 := mt_heap (x := x) (y := y) hR
  by_cases h1 : (0 ≤ x.toInt ∧ x.toInt ≤ 100) ∧ 1 ≤ y.toInt ∧ y.toInt ≤ 20
  · rw [if_neg (fun q => q h1)] at e1 e2
    by_cases h2 : n = 5
    · rw [if_pos h2] at e1 e2
      exact stp_no hR hH hI (e := 2) (k := 2) rfl n20 e1 e2
    · rw [if_neg h2] at e1
      have e3 := o_heap (σ := wJ (wI (wI (wI (wI σ 0 14 0) 2 n x) 3 n y) 1 2 (nI (n + 1))) 50 0 (nI n).toInt64) (x := x) (y := y) (n := n) (m := m) ⟨by omega, by
        simp only [vI_J, vI_w]
        repeat rw [if_neg (by omega)]
        exact hR.2.1.1, by
        simp only [vI_J, vI_w]
        repeat rw [if_neg (by omega)]
        exact hR.2.1.2⟩
      rw [if_neg (fun q => q h1), if_neg h2] at e3
      refine stp_mut e1 e3 rfl (by simp [rI_w]) rfl (wld_heap hR hH h1.1 h1.2 (i := n) (n' := n + 1) (by omega) (Or.inr ⟨rfl, rfl⟩) ?_ ?_ (fun k => ?_) (fun k => ?_) (fun k => ?_) (fun k => ?_) (fun k a hk => ?_) ?_)
      · simp [vI_J, vI_w, nI_t (show n + 1 < 2147483648 by omega)]
      · simp [vI_J, vI_w, nI_t (show n + 1 < 2147483648 by omega)]
      · simp [vI_J, vI_w]
      · simp [vI_J, vI_w]
      · simp [vI_J, vI_w]
      · simp [vI_J, vI_w]
      · simp only [vI_J, vI_w]
        repeat rw [if_neg (by omega)]
      · simp [vI_J, vI_w]
  · rw [if_pos h1] at e1 e2
    exact stp_no hR hH hI (e := 1) (k := 1) rfl n10 e1 e2
theorem st_hole {x y : Int32} (h : WLD σ) : STP (wrp (tt 1 2) (fX2_hole x y σ)) (fX3_hole x y) := by
  obtain ⟨n, m, hR, hH, hI⟩ := h
  have h5 := hR.1.1
  have e1 := s_hole (x := x) (y := y) hR.1
  have e2 := mt_hole (x := x) (y := y) hR
  by_cases h1 : (0 ≤ x.toInt ∧ x.toInt ≤ 100) ∧ 1 ≤ y.toInt ∧ y.toInt ≤ 20
  · rw [if_neg (fun q => q h1)] at e1 e2
    by_cases h2 : m = 5
    · rw [if_pos h2] at e1 e2
      exact stp_no hR hH hI (e := 2) (k := 2) rfl n20 e1 e2
    · rw [if_neg h2] at e1
      have e3 := o_hole (σ := wJ (wI (wI (wI (wI σ 0 14 0) 5 m x) 6 m y) 4 2 (nI (m + 1))) 50 0 (nI m).toInt64) (x := x) (y := y) (n := n) (m := m) ⟨by omega, by
        simp only [vI_J, vI_w]
        repeat rw [if_neg (by omega)]
        exact hR.2.1.1, by
        simp only [vI_J, vI_w]
        repeat rw [if_neg (by omega)]
        exact hR.2.1.2⟩
      rw [if_neg (fun q => q h1), if_neg h2] at e3
      refine stp_mut e1 e3 rfl (by simp [rI_w]) rfl (wld_hole hR hH h1.1 h1.2 (i := m) (m' := m + 1) (by omega) (Or.inr ⟨rfl, rfl⟩) ?_ ?_ (fun k => ?_) (fun k => ?_) (fun k => ?_) (fun k => ?_) (fun k a hk => ?_) ?_)
      · simp [vI_J, vI_w, nI_t (show m + 1 < 2147483648 by omega)]
      · simp [vI_J, vI_w, nI_t (show m + 1 < 2147483648 by omega)]
      · simp [vI_J, vI_w]
      · simp [vI_J, vI_w]
      · simp [vI_J, vI_w]
      · simp [vI_J, vI_w]
      · simp only [vI_J, vI_w]
        repeat rw [if_neg (by omega)]
      · simp [vI_J, vI_w]
  · rw [if_pos h1] at e1 e2
    exact stp_no hR hH hI (e := 1) (k := 1) rfl n10 e1 e2
theorem st_alter {v x p q : Int32} (h : WLD σ) : STP (wrp (tt 0 1) (fX2_alter v x p q σ)) (fX3_alter v x p q) := by
  obtain ⟨n, m, hR, hH, hI⟩ := h
  have h5 := hR.1.1
  have e1 := s_alter (v := v) (x := x) (p := p) (q := q) hR.1
  have e2 := mt_alter (v := v) (x := x) (p := p) (q := q) hR
  by_cases h1 : 0 ≤ x.toInt ∧ x.toInt < szOf n m v
  · rw [if_neg (fun z => z h1)] at e1 e2
    by_cases h2 : (0 ≤ p.toInt ∧ p.toInt ≤ 100) ∧ 1 ≤ q.toInt ∧ q.toInt ≤ 20
    · rw [if_neg (fun z => z h2)] at e1
      have h1' := h1
      obtain ⟨i, hi, rfl⟩ := nI_ex h1
      have h1 := h1'
      rw [ix_n (n := i) (by unfold szOf at hi; split at hi <;> omega)] at e1
      by_cases hv : v = 0
      · have es : szOf n m v = n := if_pos hv
        have ed : sdOf v = 1 := if_pos hv
        have em : mdOf v = 36 := if_pos hv
        rw [es] at hi
        rw [ed] at e1
        have e3 := o_alter (σ := wJ (wI (wI (wI σ (1 + 1) i p) (1 + 2) i q) 0 14 0) 50 0 (rI σ (1 + 2) i).toInt64) (v := v) (x := nI i) (p := p) (q := q) (n := n) (m := m) ⟨by omega, by
          simp only [vI_J, vI_w]
          repeat rw [if_neg (by omega)]
          exact hR.2.1.1, by
          simp only [vI_J, vI_w]
          repeat rw [if_neg (by omega)]
          exact hR.2.1.2⟩
        rw [if_neg (fun z => z h1), if_neg (fun z => z h2), em, ix_n (n := i) (by omega)] at e3
        refine stp_mut e1 e3 ?_ (by simp [rI_w]) rfl (wld_heap hR hH h2.1 h2.2 (i := i) (n' := n) (by omega) (Or.inl ⟨rfl, hi⟩) ?_ ?_ (fun k => ?_) (fun k => ?_) (fun k => ?_) (fun k => ?_) (fun k a hk => ?_) ?_)
        · rw [eqI]
          show vI (wJ _ _ _ _) (36 + 1) i = vI σ (1 + 2) i
          simp only [vI_J, vI_w]
          repeat rw [if_neg (by omega)]
          exact (hR.2.2.2.1 i hi).2
        · simp [vI_J, vI_w]; exact h5.1
        · simp [vI_J, vI_w]; exact hR.2.1.1
        · simp [vI_J, vI_w]
        · simp [vI_J, vI_w]
        · simp [vI_J, vI_w]
        · simp [vI_J, vI_w]
        · simp only [vI_J, vI_w]
          repeat rw [if_neg (by omega)]
        · simp [vI_J, vI_w]
      · have es : szOf n m v = m := if_neg hv
        have ed : sdOf v = 4 := if_neg hv
        have em : mdOf v = 38 := if_neg hv
        rw [es] at hi
        rw [ed] at e1
        have e3 := o_alter (σ := wJ (wI (wI (wI σ (4 + 1) i p) (4 + 2) i q) 0 14 0) 50 0 (rI σ (4 + 2) i).toInt64) (v := v) (x := nI i) (p := p) (q := q) (n := n) (m := m) ⟨by omega, by
          simp only [vI_J, vI_w]
          repeat rw [if_neg (by omega)]
          exact hR.2.1.1, by
          simp only [vI_J, vI_w]
          repeat rw [if_neg (by omega)]
          exact hR.2.1.2⟩
        rw [if_neg (fun z => z h1), if_neg (fun z => z h2), em, ix_n (n := i) (by omega)] at e3
        refine stp_mut e1 e3 ?_ (by simp [rI_w]) rfl (wld_hole hR hH h2.1 h2.2 (i := i) (m' := m) (by omega) (Or.inl ⟨rfl, hi⟩) ?_ ?_ (fun k => ?_) (fun k => ?_) (fun k => ?_) (fun k => ?_) (fun k a hk => ?_) ?_)
        · rw [eqI]
          show vI (wJ _ _ _ _) (38 + 1) i = vI σ (4 + 2) i
          simp only [vI_J, vI_w]
          repeat rw [if_neg (by omega)]
          exact (hR.2.2.2.2.1 i hi).2
        · simp [vI_J, vI_w]; exact h5.2.2.1
        · simp [vI_J, vI_w]; exact hR.2.1.2
        · simp [vI_J, vI_w]
        · simp [vI_J, vI_w]
        · simp [vI_J, vI_w]
        · simp [vI_J, vI_w]
        · simp only [vI_J, vI_w]
          repeat rw [if_neg (by omega)]
        · simp [vI_J, vI_w]
    · rw [if_pos h2] at e1 e2
      exact stp_no hR hH hI (e := 1) (k := 2) rfl n20 e1 e2
  · rw [if_pos h1] at e1 e2
    exact stp_no hR hH hI (e := 0) (k := 1) rfl n10 e1 e2
theorem st_measure {x y : Int32} (h : WLD σ) : STP (wrp (tt 1 9) (fX2_measure x y σ)) (fX3_measure x y) := by
  obtain ⟨n, m, hR, hH, hI⟩ := h
  have h8 := hR.1.2.2.2.2.2.2.2.1
  have h9 := hR.1.2.2.2.2.2.2.2.2
  have e1 := s_measure (x := x) (y := y) (σ := σ)
  have e2 := mt_measure (x := x) (y := y) (σ := σ)
  by_cases h1 : (0 ≤ x.toInt ∧ x.toInt ≤ 2) ∧ (x.toInt = 2 → 1 ≤ y.toInt ∧ y.toInt ≤ 200)
  · rw [if_neg (fun z => z h1)] at e1
    obtain ⟨r3, r4, r5, r6⟩ := hR.2.2.1
    by_cases h2 : x.toInt = 2
    · rw [if_pos h2] at e1
      have e3 := mt_measure (x := x) (y := y) (σ := wJ (wI (wI (wI σ 0 11 y) 0 10 x) 0 14 0) 50 0 (rI σ 0 10).toInt64)
      rw [if_neg (fun z => z h1), if_pos h2] at e3
      refine stp_mut e1 e3 ?_ (by simp [rI_w]) rfl (wld_way hR hH ?_ ?_ ?_ (fun w hw => ⟨Or.inl ?_, Or.inl ?_⟩) (fun k a hk => ?_) ?_)
      · rw [eqI]
        show vI (wJ _ _ _ _) 35 7 = vI σ 0 10
        simp [vI_J, vI_w]; exact r3
      · simp [vI_J, vI_w]; omega
      · simp [vI_J, vI_w]; omega
      · simp [vI_J, vI_w]; omega
      · simp [vI_J, vI_w]
      · simp [vI_J, vI_w]
      · simp only [vI_J, vI_w]
        repeat rw [if_neg (by omega)]
      · simp [vI_J, vI_w]
    · rw [if_neg h2] at e1
      have e3 := mt_measure (x := x) (y := y) (σ := wJ (wI (wI σ 0 10 x) 0 14 0) 50 0 (rI σ 0 10).toInt64)
      rw [if_neg (fun z => z h1), if_neg h2] at e3
      have e358 : (rI (wJ (wI (wI σ 0 10 x) 0 14 0) 50 0 (rI σ 0 10).toInt64) 35 8).toInt = vI σ 35 8 := by
        show vI (wJ _ _ _ _) 35 8 = _
        simp [vI_J, vI_w]
      refine stp_mut e1 e3 ?_ (by simp [rI_w]) rfl (wld_way hR hH ?_ ?_ ?_ (fun w hw => ⟨Or.inl ?_, Or.inl ?_⟩) (fun k a hk => ?_) ?_)
      · rw [eqI]
        show vI (wJ _ _ _ _) 35 7 = vI σ 0 10
        simp [vI_J, vI_w]; exact r3
      · simp [vI_J, vI_w]; omega
      · simp [vI_J, vI_w]; omega
      · simp only [vI_w, e358]; simp [vI_J, vI_w]; omega
      · simp [vI_J, vI_w]
      · simp [vI_J, vI_w]
      · simp only [vI_J, vI_w]
        repeat rw [if_neg (by omega)]
      · simp [vI_J, vI_w]
  · rw [if_pos h1] at e1 e2
    exact stp_no hR hH hI (e := 1) (k := 1) rfl n10 e1 e2
theorem st_terms {x y : Int32} (h : WLD σ) : STP (wrp (tt 1 9) (fX2_terms x y σ)) (fX3_terms x y) := by
  obtain ⟨n, m, hR, hH, hI⟩ := h
  have h8 := hR.1.2.2.2.2.2.2.2.1
  have h9 := hR.1.2.2.2.2.2.2.2.2
  have e1 := s_terms (x := x) (y := y) (σ := σ)
  have e2 := mt_terms (x := x) (y := y) (σ := σ)
  by_cases h1 : (0 ≤ x.toInt ∧ x.toInt ≤ 10000) ∧ 0 ≤ y.toInt ∧ y.toInt ≤ 10000
  · rw [if_neg (fun z => z h1)] at e1
    obtain ⟨r3, r4, r5, r6⟩ := hR.2.2.1
    have e3 := mt_terms (x := x) (y := y) (σ := wJ (wI (wI (wI σ 0 12 x) 0 13 y) 0 14 0) 50 0 (rI σ 0 12).toInt64)
    rw [if_neg (fun z => z h1)] at e3
    refine stp_mut e1 e3 ?_ (by simp [rI_w]) rfl (wld_way hR hH ?_ ?_ ?_ (fun w hw => ⟨Or.inl ?_, Or.inl ?_⟩) (fun k a hk => ?_) ?_)
    · rw [eqI]
      show vI (wJ _ _ _ _) 35 12 = vI σ 0 12
      simp [vI_J, vI_w]; exact r5
    · simp [vI_J, vI_w]; omega
    · simp [vI_J, vI_w]; omega
    · simp [vI_J, vI_w]; omega
    · simp [vI_J, vI_w]
    · simp [vI_J, vI_w]
    · simp only [vI_J, vI_w]
      repeat rw [if_neg (by omega)]
    · simp [vI_J, vI_w]
  · rw [if_pos h1] at e1 e2
    exact stp_no hR hH hI (e := 1) (k := 1) rfl n10 e1 e2
theorem way_ex {x y : Int32} (h : (0 ≤ x.toInt ∧ x.toInt < n) ∧ 0 ≤ y.toInt ∧ y.toInt < m) (hn : n ≤ 5 ∧ m ≤ 5) : ∃ w, w < 25 ∧ 5 * ix x + ix y = w ∧ w / 5 < n ∧ w % 5 < m := by
  obtain ⟨i, hi, rfl⟩ := nI_ex h.1
  obtain ⟨j, hj, rfl⟩ := nI_ex h.2
  rw [ix_n (n := i) (by omega), ix_n (n := j) (by omega)]
  exact ⟨5 * i + j, by omega, rfl, by omega, by omega⟩
theorem st_own {x y c : Int32} (h : WLD σ) : STP (wrp (tt 0 1) (fX2_own x y c σ)) (fX3_own x y c) := by
  obtain ⟨n, m, hR, hH, hI⟩ := h
  have h5 := hR.1.1
  have h8 := hR.1.2.2.2.2.2.2.2.1
  have h9 := hR.1.2.2.2.2.2.2.2.2
  have e1 := s_own (x := x) (y := y) (c := c) hR.1
  have e2 := mt_own (x := x) (y := y) (c := c) hR
  by_cases h1 : (0 ≤ x.toInt ∧ x.toInt < n) ∧ 0 ≤ y.toInt ∧ y.toInt < m
  · rw [if_neg (fun z => z h1)] at e1 e2
    by_cases h2 : -1 ≤ c.toInt ∧ c.toInt ≤ 10000
    · rw [if_neg (fun z => z h2)] at e1
      obtain ⟨r3, r4, r5, r6⟩ := hR.2.2.1
      obtain ⟨w0, hw0, ew, hwn, hwm⟩ := way_ex h1 ⟨h5.2.1, h5.2.2.2⟩
      rw [ew] at e1
      have e3 := o_own (σ := wJ (wI (wI σ 0 14 0) 7 w0 c) 50 0 (rI σ 7 w0).toInt64) (x := x) (y := y) (c := c) (n := n) (m := m) ⟨by omega, by
        simp only [vI_J, vI_w]
        repeat rw [if_neg (by omega)]
        exact hR.2.1.1, by
        simp only [vI_J, vI_w]
        repeat rw [if_neg (by omega)]
        exact hR.2.1.2⟩
      rw [if_neg (fun z => z h1), if_neg (fun z => z h2), ew] at e3
      refine stp_mut e1 e3 ?_ (by simp [rI_w]) rfl (wld_way hR hH ?_ ?_ ?_ (fun w hw => ⟨?_, Or.inl ?_⟩) (fun k a hk => ?_) ?_)
      · rw [eqI]
        show vI (wJ _ _ _ _) 40 w0 = vI σ 7 w0
        simp [vI_J, vI_w]; exact (hR.2.2.2.2.2 w0 hw0).1
      · simp [vI_J, vI_w]; omega
      · simp [vI_J, vI_w]; omega
      · simp [vI_J, vI_w]; omega
      · simp [vI_J, vI_w]
        by_cases e : w = w0
        · subst e; simp; omega
        · simp [e]
      · simp [vI_J, vI_w]
      · simp only [vI_J, vI_w]
        repeat rw [if_neg (by omega)]
      · simp [vI_J, vI_w]
    · rw [if_pos h2] at e1 e2
      exact stp_no hR hH hI (e := 1) (k := 2) rfl n20 e1 e2
  · rw [if_pos h1] at e1 e2
    exact stp_no hR hH hI (e := 0) (k := 1) rfl n10 e1 e2
theorem st_cap {x y c : Int32} (h : WLD σ) : STP (wrp (tt 0 1) (fX2_cap x y c σ)) (fX3_cap x y c) := by
  obtain ⟨n, m, hR, hH, hI⟩ := h
  have h5 := hR.1.1
  have h8 := hR.1.2.2.2.2.2.2.2.1
  have h9 := hR.1.2.2.2.2.2.2.2.2
  have e1 := s_cap (x := x) (y := y) (c := c) hR.1
  have e2 := mt_cap (x := x) (y := y) (c := c) hR
  by_cases h1 : (0 ≤ x.toInt ∧ x.toInt < n) ∧ 0 ≤ y.toInt ∧ y.toInt < m
  · rw [if_neg (fun z => z h1)] at e1 e2
    by_cases h2 : -1 ≤ c.toInt ∧ c.toInt ≤ 20
    · rw [if_neg (fun z => z h2)] at e1
      obtain ⟨r3, r4, r5, r6⟩ := hR.2.2.1
      obtain ⟨w0, hw0, ew, hwn, hwm⟩ := way_ex h1 ⟨h5.2.1, h5.2.2.2⟩
      rw [ew] at e1
      have e3 := o_cap (σ := wJ (wI (wI σ 0 14 0) 8 w0 c) 50 0 (rI σ 8 w0).toInt64) (x := x) (y := y) (c := c) (n := n) (m := m) ⟨by omega, by
        simp only [vI_J, vI_w]
        repeat rw [if_neg (by omega)]
        exact hR.2.1.1, by
        simp only [vI_J, vI_w]
        repeat rw [if_neg (by omega)]
        exact hR.2.1.2⟩
      rw [if_neg (fun z => z h1), if_neg (fun z => z h2), ew] at e3
      refine stp_mut e1 e3 ?_ (by simp [rI_w]) rfl (wld_way hR hH ?_ ?_ ?_ (fun w hw => ⟨Or.inl ?_, ?_⟩) (fun k a hk => ?_) ?_)
      · rw [eqI]
        show vI (wJ _ _ _ _) 41 w0 = vI σ 8 w0
        simp [vI_J, vI_w]; exact (hR.2.2.2.2.2 w0 hw0).2.1
      · simp [vI_J, vI_w]; omega
      · simp [vI_J, vI_w]; omega
      · simp [vI_J, vI_w]; omega
      · simp [vI_J, vI_w]
      · simp [vI_J, vI_w]
        by_cases e : w = w0
        · subst e; simp; omega
        · simp [e]
      · simp only [vI_J, vI_w]
        repeat rw [if_neg (by omega)]
      · simp [vI_J, vI_w]
    · rw [if_pos h2] at e1 e2
      exact stp_no hR hH hI (e := 1) (k := 2) rfl n20 e1 e2
  · rw [if_pos h1] at e1 e2
    exact stp_no hR hH hI (e := 0) (k := 1) rfl n10 e1 e2
end MUT2
