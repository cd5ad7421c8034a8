/-! The Model is told; its answers of plans. -/
section MTELL
variable {σ : Mem} {n m : Nat}
theorem w0_rel {x : Int32} (hR : REL σ n m) : REL (wI σ 35 0 x) n m := smm_rel w_smm0 hR
theorem mt_heap {x y : Int32} (hR : REL σ n m) : fX3_heap x y σ =
    if ¬ ((0 ≤ x.toInt ∧ x.toInt ≤ 100) ∧ 1 ≤ y.toInt ∧ y.toInt ≤ 20) then some (0, wI σ 35 0 1) else if n = 5 then some (0, wI σ 35 0 2) else some (nI n, wI (wI (wI (wI σ 35 0 0) 36 n x) 37 n y) 35 1 (nI (n + 1))) := by
  have h5 := hR.1.1
  have e1 : rI σ 35 1 = nI n := nI_eqI _ hR.2.1.1
  unfold fX3_heap fX3_heap_e fX3_heap_26
  rw [m_isRight, bnd_s, m_goesWell, m_goesWell, m_goesWell, bnd_s, bnd_s, bnd_s]
  by_cases h : (0 ≤ x.toInt ∧ x.toInt ≤ 100) ∧ 1 ≤ y.toInt ∧ y.toInt ≤ 20
  · rw [if_pos h, if_neg (show ¬ (1 : Int32) = 0 by decide), if_neg (show ¬ ¬ ((0 ≤ x.toInt ∧ x.toInt ≤ 100) ∧ 1 ≤ y.toInt ∧ y.toInt ≤ 20) from fun q => q h), e1]
    by_cases h2 : n = 5
    · subst h2
      rw [if_pos (show nI 5 = (5 : Int32) from rfl), if_pos rfl, if_neg (show ¬ (2 : Int32) = 0 by decide), if_pos rfl]
    · have hne : ¬ nI n = (5 : Int32) := fun e => h2 ((nI_eq (by omega) (by omega)).mp e)
      rw [if_neg hne, if_neg h2, if_pos rfl, if_neg (show ¬ (1 : Int32) = 0 by decide)]
      have e2 : rI (wI σ 35 0 0) 35 1 = nI n := by rw [rI_w, if_neg (by omega)]; exact e1
      rw [e2, inb_n (show n < 5 by omega) (by omega), grd_t, ix_n (n := n) (by omega)]
      unfold ltM
      have e3 : rI (wI (wI σ 35 0 0) 36 n x) 35 1 = nI n := by rw [rI_w, if_neg (by omega)]; exact e2
      have e4 : rI (wI (wI (wI σ 35 0 0) 36 n x) 37 n y) 35 1 = nI n := by rw [rI_w, if_neg (by omega)]; exact e3
      dsimp only
      rw [e3, inb_n (show n < 5 by omega) (by omega), grd_t, ix_n (n := n) (by omega), e4, rI_w, if_pos ⟨rfl, rfl⟩, nI_1]
      have e5 : nI (n + 1) - 1 = nI n := by
        rw [eqI, tI_sub, nI_t (by omega), nI_t (by omega), I_1]
        · omega
        · rw [nI_t (by omega), I_1]; unfold inR; omega
      rw [e5]
  · rw [if_neg h, if_pos rfl, if_pos h, if_neg (show ¬ (1 : Int32) = 0 by decide), if_pos rfl]
theorem mt_hole {x y : Int32} (hR : REL σ n m) : fX3_hole x y σ =
    if ¬ ((0 ≤ x.toInt ∧ x.toInt ≤ 100) ∧ 1 ≤ y.toInt ∧ y.toInt ≤ 20) then some (0, wI σ 35 0 1) else if m = 5 then some (0, wI σ 35 0 2) else some (nI m, wI (wI (wI (wI σ 35 0 0) 38 m x) 39 m y) 35 2 (nI (m + 1))) := by
  have h5 := hR.1.1
  have e1 : rI σ 35 2 = nI m := nI_eqI _ hR.2.1.2
  unfold fX3_hole fX3_hole_e fX3_hole_26
  rw [m_isRight, bnd_s, m_goesWell, m_goesWell, m_goesWell, bnd_s, bnd_s, bnd_s]
  by_cases h : (0 ≤ x.toInt ∧ x.toInt ≤ 100) ∧ 1 ≤ y.toInt ∧ y.toInt ≤ 20
  · rw [if_pos h, if_neg (show ¬ (1 : Int32) = 0 by decide), if_neg (show ¬ ¬ ((0 ≤ x.toInt ∧ x.toInt ≤ 100) ∧ 1 ≤ y.toInt ∧ y.toInt ≤ 20) from fun q => q h), e1]
    by_cases h2 : m = 5
    · subst h2
      rw [if_pos (show nI 5 = (5 : Int32) from rfl), if_pos rfl, if_neg (show ¬ (2 : Int32) = 0 by decide), if_pos rfl]
    · have hne : ¬ nI m = (5 : Int32) := fun e => h2 ((nI_eq (by omega) (by omega)).mp e)
      rw [if_neg hne, if_neg h2, if_pos rfl, if_neg (show ¬ (1 : Int32) = 0 by decide)]
      have e2 : rI (wI σ 35 0 0) 35 2 = nI m := by rw [rI_w, if_neg (by omega)]; exact e1
      rw [e2, inb_n (show m < 5 by omega) (by omega), grd_t, ix_n (n := m) (by omega)]
      unfold ltM
      have e3 : rI (wI (wI σ 35 0 0) 38 m x) 35 2 = nI m := by rw [rI_w, if_neg (by omega)]; exact e2
      have e4 : rI (wI (wI (wI σ 35 0 0) 38 m x) 39 m y) 35 2 = nI m := by rw [rI_w, if_neg (by omega)]; exact e3
      dsimp only
      rw [e3, inb_n (show m < 5 by omega) (by omega), grd_t, ix_n (n := m) (by omega), e4, rI_w, if_pos ⟨rfl, rfl⟩, nI_1]
      have e5 : nI (m + 1) - 1 = nI m := by
        rw [eqI, tI_sub, nI_t (by omega), nI_t (by omega), I_1]
        · omega
        · rw [nI_t (by omega), I_1]; unfold inR; omega
      rw [e5]
  · rw [if_neg h, if_pos rfl, if_pos h, if_neg (show ¬ (1 : Int32) = 0 by decide), if_pos rfl]
/-- the first cell of a side of the Model -/
def mdOf (v : Int32) : Nat := if v = 0 then 36 else 38
theorem mt_alter {v x p q : Int32} (hR : REL σ n m) : fX3_alter v x p q σ =
    if ¬ (0 ≤ x.toInt ∧ x.toInt < szOf n m v) then some (0, wI σ 35 0 1) else if ¬ ((0 ≤ p.toInt ∧ p.toInt ≤ 100) ∧ 1 ≤ q.toInt ∧ q.toInt ≤ 20) then some (0, wI σ 35 0 2)
    else some (rI σ (mdOf v + 1) (ix x), wI (wI (wI σ 35 0 0) (mdOf v) (ix x) p) (mdOf v + 1) (ix x) q) := by
  have h5 := hR.1.1
  unfold fX3_alter fX3_alter_e fX3_alter_32 fX3_alter_59 fX3_alter_98
  rw [m_isOne hR, bnd_s, m_isRight, bnd_s, m_goesWell, m_goesWell, m_goesWell, bnd_s, bnd_s, bnd_s]
  by_cases h1 : 0 ≤ x.toInt ∧ x.toInt < szOf n m v
  · rw [if_pos h1, if_neg (show ¬ (1 : Int32) = 0 by decide), if_neg (show ¬ ¬ (0 ≤ x.toInt ∧ x.toInt < szOf n m v) from fun q => q h1)]
    by_cases h2 : (0 ≤ p.toInt ∧ p.toInt ≤ 100) ∧ 1 ≤ q.toInt ∧ q.toInt ≤ 20
    · rw [if_pos h2, if_neg (show ¬ (1 : Int32) = 0 by decide), if_neg (show ¬ ¬ ((0 ≤ p.toInt ∧ p.toInt ≤ 100) ∧ 1 ≤ q.toInt ∧ q.toInt ≤ 20) from fun z => z h2), if_pos rfl, if_neg (show ¬ (1 : Int32) = 0 by decide)]
      have h6 : szOf n m v ≤ 5 := by unfold szOf; split <;> omega
      obtain ⟨i, hi, rfl⟩ := nI_ex h1
      unfold mdOf ltM
      by_cases hv : v = 0
      · simp only [if_pos hv, inb_n (show i < 5 by omega) (show 5 < 2147483648 by omega), grd_t]
        rw [rI_w, if_neg (by omega)]
      · simp only [if_neg hv, inb_n (show i < 5 by omega) (show 5 < 2147483648 by omega), grd_t]
        rw [rI_w, if_neg (by omega)]
    · rw [if_neg h2, if_pos rfl, if_pos h2, if_neg (show ¬ (2 : Int32) = 0 by decide), if_pos rfl]
  · rw [if_neg h1, if_pos rfl, if_pos h1, if_neg (show ¬ (1 : Int32) = 0 by decide), if_pos rfl]
theorem mt_measure {x y : Int32} : fX3_measure x y σ =
    if ¬ ((0 ≤ x.toInt ∧ x.toInt ≤ 2) ∧ (x.toInt = 2 → 1 ≤ y.toInt ∧ y.toInt ≤ 200)) then some (0, wI σ 35 0 1)
    else some (rI σ 35 7, wI (wI (wI σ 35 0 0) 35 7 x) 35 8 (if x.toInt = 2 then y else rI σ 35 8)) := by
  unfold fX3_measure fX3_measure_e fX3_measure_30 fX3_measure_26 fX3_measure_31 fX3_measure_63
  rw [m_in, bnd_s, I_0, I_2, m_in, bnd_s, I_1, I_200, m_goesWell, m_goesWell, bnd_s, bnd_s]
  have ex : x = (2 : Int32) ↔ x.toInt = 2 := by rw [eqI, I_2]
  have hsuc : ∀ z : Int32, ltI (rI (wI σ 35 0 0) 35 7) (fun x3 => ltM (wI (wI σ 35 0 0) 35 7 x) fun σ4 => if x = 2 then ltM (wI σ4 35 8 y) fun σ1 => some (x3, σ1) else ltM (wI σ4 35 8 (rI σ4 35 8)) fun σ1 => some (x3, σ1)) = some (rI σ 35 7, wI (wI (wI σ 35 0 0) 35 7 x) 35 8 (if x.toInt = 2 then y else rI σ 35 8)) := by
    intro z
    unfold ltI ltM
    dsimp only
    have e7 : rI (wI σ 35 0 0) 35 7 = rI σ 35 7 := by rw [rI_w, if_neg (by omega)]
    have e8 : rI (wI (wI σ 35 0 0) 35 7 x) 35 8 = rI σ 35 8 := by rw [rI_w, if_neg (by omega), rI_w, if_neg (by omega)]
    rw [e7, e8]
    by_cases h : x.toInt = 2
    · rw [if_pos (ex.mpr h), if_pos h]
    · rw [if_neg (fun q => h (ex.mp q)), if_neg h]
  by_cases h1 : 0 ≤ x.toInt ∧ x.toInt ≤ 2
  · rw [if_pos h1, if_neg (show ¬ (1 : Int32) = 0 by decide)]
    by_cases h2 : x.toInt = 2
    · rw [if_pos (ex.mpr h2)]
      by_cases h3 : 1 ≤ y.toInt ∧ y.toInt ≤ 200
      · rw [if_pos h3, if_neg (show ¬ (1 : Int32) = 0 by decide), if_neg (show ¬ ¬ ((0 ≤ x.toInt ∧ x.toInt ≤ 2) ∧ (x.toInt = 2 → 1 ≤ y.toInt ∧ y.toInt ≤ 200)) from fun q => q ⟨h1, fun _ => h3⟩), if_pos (show (0 : Int32) = 0 from rfl), if_neg (show ¬ (1 : Int32) = 0 by decide)]
        exact hsuc 0
      · rw [if_neg h3, if_pos (show (0 : Int32) = 0 from rfl), if_pos (show ¬ ((0 ≤ x.toInt ∧ x.toInt ≤ 2) ∧ (x.toInt = 2 → 1 ≤ y.toInt ∧ y.toInt ≤ 200)) from fun q => h3 (q.2 h2)), if_neg (show ¬ (1 : Int32) = 0 by decide), if_pos (show (0 : Int32) = 0 from rfl)]
    · rw [if_neg (fun q => h2 (ex.mp q)), if_neg (show ¬ ¬ ((0 ≤ x.toInt ∧ x.toInt ≤ 2) ∧ (x.toInt = 2 → 1 ≤ y.toInt ∧ y.toInt ≤ 200)) from fun q => q ⟨h1, fun e => absurd e h2⟩), if_pos (show (0 : Int32) = 0 from rfl), if_neg (show ¬ (1 : Int32) = 0 by decide)]
      exact hsuc 0
  · rw [if_neg h1, if_pos (show (0 : Int32) = 0 from rfl), if_pos (show ¬ ((0 ≤ x.toInt ∧ x.toInt ≤ 2) ∧ (x.toInt = 2 → 1 ≤ y.toInt ∧ y.toInt ≤ 200)) from fun q => h1 q.1), if_neg (show ¬ (1 : Int32) = 0 by decide), if_pos (show (0 : Int32) = 0 from rfl)]
end MTELL
