/-! The Model is told, whatever the class holds. -/
section MTOLD
variable {σ : Mem} {n m : Nat}
def RLM (σ : Mem) (n m : Nat) : Prop := (n ≤ 5 ∧ m ≤ 5) ∧ vI σ 35 1 = n ∧ vI σ 35 2 = m
theorem o_isHeap {x : Int32} (hR : RLM σ n m) : fX3_isHeap x σ = some (if 0 ≤ x.toInt ∧ x.toInt < n then 1 else 0, σ) := by
  unfold fX3_isHeap fX3_isHeap_e
  have h1 := hR.2.1
  have h5 := hR.1
  have e : (rI σ 35 1 - 1).toInt = (n : Int) - 1 := by
    unfold vI at h1
    rw [tI_sub, h1, I_1]
    rw [h1, I_1]; unfold inR; omega
  rw [m_in, bnd_s, bool_ok, grd_t, I_0, e]
  by_cases h : 0 ≤ x.toInt ∧ x.toInt < n
  · rw [if_pos (by omega), if_pos h]
  · rw [if_neg (by omega), if_neg h]
theorem o_isHole {x : Int32} (hR : RLM σ n m) : fX3_isHole x σ = some (if 0 ≤ x.toInt ∧ x.toInt < m then 1 else 0, σ) := by
  unfold fX3_isHole fX3_isHole_e
  have h1 := hR.2.2
  have h5 := hR.1
  have e : (rI σ 35 2 - 1).toInt = (m : Int) - 1 := by
    unfold vI at h1
    rw [tI_sub, h1, I_1]
    rw [h1, I_1]; unfold inR; omega
  rw [m_in, bnd_s, bool_ok, grd_t, I_0, e]
  by_cases h : 0 ≤ x.toInt ∧ x.toInt < m
  · rw [if_pos (by omega), if_pos h]
  · rw [if_neg (by omega), if_neg h]
theorem o_isWay {x y : Int32} (hR : RLM σ n m) : fX3_isWay x y σ = some (if (0 ≤ x.toInt ∧ x.toInt < n) ∧ 0 ≤ y.toInt ∧ y.toInt < m then 1 else 0, σ) := by
  unfold fX3_isWay fX3_isWay_e fX3_isWay_20 fX3_isWay_21
  rw [o_isHeap hR, bnd_s]
  by_cases h1 : 0 ≤ x.toInt ∧ x.toInt < n
  · rw [if_pos h1, if_neg (by decide), o_isHole hR, bnd_s]
    by_cases h2 : 0 ≤ y.toInt ∧ y.toInt < m
    · rw [if_pos h2, if_neg (by decide), if_pos ⟨h1, h2⟩]; rfl
    · rw [if_neg h2, if_pos rfl, if_neg (fun q => h2 q.2)]; rfl
  · rw [if_neg h1, if_pos rfl, if_neg (fun q => h1 q.1)]; rfl
theorem o_isOne {v x : Int32} (hR : RLM σ n m) : fX3_isOne v x σ = some (if 0 ≤ x.toInt ∧ x.toInt < szOf n m v then 1 else 0, σ) := by
  unfold fX3_isOne fX3_isOne_e fX3_isOne_17 szOf
  by_cases h : v = 0
  · rw [if_pos h, if_pos h, o_isHeap hR, bnd_s, bool_ok, grd_t]
  · rw [if_neg h, if_neg h, o_isHole hR, bnd_s, bool_ok, grd_t]
theorem o_heap {x y : Int32} (hR : RLM σ n m) : fX3_heap x y σ =
    if ¬ ((0 ≤ x.toInt ∧ x.toInt ≤ 100) ∧ 1 ≤ y.toInt ∧ y.toInt ≤ 20) then some (0, wI σ 35 0 1) else if n = 5 then some (0, wI σ 35 0 2) else some (nI n, wI (wI (wI (wI σ 35 0 0) 36 n x) 37 n y) 35 1 (nI (n + 1))) := by
  have h5 := hR.1
  have e1 : rI σ 35 1 = nI n := nI_eqI _ hR.2.1
  unfold fX3_heap fX3_heap_e fX3_heap_26
  rw [m_isRight, bnd_s, m_goesWell, m_goesWell, m_goesWell, bnd_s, bnd_s, bnd_s]
  by_cases h : (0 ≤ x.toInt ∧ x.toInt ≤ 100) ∧ 1 ≤ y.toInt ∧ y.toInt ≤ 20
  · rw [if_pos h, if_neg (show ¬ (1 : Int32) = 0 by decide), if_neg (show ¬ ¬ ((0 ≤ x.toInt ∧ x.toInt ≤ 100) ∧ 1 ≤ y.toInt ∧ y.toInt ≤ 20) from fun q => q h), e1]
    by_cases h2 : n = 5
    · subst h2
      rw [if_pos (show nI 5 = (5 : Int32) from rfl), if_pos rfl, if_neg (show ¬ (2 : Int32) = 0 by decide), if_pos rfl]
    · have hne : ¬ nI n = (5 : Int32) := fun e => h2 ((nI_eq (by omega) (by omega)).mp e)
      rw [if_neg hne, if_neg h2, if_pos rfl, if_neg (show ¬ (1 : Int32) = 0 by decide)]
      have e2 : rI (wI σ 35 0 0) 35 1 = nI n := by rw [rI_w, if_neg (by omega)]; exact e1
      rw [e2, inb_n (show n < 5 by omega) (by omega), grd_t, ix_n (n := n) (by omega)]
      unfold ltM
      have e3 : rI (wI (wI σ 35 0 0) 36 n x) 35 1 = nI n := by rw [rI_w, if_neg (by omega)]; exact e2
      have e4 : rI (wI (wI (wI σ 35 0 0) 36 n x) 37 n y) 35 1 = nI n := by rw [rI_w, if_neg (by omega)]; exact e3
      dsimp only
      rw [e3, inb_n (show n < 5 by omega) (by omega), grd_t, ix_n (n := n) (by omega), e4, rI_w, if_pos ⟨rfl, rfl⟩, nI_1]
      have e5 : nI (n + 1) - 1 = nI n := by
        rw [eqI, tI_sub, nI_t (by omega), nI_t (by omega), I_1]
        · omega
        · rw [nI_t (by omega), I_1]; unfold inR; omega
      rw [e5]
  · rw [if_neg h, if_pos rfl, if_pos h, if_neg (show ¬ (1 : Int32) = 0 by decide), if_pos rfl]
theorem o_hole {x y : Int32} (hR : RLM σ n m) : fX3_hole x y σ =
    if ¬ ((0 ≤ x.toInt ∧ x.toInt ≤ 100) ∧ 1 ≤ y.toInt ∧ y.toInt ≤ 20) then some (0, wI σ 35 0 1) else if m = 5 then some (0, wI σ 35 0 2) else some (nI m, wI (wI (wI (wI σ 35 0 0) 38 m x) 39 m y) 35 2 (nI (m + 1))) := by
  have h5 := hR.1
  have e1 : rI σ 35 2 = nI m := nI_eqI _ hR.2.2
  unfold fX3_hole fX3_hole_e fX3_hole_26
  rw [m_isRight, bnd_s, m_goesWell, m_goesWell, m_goesWell, bnd_s, bnd_s, bnd_s]
  by_cases h : (0 ≤ x.toInt ∧ x.toInt ≤ 100) ∧ 1 ≤ y.toInt ∧ y.toInt ≤ 20
  · rw [if_pos h, if_neg (show ¬ (1 : Int32) = 0 by decide), if_neg (show ¬ ¬ ((0 ≤ x.toInt ∧ x.toInt ≤ 100) ∧ 1 ≤ y.toInt ∧ y.toInt ≤ 20) from fun q => q h), e1]
    by_cases h2 : m = 5
    · subst h2
      rw [if_pos (show nI 5 = (5 : Int32) from rfl), if_pos rfl, if_neg (show ¬ (2 : Int32) = 0 by decide), if_pos rfl]
    · have hne : ¬ nI m = (5 : Int32) := fun e => h2 ((nI_eq (by omega) (by omega)).mp e)
      rw [if_neg hne, if_neg h2, if_pos rfl, if_neg (show ¬ (1 : Int32) = 0 by decide)]
      have e2 : rI (wI σ 35 0 0) 35 2 = nI m := by rw [rI_w, if_neg (by omega)]; exact e1
      rw [e2, inb_n (show m < 5 by omega) (by omega), grd_t, ix_n (n := m) (by omega)]
      unfold ltM
      have e3 : rI (wI (wI σ 35 0 0) 38 m x) 35 2 = nI m := by rw [rI_w, if_neg (by omega)]; exact e2
      have e4 : rI (wI (wI (wI σ 35 0 0) 38 m x) 39 m y) 35 2 = nI m := by rw [rI_w, if_neg (by omega)]; exact e3
      dsimp only
      rw [e3, inb_n (show m < 5 by omega) (by omega), grd_t, ix_n (n := m) (by omega), e4, rI_w, if_pos ⟨rfl, rfl⟩, nI_1]
      have e5 : nI (m + 1) - 1 = nI m := by
        rw [eqI, tI_sub, nI_t (by omega), nI_t (by omega), I_1]
        · omega
        · rw [nI_t (by omega), I_1]; unfold inR; omega
      rw [e5]
  · rw [if_neg h, if_pos rfl, if_pos h, if_neg (show ¬ (1 : Int32) = 0 by decide), if_pos rfl]
theorem o_alter {v x p q : Int32} (hR : RLM σ n m) : fX3_alter v x p q σ =
    if ¬ (0 ≤ x.toInt ∧ x.toInt < szOf n m v) then some (0, wI σ 35 0 1) else if ¬ ((0 ≤ p.toInt ∧ p.toInt ≤ 100) ∧ 1 ≤ q.toInt ∧ q.toInt ≤ 20) then some (0, wI σ 35 0 2)
    else some (rI σ (mdOf v + 1) (ix x), wI (wI (wI σ 35 0 0) (mdOf v) (ix x) p) (mdOf v + 1) (ix x) q) := by
  have h5 := hR.1
  unfold fX3_alter fX3_alter_e fX3_alter_32 fX3_alter_59 fX3_alter_98
  rw [o_isOne hR, bnd_s, m_isRight, bnd_s, m_goesWell, m_goesWell, m_goesWell, bnd_s, bnd_s, bnd_s]
  by_cases h1 : 0 ≤ x.toInt ∧ x.toInt < szOf n m v
  · rw [if_pos h1, if_neg (show ¬ (1 : Int32) = 0 by decide), if_neg (show ¬ ¬ (0 ≤ x.toInt ∧ x.toInt < szOf n m v) from fun q => q h1)]
    by_cases h2 : (0 ≤ p.toInt ∧ p.toInt ≤ 100) ∧ 1 ≤ q.toInt ∧ q.toInt ≤ 20
    · rw [if_pos h2, if_neg (show ¬ (1 : Int32) = 0 by decide), if_neg (show ¬ ¬ ((0 ≤ p.toInt ∧ p.toInt ≤ 100) ∧ 1 ≤ q.toInt ∧ q.toInt ≤ 20) from fun z => z h2), if_pos rfl, if_neg (show ¬ (1 : Int32) = 0 by decide)]
      have h6 : szOf n m v ≤ 5 := by unfold szOf; split <;> omega
      obtain ⟨i, hi, rfl⟩ := nI_ex h1
      unfold mdOf ltM
      by_cases hv : v = 0
      · simp only [if_pos hv, inb_n (show i < 5 by omega) (show 5 < 2147483648 by omega), grd_t]
        rw [rI_w, if_neg (by omega)]
      · simp only [if_neg hv, inb_n (show i < 5 by omega) (show 5 < 2147483648 by omega), grd_t]
        rw [rI_w, if_neg (by omega)]
    · rw [if_neg h2, if_pos rfl, if_pos h2, if_neg (show ¬ (2 : Int32) = 0 by decide), if_pos rfl]
  · rw [if_neg h1, if_pos rfl, if_pos h1, if_neg (show ¬ (1 : Int32) = 0 by decide), if_pos rfl]
theorem o_own {x y c : Int32} (hR : RLM σ n m) : fX3_own x y c σ =
    if ¬ ((0 ≤ x.toInt ∧ x.toInt < n) ∧ 0 ≤ y.toInt ∧ y.toInt < m) then some (0, wI σ 35 0 1) else if ¬ (-1 ≤ c.toInt ∧ c.toInt ≤ 10000) then some (0, wI σ 35 0 2)
    else some (rI σ 40 (5 * ix x + ix y), wI (wI σ 35 0 0) 40 (5 * ix x + ix y) c) := by
  unfold fX3_own fX3_own_e fX3_own_34
  rw [o_isWay hR, bnd_s, m_in, bnd_s, I_m1, I_10000, m_goesWell, m_goesWell, m_goesWell, bnd_s, bnd_s, bnd_s]
  by_cases h1 : (0 ≤ x.toInt ∧ x.toInt < n) ∧ 0 ≤ y.toInt ∧ y.toInt < m
  · rw [if_pos h1, if_neg n10, if_neg (show ¬ ¬ ((0 ≤ x.toInt ∧ x.toInt < n) ∧ 0 ≤ y.toInt ∧ y.toInt < m) from fun q => q h1)]
    by_cases h2 : -1 ≤ c.toInt ∧ c.toInt ≤ 10000
    · rw [if_pos h2, if_neg n10, if_neg (show ¬ ¬ (-1 ≤ c.toInt ∧ c.toInt ≤ 10000) from fun q => q h2), if_pos z00, if_neg n10]
      have h5 := hR.1
      obtain ⟨i, hi, rfl⟩ := nI_ex h1.1
      obtain ⟨j, hj, rfl⟩ := nI_ex h1.2
      rw [nI_way5]
      unfold ltI ltM
      simp only [inb_n (show 5 * i + j < 25 by omega) (show 25 < 2147483648 by omega), grd_t, ix_n (show 5 * i + j < 2147483648 by omega), ix_n (show i < 2147483648 by omega), ix_n (show j < 2147483648 by omega)]
      have e : rI (wI σ 35 0 0) 40 (5 * i + j) = rI σ 40 (5 * i + j) := by rw [rI_w, if_neg (by omega)]
      rw [e]
    · rw [if_neg h2, if_pos z00, if_pos h2, if_neg n20, if_pos z00]
  · rw [if_neg h1, if_pos z00, if_pos h1, if_neg n10, if_pos z00]
theorem o_cap {x y c : Int32} (hR : RLM σ n m) : fX3_cap x y c σ =
    if ¬ ((0 ≤ x.toInt ∧ x.toInt < n) ∧ 0 ≤ y.toInt ∧ y.toInt < m) then some (0, wI σ 35 0 1) else if ¬ (-1 ≤ c.toInt ∧ c.toInt ≤ 20) then some (0, wI σ 35 0 2)
    else some (rI σ 41 (5 * ix x + ix y), wI (wI σ 35 0 0) 41 (5 * ix x + ix y) c) := by
  unfold fX3_cap fX3_cap_e fX3_cap_33
  rw [o_isWay hR, bnd_s, m_in, bnd_s, I_m1, I_20, m_goesWell, m_goesWell, m_goesWell, bnd_s, bnd_s, bnd_s]
  by_cases h1 : (0 ≤ x.toInt ∧ x.toInt < n) ∧ 0 ≤ y.toInt ∧ y.toInt < m
  · rw [if_pos h1, if_neg n10, if_neg (show ¬ ¬ ((0 ≤ x.toInt ∧ x.toInt < n) ∧ 0 ≤ y.toInt ∧ y.toInt < m) from fun q => q h1)]
    by_cases h2 : -1 ≤ c.toInt ∧ c.toInt ≤ 20
    · rw [if_pos h2, if_neg n10, if_neg (show ¬ ¬ (-1 ≤ c.toInt ∧ c.toInt ≤ 20) from fun q => q h2), if_pos z00, if_neg n10]
      have h5 := hR.1
      obtain ⟨i, hi, rfl⟩ := nI_ex h1.1
      obtain ⟨j, hj, rfl⟩ := nI_ex h1.2
      rw [nI_way5]
      unfold ltI ltM
      simp only [inb_n (show 5 * i + j < 25 by omega) (show 25 < 2147483648 by omega), grd_t, ix_n (show 5 * i + j < 2147483648 by omega), ix_n (show i < 2147483648 by omega), ix_n (show j < 2147483648 by omega)]
      have e : rI (wI σ 35 0 0) 41 (5 * i + j) = rI σ 41 (5 * i + j) := by rw [rI_w, if_neg (by omega)]
      rw [e]
    · rw [if_neg h2, if_pos z00, if_pos h2, if_neg n20, if_pos z00]
  · rw [if_neg h1, if_pos z00, if_pos h1, if_neg n10, if_pos z00]
theorem o_carry {x y c : Int32} (hR : RLM σ n m) : fX3_carry x y c σ =
    if ¬ ((0 ≤ x.toInt ∧ x.toInt < n) ∧ 0 ≤ y.toInt ∧ y.toInt < m) then some (0, wI σ 35 0 1) else if ¬ (0 ≤ c.toInt ∧ c.toInt ≤ 20) then some (0, wI σ 35 0 2)
    else some (rI σ 42 (5 * ix x + ix y), wI (wI σ 35 0 0) 42 (5 * ix x + ix y) c) := by
  unfold fX3_carry fX3_carry_e fX3_carry_33
  rw [o_isWay hR, bnd_s, m_in, bnd_s, I_0, I_20, m_goesWell, m_goesWell, m_goesWell, bnd_s, bnd_s, bnd_s]
  by_cases h1 : (0 ≤ x.toInt ∧ x.toInt < n) ∧ 0 ≤ y.toInt ∧ y.toInt < m
  · rw [if_pos h1, if_neg n10, if_neg (show ¬ ¬ ((0 ≤ x.toInt ∧ x.toInt < n) ∧ 0 ≤ y.toInt ∧ y.toInt < m) from fun q => q h1)]
    by_cases h2 : 0 ≤ c.toInt ∧ c.toInt ≤ 20
    · rw [if_pos h2, if_neg n10, if_neg (show ¬ ¬ (0 ≤ c.toInt ∧ c.toInt ≤ 20) from fun q => q h2), if_pos z00, if_neg n10]
      have h5 := hR.1
      obtain ⟨i, hi, rfl⟩ := nI_ex h1.1
      obtain ⟨j, hj, rfl⟩ := nI_ex h1.2
      rw [nI_way5]
      unfold ltI ltM
      simp only [inb_n (show 5 * i + j < 25 by omega) (show 25 < 2147483648 by omega), grd_t, ix_n (show 5 * i + j < 2147483648 by omega), ix_n (show i < 2147483648 by omega), ix_n (show j < 2147483648 by omega)]
      have e : rI (wI σ 35 0 0) 42 (5 * i + j) = rI σ 42 (5 * i + j) := by rw [rI_w, if_neg (by omega)]
      rw [e]
    · rw [if_neg h2, if_pos z00, if_pos h2, if_neg n20, if_pos z00]
  · rw [if_neg h1, if_pos z00, if_pos h1, if_neg n10, if_pos z00]
end MTOLD
