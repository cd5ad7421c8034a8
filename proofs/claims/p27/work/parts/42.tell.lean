/-! What the carrier is told. -/
theorem I_100 : ((100 : Int32)).toInt = 100 := by decide
theorem I_200 : ((200 : Int32)).toInt = 200 := by decide
theorem I_10000 : ((10000 : Int32)).toInt = 10000 := by decide
theorem I_5 : ((5 : Int32)).toInt = 5 := by decide
theorem I_6 : ((6 : Int32)).toInt = 6 := by decide
theorem s_range {x lo hi : Int32} {σ : Mem} : fX2_checkRange x lo hi σ = if lo.toInt ≤ x.toInt ∧ x.toInt ≤ hi.toInt then some (Sum.inl 0, σ) else some (Sum.inr 1, σ) := by
  unfold fX2_checkRange fX2_checkRange_e fX2_checkRange_10
  by_cases h1 : lo.toInt ≤ x.toInt
  · rw [if_neg (by rw [ltI']; omega)]
    by_cases h2 : x.toInt ≤ hi.toInt
    · rw [if_pos (by rw [leI]; exact h2), if_pos ⟨h1, h2⟩]
    · rw [if_neg (by rw [leI]; exact h2), if_neg (fun q => h2 q.2)]
  · rw [if_pos (by rw [ltI']; omega), if_neg (fun q => h1 q.1)]
theorem s_pa {x y : Int32} {σ : Mem} : fX2_checkPlaceAndAmount x y σ = if (0 ≤ x.toInt ∧ x.toInt ≤ 100) ∧ 1 ≤ y.toInt ∧ y.toInt ≤ 20 then some (Sum.inl 0, σ) else some (Sum.inr 1, σ) := by
  unfold fX2_checkPlaceAndAmount fX2_checkPlaceAndAmount_e
  rw [s_range, I_0, I_100]
  by_cases h1 : 0 ≤ x.toInt ∧ x.toInt ≤ 100
  · rw [if_pos h1, bndX_l, s_range, I_1, I_20]
    by_cases h2 : 1 ≤ y.toInt ∧ y.toInt ≤ 20
    · rw [if_pos h2, bndX_l, if_pos ⟨h1, h2⟩]
    · rw [if_neg h2, bndX_r, if_neg (fun q => h2 q.2)]
  · rw [if_neg h1, bndX_r, if_neg (fun q => h1 q.1)]
theorem s_isFull {k n : Nat} {σ : Mem} (h : vI σ k 2 = n) (hn : n ≤ 5) : fX1_isFull k σ = some (if n = 5 then 1 else 0, σ) := by
  unfold fX1_isFull fX1_isFull_e fX1_isFull_13
  by_cases e : n = 5
  · rw [if_neg (by rw [ltI', I_5]; unfold vI at h; omega), if_pos e]; rfl
  · rw [if_pos (by rw [ltI', I_5]; unfold vI at h; omega), if_neg e]; rfl
theorem s_add {k n : Nat} {x y : Int32} {σ : Mem} (h : vI σ k 2 = n) (hn : n < 5) : fX1_add k x y σ = some (nI n, wI (wI (wI σ (k + 1) n x) (k + 2) n y) k 2 (nI (n + 1))) := by
  unfold fX1_add fX1_add_e
  have e1 : rI σ k 2 = nI n := nI_eqI _ h
  rw [s_isFull h (by omega), bnd_s, show (if n = 5 then (1 : Int32) else 0) = 0 from if_neg (by omega), if_pos rfl, e1, inb_n (show n < 5 by omega) (by omega), grd_t, ix_n (n := n) (by omega)]
  unfold ltM
  have e2 : rI (wI σ (k + 1) n x) k 2 = nI n := by rw [rI_w, if_neg (by omega)]; exact e1
  have e3 : rI (wI (wI σ (k + 1) n x) (k + 2) n y) k 2 = nI n := by rw [rI_w, if_neg (by omega)]; exact e2
  dsimp only
  rw [e2, inb_n (show n < 5 by omega) (by omega), grd_t, ix_n (n := n) (by omega)]
  rw [e3, rI_w, if_pos ⟨rfl, rfl⟩, nI_1]
  have e4 : nI (n + 1) - 1 = nI n := by
    rw [eqI, tI_sub, nI_t (by omega), nI_t (by omega), I_1]
    · omega
    · rw [nI_t (by omega), I_1]; unfold inR; omega
  rw [e4]
theorem s_addTo {k n : Nat} {x y : Int32} {σ : Mem} (hk : k ≠ 0) (h : vI σ k 2 = n) (hn : n ≤ 5) : fX2_addTo k x y σ =
    if ¬ ((0 ≤ x.toInt ∧ x.toInt ≤ 100) ∧ 1 ≤ y.toInt ∧ y.toInt ≤ 20) then some (Sum.inr 1, σ) else if n = 5 then some (Sum.inr 2, σ) else some (Sum.inl (nI n), wI (wI (wI (wI σ 0 14 0) (k + 1) n x) (k + 2) n y) k 2 (nI (n + 1))) := by
  unfold fX2_addTo fX2_addTo_e
  rw [s_pa]
  by_cases h1 : (0 ≤ x.toInt ∧ x.toInt ≤ 100) ∧ 1 ≤ y.toInt ∧ y.toInt ≤ 20
  · rw [if_pos h1, bndX_l, if_neg (fun q => q h1), s_isFull h hn, bnd_s]
    by_cases e : n = 5
    · rw [if_pos e, if_neg (by decide), if_pos e]
    · rw [if_neg e, if_pos rfl, if_neg e]
      unfold ltM
      dsimp only
      rw [s_add (n := n) (by rw [vI_wne hk]; exact h) (by omega), bnd_s]
  · rw [if_neg h1, bndX_r, if_pos h1]
theorem s_heap {x y : Int32} {σ : Mem} {n m : Nat} (hD : DAT σ n m) : fX2_heap x y σ =
    if ¬ ((0 ≤ x.toInt ∧ x.toInt ≤ 100) ∧ 1 ≤ y.toInt ∧ y.toInt ≤ 20) then some (Sum.inr 1, σ) else if n = 5 then some (Sum.inr 2, σ) else some (Sum.inl (nI n), wI (wI (wI (wI σ 0 14 0) 2 n x) 3 n y) 1 2 (nI (n + 1))) := by
  unfold fX2_heap fX2_heap_e
  rw [s_addTo (by omega) hD.1.1 hD.1.2.1]
  split
  · rfl
  · split <;> rfl
theorem s_hole {x y : Int32} {σ : Mem} {n m : Nat} (hD : DAT σ n m) : fX2_hole x y σ =
    if ¬ ((0 ≤ x.toInt ∧ x.toInt ≤ 100) ∧ 1 ≤ y.toInt ∧ y.toInt ≤ 20) then some (Sum.inr 1, σ) else if m = 5 then some (Sum.inr 2, σ) else some (Sum.inl (nI m), wI (wI (wI (wI σ 0 14 0) 5 m x) 6 m y) 4 2 (nI (m + 1))) := by
  unfold fX2_hole fX2_hole_e
  rw [s_addTo (by omega) hD.1.2.2.1 hD.1.2.2.2]
  split
  · rfl
  · split <;> rfl
theorem s_holds {k n : Nat} {v : Int32} {σ : Mem} (h : vI σ k 2 = n) : fX1_holds k v σ = some (if 0 ≤ v.toInt ∧ v.toInt < n then 1 else 0, σ) := by
  unfold fX1_holds fX1_holds_e fX1_holds_16 fX1_holds_17
  unfold vI at h
  by_cases h0 : v.toInt < 0
  · rw [if_pos (by rw [ltI', I_0]; exact h0), if_neg (by omega)]; rfl
  · rw [if_neg (by rw [ltI', I_0]; exact h0)]
    by_cases h1 : v.toInt < n
    · rw [if_neg (by rw [leI]; omega), if_pos (by omega)]; rfl
    · rw [if_pos (by rw [leI]; omega), if_neg (by omega)]; rfl
/-- the size of a side: 0 for heaps -/
def szOf (n m : Nat) (v : Int32) : Nat := if v = 0 then n else m
theorem s_checkNumber {v x : Int32} {σ : Mem} {n m : Nat} (hD : DAT σ n m) : fX2_checkNumber v x σ = if 0 ≤ x.toInt ∧ x.toInt < szOf n m v then some (Sum.inl 0, σ) else some (Sum.inr 0, σ) := by
  unfold fX2_checkNumber fX2_checkNumber_e fX2_side fX2_side_e fX2_side_15 szOf
  by_cases h : v = 0
  · rw [if_pos h, if_pos h, bnd_s, show decide (ki 1 = 2) = true by decide, grd_t, s_holds hD.1.1, bnd_s]
    by_cases h2 : 0 ≤ x.toInt ∧ x.toInt < n
    · rw [if_pos h2, if_neg (by decide), if_pos h2]
    · rw [if_neg h2, if_pos rfl, if_neg h2]
  · rw [if_neg h, if_neg h, bnd_s, show decide (ki 4 = 2) = true by decide, grd_t, s_holds hD.1.2.2.1, bnd_s]
    by_cases h2 : 0 ≤ x.toInt ∧ x.toInt < m
    · rw [if_pos h2, if_neg (by decide), if_pos h2]
    · rw [if_neg h2, if_pos rfl, if_neg h2]
theorem s_checkWay {x y : Int32} {σ : Mem} {n m : Nat} (hD : DAT σ n m) : fX2_checkWay x y σ = if (0 ≤ x.toInt ∧ x.toInt < n) ∧ 0 ≤ y.toInt ∧ y.toInt < m then some (Sum.inl 0, σ) else some (Sum.inr 0, σ) := by
  unfold fX2_checkWay fX2_checkWay_e
  rw [s_checkNumber hD, show szOf n m 0 = n from rfl]
  by_cases h1 : 0 ≤ x.toInt ∧ x.toInt < n
  · rw [if_pos h1, bndX_l, s_checkNumber hD, show szOf n m 1 = m from rfl]
    by_cases h2 : 0 ≤ y.toInt ∧ y.toInt < m
    · rw [if_pos h2, bndX_l, if_pos ⟨h1, h2⟩]
    · rw [if_neg h2, bndX_r, if_neg (fun q => h2 q.2)]
  · rw [if_neg h1, bndX_r, if_neg (fun q => h1 q.1)]
/-- an index that stands -/
theorem nI_ex {x : Int32} {n : Nat} (h : 0 ≤ x.toInt ∧ x.toInt < n) : ∃ i, i < n ∧ x = nI i := ⟨x.toInt.toNat, by omega, nI_eqI _ (by omega)⟩
/-- the first cell of a side -/
def sdOf (v : Int32) : Nat := if v = 0 then 1 else 4
theorem s_alter {v x p q : Int32} {σ : Mem} {n m : Nat} (hD : DAT σ n m) : fX2_alter v x p q σ =
    if ¬ (0 ≤ x.toInt ∧ x.toInt < szOf n m v) then some (Sum.inr 0, σ) else if ¬ ((0 ≤ p.toInt ∧ p.toInt ≤ 100) ∧ 1 ≤ q.toInt ∧ q.toInt ≤ 20) then some (Sum.inr 1, σ)
    else some (Sum.inl (rI σ (sdOf v + 2) (ix x)), wI (wI (wI σ (sdOf v + 1) (ix x) p) (sdOf v + 2) (ix x) q) 0 14 0) := by
  unfold fX2_alter fX2_alter_e
  rw [s_checkNumber hD]
  by_cases h1 : 0 ≤ x.toInt ∧ x.toInt < szOf n m v
  · rw [if_pos h1, bndX_l, if_neg (fun q => q h1), s_pa]
    by_cases h2 : (0 ≤ p.toInt ∧ p.toInt ≤ 100) ∧ 1 ≤ q.toInt ∧ q.toInt ≤ 20
    · rw [if_pos h2, bndX_l, if_neg (fun q => q h2)]
      have h5 : szOf n m v ≤ 5 := by unfold szOf; have := hD.1; split <;> omega
      obtain ⟨i, hi, rfl⟩ := nI_ex h1
      unfold fX2_side fX2_side_e fX2_side_15 sdOf ltM ltI
      by_cases hv : v = 0
      · rw [if_pos hv, if_pos hv, bnd_s, show decide (ki 1 = 2) = true by decide]
        simp only [inb_n (show i < 5 by omega) (show 5 < 2147483648 by omega), grd_t]
      · rw [if_neg hv, if_neg hv, bnd_s, show decide (ki 4 = 2) = true by decide]
        simp only [inb_n (show i < 5 by omega) (show 5 < 2147483648 by omega), grd_t]
    · rw [if_neg h2, bndX_r, if_pos h2]
  · rw [if_neg h1, bndX_r, if_pos h1]
theorem s_measure {x y : Int32} {σ : Mem} : fX2_measure x y σ =
    if ¬ ((0 ≤ x.toInt ∧ x.toInt ≤ 2) ∧ (x.toInt = 2 → 1 ≤ y.toInt ∧ y.toInt ≤ 200)) then some (Sum.inr 1, σ)
    else some (Sum.inl (rI σ 0 10), wI (wI (if x.toInt = 2 then wI σ 0 11 y else σ) 0 10 x) 0 14 0) := by
  unfold fX2_measure fX2_measure_e fX2_measure_24 ltI ltM
  rw [s_range, I_0, I_2]
  by_cases h1 : 0 ≤ x.toInt ∧ x.toInt ≤ 2
  · rw [if_pos h1, bndX_l]
    by_cases h2 : x.toInt = 2
    · rw [if_pos (by rw [eqI, I_2]; exact h2), s_range, I_1, I_200]
      by_cases h3 : 1 ≤ y.toInt ∧ y.toInt ≤ 200
      · rw [if_pos h3, bndX_l, if_neg (fun q => q ⟨h1, fun _ => h3⟩), if_pos h2]
        dsimp only
        rw [rI_w, if_neg (by omega)]
      · rw [if_neg h3, bndX_r, if_pos (fun q => h3 (q.2 h2))]
    · rw [if_neg (by rw [eqI, I_2]; exact h2), if_neg (fun q => q ⟨h1, fun e => absurd e h2⟩), if_neg h2]
  · rw [if_neg h1, bndX_r, if_pos (fun q => h1 q.1)]
theorem s_tell {k w : Nat} {x : Int32} {σ : Mem} (hw : w < ln k) (hl : ln k ≤ 25) : fX2_tell k (nI w) x σ = some (rI σ k w, wI σ k w x) := by
  unfold fX2_tell fX2_tell_e ltI ltM
  simp only [inb_n hw (show ln k < 2147483648 by omega), grd_t, ix_n (show w < 2147483648 by omega)]
theorem s_own {x y c : Int32} {σ : Mem} {n m : Nat} (hD : DAT σ n m) : fX2_own x y c σ =
    if ¬ ((0 ≤ x.toInt ∧ x.toInt < n) ∧ 0 ≤ y.toInt ∧ y.toInt < m) then some (Sum.inr 0, σ) else if ¬ (-1 ≤ c.toInt ∧ c.toInt ≤ 10000) then some (Sum.inr 1, σ)
    else some (Sum.inl (rI σ 7 (5 * ix x + ix y)), wI (wI σ 0 14 0) 7 (5 * ix x + ix y) c) := by
  unfold fX2_own fX2_own_e
  rw [s_checkWay hD]
  by_cases h1 : (0 ≤ x.toInt ∧ x.toInt < n) ∧ 0 ≤ y.toInt ∧ y.toInt < m
  · rw [if_pos h1, bndX_l, if_neg (fun q => q h1), s_range, I_m1, I_10000]
    by_cases h2 : -1 ≤ c.toInt ∧ c.toInt ≤ 10000
    · rw [if_pos h2, bndX_l, if_neg (fun q => q h2)]
      have h5 := hD.1
      obtain ⟨i, hi, rfl⟩ := nI_ex h1.1
      obtain ⟨j, hj, rfl⟩ := nI_ex h1.2
      unfold ltM
      dsimp only
      rw [s_wayOf, bnd_s, s_tell (show 5 * i + j < ln 7 by show 5 * i + j < 25; omega) (by decide), bnd_s, ix_n (n := i) (by omega), ix_n (n := j) (by omega), rI_w, if_neg (by omega)]
    · rw [if_neg h2, bndX_r, if_pos h2]
  · rw [if_neg h1, bndX_r, if_pos h1]
theorem s_cap {x y c : Int32} {σ : Mem} {n m : Nat} (hD : DAT σ n m) : fX2_cap x y c σ =
    if ¬ ((0 ≤ x.toInt ∧ x.toInt < n) ∧ 0 ≤ y.toInt ∧ y.toInt < m) then some (Sum.inr 0, σ) else if ¬ (-1 ≤ c.toInt ∧ c.toInt ≤ 20) then some (Sum.inr 1, σ)
    else some (Sum.inl (rI σ 8 (5 * ix x + ix y)), wI (wI σ 0 14 0) 8 (5 * ix x + ix y) c) := by
  unfold fX2_cap fX2_cap_e
  rw [s_checkWay hD]
  by_cases h1 : (0 ≤ x.toInt ∧ x.toInt < n) ∧ 0 ≤ y.toInt ∧ y.toInt < m
  · rw [if_pos h1, bndX_l, if_neg (fun q => q h1), s_range, I_m1, I_20]
    by_cases h2 : -1 ≤ c.toInt ∧ c.toInt ≤ 20
    · rw [if_pos h2, bndX_l, if_neg (fun q => q h2)]
      have h5 := hD.1
      obtain ⟨i, hi, rfl⟩ := nI_ex h1.1
      obtain ⟨j, hj, rfl⟩ := nI_ex h1.2
      unfold ltM
      dsimp only
      rw [s_wayOf, bnd_s, s_tell (show 5 * i + j < ln 8 by show 5 * i + j < 25; omega) (by decide), bnd_s, ix_n (n := i) (by omega), ix_n (n := j) (by omega), rI_w, if_neg (by omega)]
    · rw [if_neg h2, bndX_r, if_pos h2]
  · rw [if_neg h1, bndX_r, if_pos h1]
theorem s_carry {x y c : Int32} {σ : Mem} {n m : Nat} (hD : DAT σ n m) : fX2_carry x y c σ =
    if ¬ ((0 ≤ x.toInt ∧ x.toInt < n) ∧ 0 ≤ y.toInt ∧ y.toInt < m) then some (Sum.inr 0, σ) else if ¬ (0 ≤ c.toInt ∧ c.toInt ≤ 20) then some (Sum.inr 1, σ)
    else some (Sum.inl (rI σ 9 (5 * ix x + ix y)), wI σ 9 (5 * ix x + ix y) c) := by
  unfold fX2_carry fX2_carry_e
  rw [s_checkWay hD]
  by_cases h1 : (0 ≤ x.toInt ∧ x.toInt < n) ∧ 0 ≤ y.toInt ∧ y.toInt < m
  · rw [if_pos h1, bndX_l, if_neg (fun q => q h1), s_range, I_0, I_20]
    by_cases h2 : 0 ≤ c.toInt ∧ c.toInt ≤ 20
    · rw [if_pos h2, bndX_l, if_neg (fun q => q h2)]
      have h5 := hD.1
      obtain ⟨i, hi, rfl⟩ := nI_ex h1.1
      obtain ⟨j, hj, rfl⟩ := nI_ex h1.2
      rw [s_wayOf, bnd_s, s_tell (show 5 * i + j < ln 9 by show 5 * i + j < 25; omega) (by decide), bnd_s, ix_n (n := i) (by omega), ix_n (n := j) (by omega)]
    · rw [if_neg h2, bndX_r, if_pos h2]
  · rw [if_neg h1, bndX_r, if_pos h1]
theorem s_terms {x y : Int32} {σ : Mem} : fX2_terms x y σ =
    if ¬ ((0 ≤ x.toInt ∧ x.toInt ≤ 10000) ∧ 0 ≤ y.toInt ∧ y.toInt ≤ 10000) then some (Sum.inr 1, σ)
    else some (Sum.inl (rI σ 0 12), wI (wI (wI σ 0 12 x) 0 13 y) 0 14 0) := by
  unfold fX2_terms fX2_terms_e
  rw [s_range, I_0, I_10000]
  by_cases h1 : 0 ≤ x.toInt ∧ x.toInt ≤ 10000
  · rw [if_pos h1, bndX_l, s_range, I_0, I_10000]
    by_cases h2 : 0 ≤ y.toInt ∧ y.toInt ≤ 10000
    · rw [if_pos h2, bndX_l, if_neg (fun q => q ⟨h1, h2⟩)]
      rfl
    · rw [if_neg h2, bndX_r, if_pos (fun q => h2 q.2)]
  · rw [if_neg h1, bndX_r, if_pos (fun q => h1 q.1)]
theorem s_unit {x y : Int32} {σ : Mem} {n m : Nat} (hD : DAT σ n m) : (¬ ((0 ≤ x.toInt ∧ x.toInt < n) ∧ 0 ≤ y.toInt ∧ y.toInt < m) ∧ fX2_unit x y σ = some (Sum.inr 0, σ)) ∨ ((0 ≤ x.toInt ∧ x.toInt < n) ∧ 0 ≤ y.toInt ∧ y.toInt < m) ∧ ∃ z, fX2_unit x y σ = some (Sum.inl z, σ) ∧ z.toInt = unD σ (ix x) (ix y) := by
  unfold fX2_unit fX2_unit_e
  rw [s_checkWay hD]
  by_cases h1 : (0 ≤ x.toInt ∧ x.toInt < n) ∧ 0 ≤ y.toInt ∧ y.toInt < m
  · rw [if_pos h1, bndX_l]
    have h5 := hD.1
    obtain ⟨i, hi, rfl⟩ := nI_ex h1.1
    obtain ⟨j, hj, rfl⟩ := nI_ex h1.2
    obtain ⟨z, e, hz⟩ := s_unitCost hD hi hj
    refine Or.inr ⟨h1, z, by rw [e, bnd_s], ?_⟩
    rw [ix_n (n := i) (by omega), ix_n (n := j) (by omega)]
    exact hz
  · rw [if_neg h1, bndX_r]
    exact Or.inl ⟨h1, rfl⟩
