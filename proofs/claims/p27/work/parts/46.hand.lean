/-! Sums; by hand. -/
theorem sum_loop {σ : Mem} {k : Nat} (hl : ln k ≤ 1000) : ∀ (d n fu : Nat), n + d = ln k → d < fu → fX2_sum_10 fu (oI (sm n (fun i => vI σ k i))) k (nI (ln k)) (nI n) σ = some (oI (sm (ln k) (fun i => vI σ k i)), σ) := by
  intro d
  induction d with
  | zero =>
    intro n fu h1 h2
    obtain ⟨fu, rfl⟩ : ∃ q, fu = q + 1 := ⟨fu - 1, by omega⟩
    have hn : n = ln k := by omega
    subst hn
    show fX2_sum_10b _ _ _ _ _ _ = _
    unfold fX2_sum_10b
    rw [if_pos (leI.mpr (Int.le_refl _))]
  | succ d ih =>
    intro n fu h1 h2
    obtain ⟨fu, rfl⟩ : ∃ q, fu = q + 1 := ⟨fu - 1, by omega⟩
    rw [← ih (n + 1) fu (by omega) (by omega)]
    show fX2_sum_10b _ _ _ _ _ _ = _
    unfold fX2_sum_10b ltI
    rw [if_neg (by rw [leI, nI_t (by omega), nI_t (by omega)]; omega), inb_n (show n < ln k by omega) (by omega), grd_t, ix_n (n := n) (by omega), oI_v]
    dsimp only
    rw [oI_add, nI_1]
    rfl
theorem s_sum {σ : Mem} {k : Nat} (hl : ln k ≤ 1000) : fX2_sum k σ = some (oI (sm (ln k) (fun i => vI σ k i)), σ) := by
  unfold fX2_sum fX2_sum_e ltI
  exact sum_loop hl (ln k) 0 FU (by omega) (by unfold FU; omega)
section HAND
variable {σ : Mem} {n m : Nat}
def hfr (σ : Mem) (m i : Nat) : Int := sm m (fun j => vI σ 9 (5 * i + j))
def hto (σ : Mem) (n j : Nat) : Int := sm n (fun i => vI σ 9 (5 * i + j))
theorem hf_loop (hD : DAT σ n m) {i : Nat} (hi : i < 5) : ∀ (d j fu : Nat), j + d = m → d < fu → fX2_handFrom_4 fu (nI i) (oI (sm j (fun j => vI σ 9 (5 * i + j)))) (nI j) σ = some (oI (hfr σ m i), σ) := by
  have h5 := hD.1
  intro d
  induction d with
  | zero =>
    intro j fu h1 h2
    obtain ⟨fu, rfl⟩ : ∃ q, fu = q + 1 := ⟨fu - 1, by omega⟩
    have hj : j = m := by omega
    subst hj
    show fX2_handFrom_4b _ _ _ _ _ = _
    unfold fX2_handFrom_4b
    rw [if_pos (le_nI h5.2.2.1 (by omega))]
    rfl
  | succ d ih =>
    intro j fu h1 h2
    obtain ⟨fu, rfl⟩ : ∃ q, fu = q + 1 := ⟨fu - 1, by omega⟩
    rw [← ih (j + 1) fu (by omega) (by omega)]
    have hj : j < m := by omega
    show fX2_handFrom_4b _ _ _ _ _ = _
    unfold fX2_handFrom_4b ltI
    rw [if_neg (not_le_nI h5.2.2.1 hj (by omega)), s_wayOf, bnd_s, inb_n (show 5 * i + j < 25 by omega) (by omega), grd_t, ix_n (n := 5 * i + j) (by omega), oI_v, oI_add, nI_1]
    rfl
theorem s_handFrom (hD : DAT σ n m) {i : Nat} (hi : i < 5) : fX2_handFrom (nI i) σ = some (oI (hfr σ m i), σ) := hf_loop hD hi m 0 FU (by omega) (by have := hD.1; unfold FU; omega)
theorem ht_loop (hD : DAT σ n m) {j : Nat} (hj : j < 5) : ∀ (d i fu : Nat), i + d = n → d < fu → fX2_handTo_4 fu (nI j) (oI (sm i (fun i => vI σ 9 (5 * i + j)))) (nI i) σ = some (oI (hto σ n j), σ) := by
  have h5 := hD.1
  intro d
  induction d with
  | zero =>
    intro i fu h1 h2
    obtain ⟨fu, rfl⟩ : ∃ q, fu = q + 1 := ⟨fu - 1, by omega⟩
    have hj : i = n := by omega
    subst hj
    show fX2_handTo_4b _ _ _ _ _ = _
    unfold fX2_handTo_4b
    rw [if_pos (le_nI h5.1 (by omega))]
    rfl
  | succ d ih =>
    intro i fu h1 h2
    obtain ⟨fu, rfl⟩ : ∃ q, fu = q + 1 := ⟨fu - 1, by omega⟩
    rw [← ih (i + 1) fu (by omega) (by omega)]
    have hi : i < n := by omega
    show fX2_handTo_4b _ _ _ _ _ = _
    unfold fX2_handTo_4b ltI
    rw [if_neg (not_le_nI h5.1 hi (by omega)), s_wayOf, bnd_s, inb_n (show 5 * i + j < 25 by omega) (by omega), grd_t, ix_n (n := 5 * i + j) (by omega), oI_v, oI_add, nI_1]
    rfl
theorem s_handTo (hD : DAT σ n m) {j : Nat} (hj : j < 5) : fX2_handTo (nI j) σ = some (oI (hto σ n j), σ) := ht_loop hD hj n 0 FU (by omega) (by have := hD.1; unfold FU; omega)
theorem hfr_bd (hD : DAT σ n m) {i : Nat} (hi : i < 5) : 0 ≤ hfr σ m i ∧ hfr σ m i ≤ 100 := by
  have h5 := hD.1
  have key : ∀ k, k ≤ 5 → 0 ≤ sm k (fun j => vI σ 9 (5 * i + j)) ∧ sm k (fun j => vI σ 9 (5 * i + j)) ≤ 20 * k := by
    intro k
    induction k with
    | zero => intro _; exact ⟨Int.le_refl _, Int.le_refl _⟩
    | succ k ih =>
      intro hk
      have h1 := ih (by omega)
      have h2 := hD.2.2.2.1 (5 * i + k) (by omega)
      simp only [sm]
      omega
  have := key m (by omega)
  unfold hfr
  omega
theorem hto_bd (hD : DAT σ n m) {j : Nat} (hj : j < 5) : 0 ≤ hto σ n j ∧ hto σ n j ≤ 100 := by
  have h5 := hD.1
  have key : ∀ k, k ≤ 5 → 0 ≤ sm k (fun i => vI σ 9 (5 * i + j)) ∧ sm k (fun i => vI σ 9 (5 * i + j)) ≤ 20 * k := by
    intro k
    induction k with
    | zero => intro _; exact ⟨Int.le_refl _, Int.le_refl _⟩
    | succ k ih =>
      intro hk
      have h1 := ih (by omega)
      have h2 := hD.2.2.2.1 (5 * k + j) (by omega)
      simp only [sm]
      omega
  have := key n (by omega)
  unfold hto
  omega
/-- the first fault of the plan by hand -/
def FBH (σ : Mem) (n m : Nat) (z : Int) : Prop :=
  (z = 1 ∧ ∃ i, i < n ∧ vI σ 3 i < hfr σ m i) ∨ ((∀ i, i < n → hfr σ m i ≤ vI σ 3 i) ∧ ((z = 2 ∧ ∃ j, j < m ∧ vI σ 6 j < hto σ n j) ∨ ((∀ j, j < m → hto σ n j ≤ vI σ 6 j) ∧
    ((z = 3 ∧ ∃ w, w < 25 ∧ vI σ 8 w ≠ -1 ∧ vI σ 8 w < vI σ 9 w) ∨ (z = 0 ∧ ∀ w, w < 25 → vI σ 8 w ≠ -1 → vI σ 9 w ≤ vI σ 8 w)))))
theorem fbh_uni {z z' : Int} (h : FBH σ n m z) (h' : FBH σ n m z') : z = z' := by
  rcases h with ⟨rfl, i, hi, h⟩ | ⟨h1, h⟩
  · rcases h' with ⟨rfl, -⟩ | ⟨h1', -⟩
    · rfl
    · have := h1' i hi; omega
  · rcases h' with ⟨rfl, i, hi, h'⟩ | ⟨h1', h'⟩
    · have := h1 i hi; omega
    · rcases h with ⟨rfl, i, hi, h⟩ | ⟨h2, h⟩
      · rcases h' with ⟨rfl, -⟩ | ⟨h2', -⟩
        · rfl
        · have := h2' i hi; omega
      · rcases h' with ⟨rfl, i, hi, h'⟩ | ⟨h2', h'⟩
        · have := h2 i hi; omega
        · rcases h with ⟨rfl, w, hw, h3, h4⟩ | ⟨rfl, h3⟩
          · rcases h' with ⟨rfl, -⟩ | ⟨rfl, h3'⟩
            · rfl
            · have := h3' w hw h3; omega
          · rcases h' with ⟨rfl, w, hw, h3', h4'⟩ | ⟨rfl, h3'⟩
            · have := h3 w hw h3'; omega
            · rfl
theorem fb_78 (hD : DAT σ n m) : ∀ (d w fu : Nat), w + d = 25 → d < fu → (∀ k, k < w → vI σ 8 k ≠ -1 → vI σ 9 k ≤ vI σ 8 k) → ∃ z : Int, fX2_faultByHand_78 fu (nI w) σ = some (oI z, σ) ∧ ((z = 3 ∧ ∃ w, w < 25 ∧ vI σ 8 w ≠ -1 ∧ vI σ 8 w < vI σ 9 w) ∨ (z = 0 ∧ ∀ w, w < 25 → vI σ 8 w ≠ -1 → vI σ 9 w ≤ vI σ 8 w)) := by
  intro d
  induction d with
  | zero =>
    intro w fu h1 h2 hI
    obtain ⟨fu, rfl⟩ : ∃ q, fu = q + 1 := ⟨fu - 1, by omega⟩
    have hw : w = 25 := by omega
    subst hw
    refine ⟨0, ?_, Or.inr ⟨rfl, hI⟩⟩
    show fX2_faultByHand_78b _ _ _ = _
    unfold fX2_faultByHand_78b
    rw [if_pos (by decide)]
    rfl
  | succ d ih =>
    intro w fu h1 h2 hI
    obtain ⟨fu, rfl⟩ : ∃ q, fu = q + 1 := ⟨fu - 1, by omega⟩
    have hs : fX2_faultByHand_78 (fu + 1) (nI w) σ = if rI σ 8 w = -1 then fX2_faultByHand_78 fu (nI (w + 1)) σ else if rI σ 9 w ≤ rI σ 8 w then fX2_faultByHand_78 fu (nI (w + 1)) σ else some (3, σ) := by
      show fX2_faultByHand_78b _ _ _ = _
      unfold fX2_faultByHand_78b fX2_faultByHand_111
      rw [if_neg (by rw [leI, nI_t (by omega), I_25]; omega), inb_n (show w < 25 by omega) (by omega), grd_t, grd_t, grd_t, ix_n (n := w) (by omega), nI_1]
    rw [hs]
    by_cases h8 : vI σ 8 w = -1
    · rw [if_pos ((vIe I_m1).mpr h8)]
      exact ih (w + 1) fu (by omega) (by omega) (fun k hk h => by
        by_cases e : k = w
        · subst e; exact absurd h8 h
        · exact hI k (by omega) h)
    · rw [if_neg (fun e => h8 ((vIe I_m1).mp e))]
      by_cases h9 : vI σ 9 w ≤ vI σ 8 w
      · rw [if_pos (by rw [leI]; exact h9)]
        exact ih (w + 1) fu (by omega) (by omega) (fun k hk h => by
          by_cases e : k = w
          · subst e; exact h9
          · exact hI k (by omega) h)
      · rw [if_neg (by rw [leI]; exact h9)]
        exact ⟨3, rfl, Or.inl ⟨rfl, w, by omega, h8, by omega⟩⟩
theorem fb_40 (hD : DAT σ n m) : ∀ (d j fu : Nat), j + d = m → d < fu → (∀ k, k < j → hto σ n k ≤ vI σ 6 k) → ∃ z : Int, fX2_faultByHand_40 fu (nI j) σ = some (oI z, σ) ∧ ((z = 2 ∧ ∃ j, j < m ∧ vI σ 6 j < hto σ n j) ∨ ((∀ j, j < m → hto σ n j ≤ vI σ 6 j) ∧
    ((z = 3 ∧ ∃ w, w < 25 ∧ vI σ 8 w ≠ -1 ∧ vI σ 8 w < vI σ 9 w) ∨ (z = 0 ∧ ∀ w, w < 25 → vI σ 8 w ≠ -1 → vI σ 9 w ≤ vI σ 8 w)))) := by
  have h5 := hD.1
  intro d
  induction d with
  | zero =>
    intro j fu h1 h2 hI
    obtain ⟨fu, rfl⟩ : ∃ q, fu = q + 1 := ⟨fu - 1, by omega⟩
    have hj : j = m := by omega
    subst hj
    obtain ⟨z, e, h⟩ := fb_78 hD 25 0 FU (by omega) (by unfold FU; omega) (fun k h => absurd h (by omega))
    refine ⟨z, ?_, Or.inr ⟨hI, h⟩⟩
    rw [← e]
    show fX2_faultByHand_40b _ _ _ = _
    unfold fX2_faultByHand_40b
    rw [if_pos (le_nI h5.2.2.1 (by omega))]
    rfl
  | succ d ih =>
    intro j fu h1 h2 hI
    obtain ⟨fu, rfl⟩ : ∃ q, fu = q + 1 := ⟨fu - 1, by omega⟩
    have hj : j < m := by omega
    have hb := hto_bd hD (show j < 5 by omega)
    have hs : fX2_faultByHand_40 (fu + 1) (nI j) σ = if oI (hto σ n j) ≤ rI σ 6 j then fX2_faultByHand_40 fu (nI (j + 1)) σ else some (2, σ) := by
      show fX2_faultByHand_40b _ _ _ = _
      unfold fX2_faultByHand_40b
      rw [if_neg (not_le_nI h5.2.2.1 hj (by omega)), s_handTo hD (by omega), bnd_s, inb_n (show j < 5 by omega) (by omega), grd_t, ix_n (n := j) (by omega), nI_1]
    rw [hs]
    have ele : oI (hto σ n j) ≤ rI σ 6 j ↔ hto σ n j ≤ vI σ 6 j := by rw [leI, oI_to (by unfold inR; omega)]; rfl
    by_cases h9 : hto σ n j ≤ vI σ 6 j
    · rw [if_pos (ele.mpr h9)]
      exact ih (j + 1) fu (by omega) (by omega) (fun k hk => by
        by_cases e : k = j
        · subst e; exact h9
        · exact hI k (by omega))
    · rw [if_neg (fun q => h9 (ele.mp q))]
      exact ⟨2, rfl, Or.inl ⟨rfl, j, hj, by omega⟩⟩
theorem fb_2 (hD : DAT σ n m) : ∀ (d j fu : Nat), j + d = n → d < fu → (∀ k, k < j → hfr σ m k ≤ vI σ 3 k) → ∃ z : Int, fX2_faultByHand_2 fu (nI j) σ = some (oI z, σ) ∧ FBH σ n m z := by
  have h5 := hD.1
  intro d
  induction d with
  | zero =>
    intro j fu h1 h2 hI
    obtain ⟨fu, rfl⟩ : ∃ q, fu = q + 1 := ⟨fu - 1, by omega⟩
    have hj : j = n := by omega
    subst hj
    obtain ⟨z, e, h⟩ := fb_40 hD m 0 FU (by omega) (by unfold FU; omega) (fun k h => absurd h (by omega))
    refine ⟨z, ?_, Or.inr ⟨hI, h⟩⟩
    rw [← e]
    show fX2_faultByHand_2b _ _ _ = _
    unfold fX2_faultByHand_2b
    rw [if_pos (le_nI h5.1 (by omega))]
    rfl
  | succ d ih =>
    intro j fu h1 h2 hI
    obtain ⟨fu, rfl⟩ : ∃ q, fu = q + 1 := ⟨fu - 1, by omega⟩
    have hj : j < n := by omega
    have hb := hfr_bd hD (show j < 5 by omega)
    have hs : fX2_faultByHand_2 (fu + 1) (nI j) σ = if oI (hfr σ m j) ≤ rI σ 3 j then fX2_faultByHand_2 fu (nI (j + 1)) σ else some (1, σ) := by
      show fX2_faultByHand_2b _ _ _ = _
      unfold fX2_faultByHand_2b
      rw [if_neg (not_le_nI h5.1 hj (by omega)), s_handFrom hD (by omega), bnd_s, inb_n (show j < 5 by omega) (by omega), grd_t, ix_n (n := j) (by omega), nI_1]
    rw [hs]
    have ele : oI (hfr σ m j) ≤ rI σ 3 j ↔ hfr σ m j ≤ vI σ 3 j := by rw [leI, oI_to (by unfold inR; omega)]; rfl
    by_cases h9 : hfr σ m j ≤ vI σ 3 j
    · rw [if_pos (ele.mpr h9)]
      exact ih (j + 1) fu (by omega) (by omega) (fun k hk => by
        by_cases e : k = j
        · subst e; exact h9
        · exact hI k (by omega))
    · rw [if_neg (fun q => h9 (ele.mp q))]
      exact ⟨1, rfl, Or.inl ⟨rfl, j, hj, by omega⟩⟩
theorem s_faultByHand (hD : DAT σ n m) : ∃ z : Int, fX2_faultByHand σ = some (oI z, σ) ∧ FBH σ n m z := fb_2 hD n 0 FU (by omega) (by have := hD.1; unfold FU; omega) (fun k h => absurd h (by omega))
def hcs (σ : Mem) (n m : Nat) : Int := sm n (fun i => vI σ 0 12 * (vI σ 3 i - hfr σ m i)) + sm m (fun j => vI σ 0 13 * (vI σ 6 j - hto σ n j)) + sm n (fun i => sm m (fun j => vI σ 9 (5 * i + j) * unD σ i j))
theorem cb_101 (hD : DAT σ n m) {i : Nat} (hi : i < n) (r88 : Int32 → Int32 → Mem → Option (Int32 × Mem)) : ∀ (d j fu : Nat) (A : Int), j + d = m → d < fu → fX2_costByHand_101 r88 fu (oI (A + sm j (fun j => vI σ 9 (5 * i + j) * unD σ i j))) (nI i) (nI j) σ = r88 (oI (A + sm m (fun j => vI σ 9 (5 * i + j) * unD σ i j))) (nI (i + 1)) σ := by
  have h5 := hD.1
  intro d
  induction d with
  | zero =>
    intro j fu A h1 h2
    obtain ⟨fu, rfl⟩ : ∃ q, fu = q + 1 := ⟨fu - 1, by omega⟩
    have hj : j = m := by omega
    subst hj
    show fX2_costByHand_101b _ _ _ _ _ _ = _
    unfold fX2_costByHand_101b
    rw [if_pos (le_nI h5.2.2.1 (by omega)), nI_1]
  | succ d ih =>
    intro j fu A h1 h2
    obtain ⟨fu, rfl⟩ : ∃ q, fu = q + 1 := ⟨fu - 1, by omega⟩
    have hj : j < m := by omega
    obtain ⟨z, e, hz⟩ := s_unitCost hD hi hj
    rw [← ih (j + 1) fu A (by omega) (by omega)]
    show fX2_costByHand_101b _ _ _ _ _ _ = _
    unfold fX2_costByHand_101b ltI
    rw [if_neg (not_le_nI h5.2.2.1 hj (by omega)), s_wayOf, bnd_s, inb_n (show 5 * i + j < 25 by omega) (by omega), grd_t, e, bnd_s, ix_n (n := 5 * i + j) (by omega), oI_v, oI_e hz, oI_mul, oI_add, nI_1]
    congr 2
    show _ = A + (sm j (fun j => vI σ 9 (5 * i + j) * unD σ i j) + vI σ 9 (5 * i + j) * unD σ i j)
    omega
theorem cb_88 (hD : DAT σ n m) : ∀ (d i fu : Nat) (A : Int), i + d = n → d < fu → fX2_costByHand_88 fu (oI (A + sm i (fun i => sm m (fun j => vI σ 9 (5 * i + j) * unD σ i j)))) (nI i) σ = some (oI (A + sm n (fun i => sm m (fun j => vI σ 9 (5 * i + j) * unD σ i j))), σ) := by
  have h5 := hD.1
  intro d
  induction d with
  | zero =>
    intro i fu A h1 h2
    obtain ⟨fu, rfl⟩ : ∃ q, fu = q + 1 := ⟨fu - 1, by omega⟩
    have hj : i = n := by omega
    subst hj
    show fX2_costByHand_88b _ _ _ _ = _
    unfold fX2_costByHand_88b
    rw [if_pos (le_nI h5.1 (by omega))]
  | succ d ih =>
    intro i fu A h1 h2
    obtain ⟨fu, rfl⟩ : ∃ q, fu = q + 1 := ⟨fu - 1, by omega⟩
    rw [← ih (i + 1) fu A (by omega) (by omega)]
    show fX2_costByHand_88b _ _ _ _ = _
    unfold fX2_costByHand_88b
    have hi : i < n := by omega
    have key := cb_101 hD hi (fX2_costByHand_88 fu) m 0 FU (A + sm i (fun i => sm m (fun j => vI σ 9 (5 * i + j) * unD σ i j))) (by omega) (by unfold FU; omega)
    rw [if_neg (not_le_nI h5.1 hi (by omega))]
    have e0 : A + sm i (fun i => sm m (fun j => vI σ 9 (5 * i + j) * unD σ i j)) + sm 0 (fun j => vI σ 9 (5 * i + j) * unD σ i j) = A + sm i (fun i => sm m (fun j => vI σ 9 (5 * i + j) * unD σ i j)) := Int.add_zero _
    rw [e0, Int.add_assoc] at key
    exact key
theorem cb_46 (hD : DAT σ n m) : ∀ (d j fu : Nat) (A : Int), j + d = m → d < fu → fX2_costByHand_46 fu (oI (A + sm j (fun j => vI σ 0 13 * (vI σ 6 j - hto σ n j)))) (nI j) σ = some (oI (A + sm m (fun j => vI σ 0 13 * (vI σ 6 j - hto σ n j)) + sm n (fun i => sm m (fun j => vI σ 9 (5 * i + j) * unD σ i j))), σ) := by
  have h5 := hD.1
  intro d
  induction d with
  | zero =>
    intro j fu A h1 h2
    obtain ⟨fu, rfl⟩ : ∃ q, fu = q + 1 := ⟨fu - 1, by omega⟩
    have hj : j = m := by omega
    subst hj
    show fX2_costByHand_46b _ _ _ _ = _
    unfold fX2_costByHand_46b
    rw [if_pos (le_nI h5.2.2.1 (by omega))]
    have key := cb_88 hD n 0 FU (A + sm j (fun j => vI σ 0 13 * (vI σ 6 j - hto σ n j))) (by omega) (by unfold FU; omega)
    have e0 : A + sm j (fun j => vI σ 0 13 * (vI σ 6 j - hto σ n j)) + sm 0 (fun i => sm j (fun j => vI σ 9 (5 * i + j) * unD σ i j)) = A + sm j (fun j => vI σ 0 13 * (vI σ 6 j - hto σ n j)) := Int.add_zero _
    rw [e0] at key
    exact key
  | succ d ih =>
    intro j fu A h1 h2
    obtain ⟨fu, rfl⟩ : ∃ q, fu = q + 1 := ⟨fu - 1, by omega⟩
    have hj : j < m := by omega
    rw [← ih (j + 1) fu A (by omega) (by omega)]
    show fX2_costByHand_46b _ _ _ _ = _
    unfold fX2_costByHand_46b ltI
    rw [if_neg (not_le_nI h5.2.2.1 hj (by omega)), inb_n (show j < 5 by omega) (by omega), grd_t, s_handTo hD (by omega), bnd_s, ix_n (n := j) (by omega), oI_v, oI_v, oI_sub, oI_mul, oI_add, nI_1]
    congr 2
    show _ = A + (sm j (fun j => vI σ 0 13 * (vI σ 6 j - hto σ n j)) + vI σ 0 13 * (vI σ 6 j - hto σ n j))
    omega
theorem cb_4 (hD : DAT σ n m) : ∀ (d j fu : Nat), j + d = n → d < fu → fX2_costByHand_4 fu (oI (sm j (fun i => vI σ 0 12 * (vI σ 3 i - hfr σ m i)))) (nI j) σ = some (oI (hcs σ n m), σ) := by
  have h5 := hD.1
  intro d
  induction d with
  | zero =>
    intro j fu h1 h2
    obtain ⟨fu, rfl⟩ : ∃ q, fu = q + 1 := ⟨fu - 1, by omega⟩
    have hj : j = n := by omega
    subst hj
    show fX2_costByHand_4b _ _ _ _ = _
    unfold fX2_costByHand_4b
    rw [if_pos (le_nI h5.1 (by omega))]
    have key := cb_46 hD m 0 FU (sm j (fun i => vI σ 0 12 * (vI σ 3 i - hfr σ m i))) (by omega) (by unfold FU; omega)
    have e0 : sm j (fun i => vI σ 0 12 * (vI σ 3 i - hfr σ m i)) + sm 0 (fun k => vI σ 0 13 * (vI σ 6 k - hto σ j k)) = sm j (fun i => vI σ 0 12 * (vI σ 3 i - hfr σ m i)) := Int.add_zero _
    rw [e0] at key
    exact key
  | succ d ih =>
    intro j fu h1 h2
    obtain ⟨fu, rfl⟩ : ∃ q, fu = q + 1 := ⟨fu - 1, by omega⟩
    have hj : j < n := by omega
    rw [← ih (j + 1) fu (by omega) (by omega)]
    show fX2_costByHand_4b _ _ _ _ = _
    unfold fX2_costByHand_4b ltI
    rw [if_neg (not_le_nI h5.1 hj (by omega)), inb_n (show j < 5 by omega) (by omega), grd_t, s_handFrom hD (by omega), bnd_s, ix_n (n := j) (by omega), oI_v, oI_v, oI_sub, oI_mul, oI_add, nI_1]
    rfl
theorem s_costByHand (hD : DAT σ n m) : fX2_costByHand σ = some (oI (hcs σ n m), σ) := cb_4 hD n 0 FU (by omega) (by have := hD.1; unfold FU; omega)
theorem v_handCost (hD : DAT σ n m) : ∃ z : Int, FBH σ n m z ∧ fX2_handCost σ = some (if z = 0 then Sum.inl (oI (hcs σ n m)) else Sum.inr 2, σ) := by
  obtain ⟨z, e, h⟩ := s_faultByHand hD
  refine ⟨z, h, ?_⟩
  unfold fX2_handCost fX2_handCost_e
  rw [e, bnd_s]
  have hz : z = 0 ∨ z = 1 ∨ z = 2 ∨ z = 3 := by
    rcases h with ⟨h, -⟩ | ⟨-, ⟨h, -⟩ | ⟨-, ⟨h, -⟩ | ⟨h, -⟩⟩⟩ <;> omega
  rcases hz with rfl | rfl | rfl | rfl
  · rw [if_pos (by decide), s_costByHand hD, bnd_s, if_pos rfl]
  · rw [if_neg (by decide), if_neg (by decide)]
  · rw [if_neg (by decide), if_neg (by decide)]
  · rw [if_neg (by decide), if_neg (by decide)]
theorem hcs_bd (hD : DAT σ n m) (h : FBH σ n m 0) : -100000000 ≤ hcs σ n m ∧ hcs σ n m ≤ 100000000 := by
  have h5 := hD.1
  have hl := hD.2.2.2.2.2.2.2.2
  rcases h with ⟨h, -⟩ | ⟨h1, ⟨h, -⟩ | ⟨h2, -⟩⟩
  · omega
  · omega
  have b1 : ∀ k, k ≤ n → 0 ≤ sm k (fun i => vI σ 0 12 * (vI σ 3 i - hfr σ m i)) ∧ sm k (fun i => vI σ 0 12 * (vI σ 3 i - hfr σ m i)) ≤ 200000 * k := by
    intro k
    induction k with
    | zero => intro _; exact ⟨Int.le_refl _, Int.le_refl _⟩
    | succ k ih =>
      intro hk
      have q1 := ih (by omega)
      have q2 := mul_bd (x := vI σ 0 12) (y := vI σ 3 k - hfr σ m k) (X := 10000) (Y := 20) (by omega) (by have := h1 k (by omega); have := hD.2.1 k (by omega); have := hfr_bd hD (show k < 5 by omega); omega)
      simp only [sm]
      omega
  have b2 : ∀ k, k ≤ m → 0 ≤ sm k (fun j => vI σ 0 13 * (vI σ 6 j - hto σ n j)) ∧ sm k (fun j => vI σ 0 13 * (vI σ 6 j - hto σ n j)) ≤ 200000 * k := by
    intro k
    induction k with
    | zero => intro _; exact ⟨Int.le_refl _, Int.le_refl _⟩
    | succ k ih =>
      intro hk
      have q1 := ih (by omega)
      have q2 := mul_bd (x := vI σ 0 13) (y := vI σ 6 k - hto σ n k) (X := 10000) (Y := 20) (by omega) (by have := h2 k (by omega); have := hD.2.2.1 k (by omega); have := hto_bd hD (show k < 5 by omega); omega)
      simp only [sm]
      omega
  have b3 : ∀ i, i < n → ∀ k, k ≤ m → 0 ≤ sm k (fun j => vI σ 9 (5 * i + j) * unD σ i j) ∧ sm k (fun j => vI σ 9 (5 * i + j) * unD σ i j) ≤ 200000 * k := by
    intro i hi k
    induction k with
    | zero => intro _; exact ⟨Int.le_refl _, Int.le_refl _⟩
    | succ k ih =>
      intro hk
      have q1 := ih (by omega)
      have q2 := mul_bd (x := vI σ 9 (5 * i + k)) (y := unD σ i k) (X := 20) (Y := 10000) (by have := hD.2.2.2.1 (5 * i + k) (by omega); omega) (unD_bd hD hi (by omega))
      simp only [sm]
      omega
  have b4 : ∀ k, k ≤ n → 0 ≤ sm k (fun i => sm m (fun j => vI σ 9 (5 * i + j) * unD σ i j)) ∧ sm k (fun i => sm m (fun j => vI σ 9 (5 * i + j) * unD σ i j)) ≤ 1000000 * k := by
    intro k
    induction k with
    | zero => intro _; exact ⟨Int.le_refl _, Int.le_refl _⟩
    | succ k ih =>
      intro hk
      have q1 := ih (by omega)
      have q2 := b3 k (by omega) m (by omega)
      simp only [sm]
      omega
  have q1 := b1 n (by omega)
  have q2 := b2 m (by omega)
  have q3 := b4 n (by omega)
  unfold hcs
  omega
theorem v_whyNot (hI : INV σ n m) : ∃ (z : Int) (σ' : Mem), FBH σ n m z ∧ fX2_whyNot σ = some (oI (if z = 0 then (if hcs σ n m ≤ lv σ n m then 0 else 4) else z), σ') ∧ SQ σ σ' ∧ INV σ' n m := by
  have hD := hI.1
  obtain ⟨z, e, h⟩ := s_faultByHand hD
  unfold fX2_whyNot fX2_whyNot_e fX2_whyNot_30
  rw [e, bnd_s]
  have hz : z = 0 ∨ z = 1 ∨ z = 2 ∨ z = 3 := by
    rcases h with ⟨h, -⟩ | ⟨-, ⟨h, -⟩ | ⟨-, ⟨h, -⟩ | ⟨h, -⟩⟩⟩ <;> omega
  by_cases h0 : z = 0
  · subst h0
    obtain ⟨σ', e1, s1, I1, P1, p, q, C1⟩ := s_planned hI
    rw [if_pos (by decide), s_costByHand hD, bnd_s, e1, bnd_s, show decide (13 = 13) = true by decide, grd_t]
    have e2 : vI σ' 13 4 = lv σ n m := lv_of (best_of P1 C1).1
    have ele : oI (hcs σ n m) ≤ rI σ' 13 4 ↔ hcs σ n m ≤ lv σ n m := by
      rw [leI, oI_to (by have := hcs_bd hD h; unfold inR; omega), ← e2]
      rfl
    refine ⟨0, σ', h, ?_, s1, I1⟩
    rw [if_pos rfl]
    by_cases hle : hcs σ n m ≤ lv σ n m
    · rw [if_pos (ele.mpr hle), if_pos hle]; rfl
    · rw [if_neg (fun q => hle (ele.mp q)), if_neg hle]; rfl
  · refine ⟨z, σ, h, ?_, SQ.rf, hI⟩
    rw [if_neg h0, if_neg]
    rcases hz with rfl | rfl | rfl | rfl
    · exact absurd rfl h0
    · decide
    · decide
    · decide
end HAND
