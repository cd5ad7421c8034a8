/-! The Model: what a row of numbers costs, all of it. -/
section MCOST2
variable {σ : Mem} {n m : Nat} {R : Nat → Int}
def okR (σ : Mem) (R : Nat → Int) (n m : Nat) : Prop := (∀ i, i < n → rfr R m i ≤ vI σ 3 i) ∧ ∀ j, j < m → rto R n j ≤ vI σ 6 j
theorem mco_114 {v : Nat} (hl : ln v = 25) (hv : ∀ w, w < 25 → vI σ v w = R w ∧ 0 ≤ R w ∧ R w ≤ 20) (hR : REL σ n m) {j : Nat} (hj : j < m) (A : Int) (r95 : Nat → Int32 → Int32 → Mem → Option (Int32 × Mem)) : ∀ (d i fu : Nat), i + d = n → d < fu →
    fX3_costOf_114 r95 fu v (oI A) (nI j) (oI (vI σ 6 j - rto R i j)) (nI i) σ = if rto R n j ≤ vI σ 6 j then r95 v (oI (A + vI σ 0 13 * (vI σ 6 j - rto R n j))) (nI (j + 1)) σ else some (-1, σ) := by
  have h5 := hR.1.1
  have h3 := hR.1.2.2.1 j hj
  obtain ⟨-, -, e12, e13⟩ := hR.2.2.1
  intro d
  induction d with
  | zero =>
    intro i fu h1 h2
    obtain ⟨fu, rfl⟩ : ∃ q, fu = q + 1 := ⟨fu - 1, by omega⟩
    have hi : i = n := by omega
    subst hi
    have hb := rsum_bd (fun w hw => (hv w hw).2) (show j < 5 by omega) i (by omega)
    show fX3_costOf_114b _ _ _ _ _ _ _ _ = _
    unfold fX3_costOf_114b ltI
    rw [if_pos (le_nI hR.2.1.1 (by omega))]
    have ele : (0 : Int32) ≤ oI (vI σ 6 j - rto R i j) ↔ rto R i j ≤ vI σ 6 j := by
      rw [leI, I_0, oI_to (by unfold inR; omega)]
      omega
    by_cases h : rto R i j ≤ vI σ 6 j
    · rw [if_pos (ele.mpr h), if_pos h, oI_v, e13, oI_mul, oI_add, nI_1]
    · rw [if_neg (fun q => h (ele.mp q)), if_neg h]
  | succ d ih =>
    intro i fu h1 h2
    obtain ⟨fu, rfl⟩ : ∃ q, fu = q + 1 := ⟨fu - 1, by omega⟩
    have hi : i < n := by omega
    have hw : 5 * i + j < 25 := by omega
    rw [← ih (i + 1) fu (by omega) (by omega)]
    show fX3_costOf_114b _ _ _ _ _ _ _ _ = _
    unfold fX3_costOf_114b ltI
    rw [if_neg (not_le_nI hR.2.1.1 hi (by omega)), nI_way5, hl]
    simp only [inb_n hw (show 25 < 2147483648 by omega), grd_t, ix_n (show 5 * i + j < 2147483648 by omega)]
    have hB : vI σ 6 j - rto R (i + 1) j = vI σ 6 j - rto R i j - R (5 * i + j) := by
      show vI σ 6 j - (rto R i j + R (5 * i + j)) = _
      omega
    rw [oI_v, (hv _ hw).1, oI_sub, nI_1, hB]
theorem mco_95 {v : Nat} (hl : ln v = 25) (hv : ∀ w, w < 25 → vI σ v w = R w ∧ 0 ≤ R w ∧ R w ≤ 20) (hR : REL σ n m) : ∀ (d j fu : Nat) (A : Int), j + d = m → d < fu → (∀ k, k < j → rto R n k ≤ vI σ 6 k) →
    ((∀ k, k < m → rto R n k ≤ vI σ 6 k) ∧ fX3_costOf_95 fu v (oI (A + c2F σ R n j)) (nI j) σ = some (oI (A + c2F σ R n m), σ)) ∨ (¬ (∀ k, k < m → rto R n k ≤ vI σ 6 k) ∧ fX3_costOf_95 fu v (oI (A + c2F σ R n j)) (nI j) σ = some (-1, σ)) := by
  have h5 := hR.1.1
  intro d
  induction d with
  | zero =>
    intro j fu A h1 h2 hI
    obtain ⟨fu, rfl⟩ : ∃ q, fu = q + 1 := ⟨fu - 1, by omega⟩
    have hj : j = m := by omega
    subst hj
    refine Or.inl ⟨hI, ?_⟩
    show fX3_costOf_95b _ _ _ _ _ = _
    unfold fX3_costOf_95b
    rw [if_pos (le_nI hR.2.1.2 (by omega))]
  | succ d ih =>
    intro j fu A h1 h2 hI
    obtain ⟨fu, rfl⟩ : ∃ q, fu = q + 1 := ⟨fu - 1, by omega⟩
    have hj : j < m := by omega
    have key := mco_114 hl hv hR hj (A + c2F σ R n j) (fX3_costOf_95 fu) n 0 FU (by omega) (by unfold FU; omega)
    have e39 : rI σ 39 j = oI (vI σ 6 j - rto R 0 j) := by
      have : vI σ 6 j - rto R 0 j = vI σ 6 j := Int.sub_zero _
      rw [this, oI_v, (hR.2.2.2.2.1 j hj).2]
    have hdef : fX3_costOf_95 (fu + 1) v (oI (A + c2F σ R n j)) (nI j) σ = if rto R n j ≤ vI σ 6 j then fX3_costOf_95 fu v (oI (A + c2F σ R n j + vI σ 0 13 * (vI σ 6 j - rto R n j))) (nI (j + 1)) σ else some (-1, σ) := by
      rw [← key, ← e39]
      show fX3_costOf_95b _ _ _ _ _ = _
      unfold fX3_costOf_95b ltI
      rw [if_neg (not_le_nI hR.2.1.2 hj (by omega)), inb_n (show j < 5 by omega) (by omega), grd_t, ix_n (n := j) (by omega)]
      rfl
    rw [hdef]
    by_cases h : rto R n j ≤ vI σ 6 j
    · rw [if_pos h]
      have hA : A + c2F σ R n j + vI σ 0 13 * (vI σ 6 j - rto R n j) = A + c2F σ R n (j + 1) := by
        show _ = A + (c2F σ R n j + vI σ 0 13 * (vI σ 6 j - rto R n j))
        omega
      rw [hA]
      exact ih (j + 1) fu A (by omega) (by omega) (fun k hk => by
        by_cases e : k = j
        · subst e; exact h
        · exact hI k (by omega))
    · rw [if_neg h]
      exact Or.inr ⟨fun q => h (q j hj), rfl⟩
theorem mco_4 {v : Nat} (hl : ln v = 25) (hv : ∀ w, w < 25 → vI σ v w = R w ∧ 0 ≤ R w ∧ R w ≤ 20) (hR : REL σ n m) : ∀ (d i fu : Nat), i + d = n → d < fu → (∀ k, k < i → rfr R m k ≤ vI σ 3 k) →
    (okR σ R n m ∧ fX3_costOf_4 fu v (oI (c1F σ R n m i)) (nI i) σ = some (oI (c1F σ R n m n + c2F σ R n m), σ)) ∨ (¬ okR σ R n m ∧ fX3_costOf_4 fu v (oI (c1F σ R n m i)) (nI i) σ = some (-1, σ)) := by
  have h5 := hR.1.1
  intro d
  induction d with
  | zero =>
    intro i fu h1 h2 hI
    obtain ⟨fu, rfl⟩ : ∃ q, fu = q + 1 := ⟨fu - 1, by omega⟩
    have hi : i = n := by omega
    subst hi
    have hdef : fX3_costOf_4 (fu + 1) v (oI (c1F σ R i m i)) (nI i) σ = fX3_costOf_95 FU v (oI (c1F σ R i m i + c2F σ R i 0)) (nI 0) σ := by
      have e0 : c1F σ R i m i + c2F σ R i 0 = c1F σ R i m i := Int.add_zero _
      rw [e0]
      show fX3_costOf_4b _ _ _ _ _ = _
      unfold fX3_costOf_4b
      rw [if_pos (le_nI hR.2.1.1 (by omega))]
      rfl
    rw [hdef]
    rcases mco_95 hl hv hR m 0 FU (c1F σ R i m i) (by omega) (by unfold FU; omega) (fun k h => absurd h (by omega)) with ⟨g1, g2⟩ | ⟨g1, g2⟩
    · exact Or.inl ⟨⟨hI, g1⟩, g2⟩
    · exact Or.inr ⟨fun q => g1 q.2, g2⟩
  | succ d ih =>
    intro i fu h1 h2 hI
    obtain ⟨fu, rfl⟩ : ∃ q, fu = q + 1 := ⟨fu - 1, by omega⟩
    have hi : i < n := by omega
    have key := mco_23 hl hv hR hi (fX3_costOf_4 fu) m 0 FU (c1F σ R n m i) (by omega) (by unfold FU; omega)
    have e37 : rI σ 37 i = oI (vI σ 3 i - rfr R 0 i) := by
      have : vI σ 3 i - rfr R 0 i = vI σ 3 i := Int.sub_zero _
      rw [this, oI_v, (hR.2.2.2.1 i hi).2]
    have e0 : c1F σ R n m i + sm 0 (fun j => R (5 * i + j) * unD σ i j) = c1F σ R n m i := Int.add_zero _
    rw [e0, ← e37] at key
    have hdef : fX3_costOf_4 (fu + 1) v (oI (c1F σ R n m i)) (nI i) σ = if rfr R m i ≤ vI σ 3 i then fX3_costOf_4 fu v (oI (c1F σ R n m (i + 1))) (nI (i + 1)) σ else some (-1, σ) := by
      rw [show c1F σ R n m (i + 1) = c1F σ R n m i + (sm m (fun j => R (5 * i + j) * unD σ i j) + vI σ 0 12 * (vI σ 3 i - rfr R m i)) from rfl, ← key]
      show fX3_costOf_4b _ _ _ _ _ = _
      unfold fX3_costOf_4b ltI
      rw [if_neg (not_le_nI hR.2.1.1 hi (by omega)), inb_n (show i < 5 by omega) (by omega), grd_t, ix_n (n := i) (by omega)]
      rfl
    rw [hdef]
    by_cases h : rfr R m i ≤ vI σ 3 i
    · rw [if_pos h]
      exact ih (i + 1) fu (by omega) (by omega) (fun k hk => by
        by_cases e : k = i
        · subst e; exact h
        · exact hI k (by omega))
    · rw [if_neg h]
      exact Or.inr ⟨fun q => h (q.1 i hi), rfl⟩
theorem m_costOf {v : Nat} (hl : ln v = 25) (hv : ∀ w, w < 25 → vI σ v w = R w ∧ 0 ≤ R w ∧ R w ≤ 20) (hR : REL σ n m) : (okR σ R n m ∧ fX3_costOf v σ = some (oI (c1F σ R n m n + c2F σ R n m), σ)) ∨ (¬ okR σ R n m ∧ fX3_costOf v σ = some (-1, σ)) :=
  mco_4 hl hv hR n 0 FU (by omega) (by have := hR.1.1; unfold FU; omega) (fun k h => absurd h (by omega))
end MCOST2
