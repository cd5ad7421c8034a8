/-! The Model: what a row of numbers costs. -/
section MCOST
variable {σ : Mem} {n m : Nat} {R : Nat → Int}
def rfr (R : Nat → Int) (m i : Nat) : Int := sm m (fun j => R (5 * i + j))
def rto (R : Nat → Int) (n j : Nat) : Int := sm n (fun i => R (5 * i + j))
def c1F (σ : Mem) (R : Nat → Int) (n m k : Nat) : Int := sm k (fun i => sm m (fun j => R (5 * i + j) * unD σ i j) + vI σ 0 12 * (vI σ 3 i - rfr R m i))
def c2F (σ : Mem) (R : Nat → Int) (n k : Nat) : Int := sm k (fun j => vI σ 0 13 * (vI σ 6 j - rto R n j))
theorem rsum_bd (hR : ∀ w, w < 25 → 0 ≤ R w ∧ R w ≤ 20) {i : Nat} (hi : i < 5) : ∀ k, k ≤ 5 → 0 ≤ rfr R k i ∧ rfr R k i ≤ 20 * k ∧ 0 ≤ rto R k i ∧ rto R k i ≤ 20 * k := by
  intro k
  induction k with
  | zero => intro _; exact ⟨Int.le_refl _, Int.le_refl _, Int.le_refl _, Int.le_refl _⟩
  | succ k ih =>
    intro hk
    have h1 := ih (by omega)
    have h2 := hR (5 * i + k) (by omega)
    have h3 := hR (5 * k + i) (by omega)
    unfold rfr rto at h1 ⊢
    simp only [sm]
    omega
theorem mco_23 {v : Nat} (hl : ln v = 25) (hv : ∀ w, w < 25 → vI σ v w = R w ∧ 0 ≤ R w ∧ R w ≤ 20) (hR : REL σ n m) {i : Nat} (hi : i < n) (r4 : Nat → Int32 → Int32 → Mem → Option (Int32 × Mem)) : ∀ (d j fu : Nat) (A : Int), j + d = m → d < fu →
    fX3_costOf_23 r4 fu v (oI (A + sm j (fun j => R (5 * i + j) * unD σ i j))) (nI i) (oI (vI σ 3 i - rfr R j i)) (nI j) σ = if rfr R m i ≤ vI σ 3 i then r4 v (oI (A + (sm m (fun j => R (5 * i + j) * unD σ i j) + vI σ 0 12 * (vI σ 3 i - rfr R m i)))) (nI (i + 1)) σ else some (-1, σ) := by
  have h5 := hR.1.1
  have h3 := hR.1.2.1 i hi
  obtain ⟨-, -, e12, e13⟩ := hR.2.2.1
  intro d
  induction d with
  | zero =>
    intro j fu A h1 h2
    obtain ⟨fu, rfl⟩ : ∃ q, fu = q + 1 := ⟨fu - 1, by omega⟩
    have hj : j = m := by omega
    subst hj
    have hb := rsum_bd (fun w hw => (hv w hw).2) (show i < 5 by omega) j (by omega)
    show fX3_costOf_23b _ _ _ _ _ _ _ _ = _
    unfold fX3_costOf_23b ltI
    rw [if_pos (le_nI hR.2.1.2 (by omega))]
    have ele : (0 : Int32) ≤ oI (vI σ 3 i - rfr R j i) ↔ rfr R j i ≤ vI σ 3 i := by
      rw [leI, I_0, oI_to (by unfold inR; omega)]
      omega
    by_cases h : rfr R j i ≤ vI σ 3 i
    · rw [if_pos (ele.mpr h), if_pos h, oI_v, e12, oI_mul, oI_add, nI_1, Int.add_assoc]
    · rw [if_neg (fun q => h (ele.mp q)), if_neg h]
  | succ d ih =>
    intro j fu A h1 h2
    obtain ⟨fu, rfl⟩ : ∃ q, fu = q + 1 := ⟨fu - 1, by omega⟩
    have hj : j < m := by omega
    have hw : 5 * i + j < 25 := by omega
    rw [← ih (j + 1) fu A (by omega) (by omega)]
    show fX3_costOf_23b _ _ _ _ _ _ _ _ = _
    unfold fX3_costOf_23b ltI
    rw [if_neg (not_le_nI hR.2.1.2 hj (by omega)), nI_way5, hl]
    simp only [inb_n hw (show 25 < 2147483648 by omega), grd_t, ix_n (show 5 * i + j < 2147483648 by omega)]
    rw [m_unitOf hR hi hj, bnd_s, oI_v, (hv _ hw).1, oI_sub, oI_mul, oI_add, nI_1]
    have hA : A + sm (j + 1) (fun j => R (5 * i + j) * unD σ i j) = A + sm j (fun j => R (5 * i + j) * unD σ i j) + R (5 * i + j) * unD σ i j := by
      show A + (sm j (fun j => R (5 * i + j) * unD σ i j) + R (5 * i + j) * unD σ i j) = _
      omega
    have hB : vI σ 3 i - rfr R (j + 1) i = vI σ 3 i - rfr R j i - R (5 * i + j) := by
      show vI σ 3 i - (rfr R j i + R (5 * i + j)) = _
      omega
    rw [hA, hB]
end MCOST
