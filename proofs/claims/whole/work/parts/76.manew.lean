/-! The Model: the least cost by trying all plans. -/
theorem sm_cut {n : Nat} {g : Nat → Int} (hn : n ≤ 5) (h : ∀ i, n ≤ i → i < 5 → g i = 0) : sm 5 g = sm n g := by
  have h0 := h 0
  have h1 := h 1
  have h2 := h 2
  have h3 := h 3
  have h4 := h 4
  have hm : n = 0 ∨ n = 1 ∨ n = 2 ∨ n = 3 ∨ n = 4 ∨ n = 5 := by omega
  rcases hm with rfl | rfl | rfl | rfl | rfl | rfl <;> simp only [sm] <;> omega
theorem px_head {B : Nat → Int} : ∀ k, PXB B (k + 1) = (B 0 + 1) * PXB (fun w => B (w + 1)) k
  | 0 => by
    show 1 * (B 0 + 1) = (B 0 + 1) * 1
    omega
  | k + 1 => by
    show PXB B (k + 1) * (B (k + 1) + 1) = (B 0 + 1) * (PXB (fun w => B (w + 1)) k * (B (k + 1) + 1))
    rw [px_head k, Int.mul_assoc]
theorem px_congr {B C : Nat → Int} : ∀ k, (∀ w, w < k → B w = C w) → PXB B k = PXB C k
  | 0, _ => rfl
  | k + 1, h => by
    simp only [PXB]
    rw [px_congr k (fun w hw => h w (by omega)), h k (by omega)]
theorem px_rev {B : Nat → Int} : ∀ k, PXB (fun w => B (k - 1 - w)) k = PXB B k
  | 0 => rfl
  | k + 1 => by
    rw [px_head, px_congr (C := fun w => B (k - 1 - w)) k (fun w hw => by
      congr 1
      omega), px_rev k]
    show (B (k + 1 - 1 - 0) + 1) * PXB B k = PXB B k * (B k + 1)
    rw [Int.mul_comm]
    rfl
theorem vx_next {B f f' g : Nat → Int} {q : Nat} (hq : q < 25) (hf : ∀ w, w < 25 → 0 ≤ f w ∧ f w ≤ B w) (hf' : ∀ w, w < 25 → 0 ≤ f' w ∧ f' w ≤ B w) (hg : ∀ w, w < 25 → 0 ≤ g w ∧ g w ≤ B w)
    (h1 : ∀ k, k < q → f' k = f k) (h2 : f' q = f q + 1) (h3 : ∀ k, q < k → k < 25 → f' k = 0) (h4 : ∀ k, q < k → k < 25 → f k = B k) (hlt : VX B f 25 < VX B g 25) : (∀ k, k < 25 → g k = f' k) ∨ VX B f' 25 < VX B g 25 := by
  rcases first_diff (f := f) (g := g) 25 with h5 | ⟨w1, h5, h6, h7⟩
  · rw [vx_congr 25 h5] at hlt
    omega
  · have h8 : f w1 < g w1 := by
      rcases Int.lt_or_le (f w1) (g w1) with z | z
      · exact z
      · exfalso
        have := vx_first (B := B) (f := g) (g := f) (w0 := w1) (fun k hk => (h6 k hk).symm) (by omega) 25 h5 hg hf
        omega
    rcases Nat.lt_trichotomy w1 q with z | z | z
    · refine Or.inr (vx_first (B := B) (f := f') (g := g) (w0 := w1) (fun k hk => by rw [h6 k hk, h1 k (by omega)]) (by rw [h1 w1 z]; exact h8) 25 h5 hf' hg)
    · subst z
      rcases first_diff (f := f') (g := g) 25 with h9 | ⟨w2, h9, h10, h11⟩
      · exact Or.inl h9
      · have h12 : f' w2 < g w2 := by
          rcases Nat.lt_trichotomy w2 w1 with y | y | y
          · exact absurd (by rw [h6 w2 y, h1 w2 y]) h11
          · subst y; omega
          · have := h3 w2 y h9
            have := (hg w2 h9).1
            omega
        exact Or.inr (vx_first (B := B) (f := f') (g := g) h10 h12 25 h9 hf' hg)
    · exfalso
      have := h4 w1 z h5
      have := (hg w1 h5).2
      omega
theorem cst_bd {a bb u un : Nat → Int} {lo mi : Int} {g : Nat → Int} (hlm : 0 ≤ lo ∧ lo ≤ 10000 ∧ 0 ≤ mi ∧ mi ≤ 10000) (ha : ∀ i, i < 5 → 0 ≤ a i ∧ a i ≤ 20) (hb : ∀ j, j < 5 → 0 ≤ bb j ∧ bb j ≤ 20) (hu : ∀ w, w < 25 → u w ≤ 20) (hun : ∀ w, w < 25 → 0 ≤ un w ∧ un w ≤ 10000) (g1 : Fea a bb u g) : -100000000 ≤ cst a bb un lo mi g ∧ cst a bb un lo mi g ≤ 100000000 := by
  have s1 := sm_bd ha
  have s2 := sm_bd hb
  have m1 := mul_bd (X := 10000) (Y := 100) ⟨hlm.1, hlm.2.1⟩ ⟨s1.1, by omega⟩
  have m2 := mul_bd (X := 10000) (Y := 100) ⟨hlm.2.2.1, hlm.2.2.2⟩ ⟨s2.1, by omega⟩
  have t := tot_bd (κ := fun w => un w - lo - mi) (g := g) (A := 20000) (B := 40) (by omega) (by omega) (fun w hw => by have := hun w hw; omega) (fun w hw => by have := g1.1 w hw; have := hu w hw; omega)
  unfold cst
  omega
section MANEW
variable {σ : Mem} {n m : Nat} {R : Nat → Int}
theorem row_off (hD : DAT σ n m) (hR : ∀ w, w < 25 → 0 ≤ R w ∧ R w ≤ BD (aW σ n) (bW σ m) (uW σ n m) w) {w : Nat} (hw : w < 25) (h : ¬ (w / 5 < n ∧ w % 5 < m)) : R w = 0 := by
  have h1 := hR w hw
  rw [bd_off hD hw h] at h1
  omega
theorem row_r (hD : DAT σ n m) (hR : ∀ w, w < 25 → 0 ≤ R w ∧ R w ≤ BD (aW σ n) (bW σ m) (uW σ n m) w) {i : Nat} (hi : i < 5) : rowS R i = if i < n then rfr R m i else 0 := by
  have h5 := hD.1
  unfold rowS rfr
  by_cases h : i < n
  · rw [if_pos h, sm_cut (n := m) (by omega) (fun j h1 h2 => row_off hD hR (by omega) (by omega))]
  · rw [if_neg h, sm_congr (h := fun _ => 0) (fun j hj => row_off hD hR (by omega) (by omega)), sm_zero]
theorem row_c (hD : DAT σ n m) (hR : ∀ w, w < 25 → 0 ≤ R w ∧ R w ≤ BD (aW σ n) (bW σ m) (uW σ n m) w) {j : Nat} (hj : j < 5) : colS R j = if j < m then rto R n j else 0 := by
  have h5 := hD.1
  unfold colS rto
  by_cases h : j < m
  · rw [if_pos h, sm_cut (n := n) (by omega) (fun i h1 h2 => row_off hD hR (by omega) (by omega))]
  · rw [if_neg h, sm_congr (h := fun _ => 0) (fun i hi => row_off hD hR (by omega) (by omega)), sm_zero]
theorem row_fea (hD : DAT σ n m) (hR : ∀ w, w < 25 → 0 ≤ R w ∧ R w ≤ BD (aW σ n) (bW σ m) (uW σ n m) w) : Fea (aW σ n) (bW σ m) (uW σ n m) R ↔ okR σ R n m := by
  have h5 := hD.1
  constructor
  · intro h
    refine ⟨fun i hi => ?_, fun j hj => ?_⟩
    · have h1 := h.2.1 i (by omega)
      rw [row_r hD hR (by omega), if_pos hi] at h1
      unfold aW at h1
      rw [if_pos hi] at h1
      exact h1
    · have h1 := h.2.2 j (by omega)
      rw [row_c hD hR (by omega), if_pos hj] at h1
      unfold bW at h1
      rw [if_pos hj] at h1
      exact h1
  · intro h
    refine ⟨fun w hw => ?_, fun i hi => ?_, fun j hj => ?_⟩
    · have := hR w hw
      unfold BD at this
      omega
    · rw [row_r hD hR hi]
      unfold aW
      by_cases q : i < n
      · rw [if_pos q, if_pos q]; exact h.1 i q
      · rw [if_neg q, if_neg q]; exact Int.le_refl _
    · rw [row_c hD hR hj]
      unfold bW
      by_cases q : j < m
      · rw [if_pos q, if_pos q]; exact h.2 j q
      · rw [if_neg q, if_neg q]; exact Int.le_refl _
theorem tot_split {un f : Nat → Int} {lo mi : Int} : tot (fun w => (un w - lo - mi) * f w) = tot (fun w => f w * un w) - lo * sm 5 (rowS f) - mi * sm 5 (colS f) := by
  have e1 : ∀ i, sm 5 (fun j => (un (5 * i + j) - lo - mi) * f (5 * i + j)) = (sm 5 (fun j => f (5 * i + j) * un (5 * i + j)) - lo * rowS f i) - mi * rowS f i := fun i => by
    rw [sm_congr (h := fun j => (f (5 * i + j) * un (5 * i + j) - lo * f (5 * i + j)) - mi * f (5 * i + j)) (fun j _ => by rw [Int.sub_mul, Int.sub_mul, Int.mul_comm (un _)]), sm_sub, sm_sub, sm_mul, sm_mul]
    rfl
  have e2 : sm 5 (colS f) = sm 5 (rowS f) := (sm_swap 5 5 (fun i j => f (5 * i + j))).symm
  rw [e2]
  show sm 5 (fun i => sm 5 (fun j => (un (5 * i + j) - lo - mi) * f (5 * i + j))) = _
  rw [sm_congr (fun i _ => e1 i), sm_sub, sm_sub, sm_mul, sm_mul]
  rfl
theorem row_cost (hD : DAT σ n m) (hR : ∀ w, w < 25 → 0 ≤ R w ∧ R w ≤ BD (aW σ n) (bW σ m) (uW σ n m) w) : c1F σ R n m n + c2F σ R n m = cst (aW σ n) (bW σ m) (unW σ n m) (vI σ 0 12) (vI σ 0 13) R := by
  have h5 := hD.1
  have A : c1F σ R n m n = sm n (fun i => sm m (fun j => R (5 * i + j) * unD σ i j)) + vI σ 0 12 * (sm n (vI σ 3) - sm n (fun i => rfr R m i)) := by
    unfold c1F
    rw [sm_add, sm_mul, sm_sub]
  have B : c2F σ R n m = vI σ 0 13 * (sm m (vI σ 6) - sm m (fun j => rto R n j)) := by
    unfold c2F
    rw [sm_mul, sm_sub]
  have a1 : sm 5 (aW σ n) = sm n (vI σ 3) := by
    have z : ∀ i, n ≤ i → i < 5 → aW σ n i = 0 := fun i h _ => if_neg (by omega)
    rw [sm_cut (n := n) (by omega) z]
    exact sm_congr (fun i hi => if_pos hi)
  have b1 : sm 5 (bW σ m) = sm m (vI σ 6) := by
    have z : ∀ i, m ≤ i → i < 5 → bW σ m i = 0 := fun i h _ => if_neg (by omega)
    rw [sm_cut (n := m) (by omega) z]
    exact sm_congr (fun i hi => if_pos hi)
  have t1 : sm 5 (rowS R) = sm n (fun i => rfr R m i) := by
    rw [sm_cut (n := n) (by omega) (fun i h h' => by rw [row_r hD hR h', if_neg (by omega)])]
    exact sm_congr (fun i hi => by rw [row_r hD hR (by omega), if_pos hi])
  have t2 : sm 5 (colS R) = sm m (fun j => rto R n j) := by
    rw [sm_cut (n := m) (by omega) (fun i h h' => by rw [row_c hD hR h', if_neg (by omega)])]
    exact sm_congr (fun i hi => by rw [row_c hD hR (by omega), if_pos hi])
  have t3 : tot (fun w => R w * unW σ n m w) = sm n (fun i => sm m (fun j => R (5 * i + j) * unD σ i j)) := by
    have hz : ∀ w, w < 25 → ¬ (w / 5 < n ∧ w % 5 < m) → R w * unW σ n m w = 0 := fun w hw h => by rw [row_off hD hR hw h, Int.zero_mul]
    unfold tot
    rw [sm_cut (n := n) (by omega) (fun i h h' => by
      rw [sm_congr (h := fun _ => 0) (fun j hj => hz _ (by omega) (by omega)), sm_zero])]
    refine sm_congr (fun i hi => ?_)
    rw [sm_cut (n := m) (by omega) (fun j h h' => hz _ (by omega) (by omega))]
    refine sm_congr (fun j hj => ?_)
    unfold unW
    rw [show (5 * i + j) / 5 = i by omega, show (5 * i + j) % 5 = j by omega, if_pos ⟨hi, hj⟩]
  rw [A, B]
  unfold cst
  rw [tot_split, a1, b1, t1, t2, t3, Int.mul_sub, Int.mul_sub]
  omega
end MANEW
