/-! Plain facts: sums, plans, and when a plan is best. -/
def sm (n : Nat) (g : Nat → Int) : Int := match n with
  | 0 => 0
  | n + 1 => sm n g + g n
theorem sm_add (n : Nat) (g h : Nat → Int) : sm n (fun i => g i + h i) = sm n g + sm n h := by
  induction n with
  | zero => rfl
  | succ n ih => simp only [sm, ih]; omega
theorem sm_sub (n : Nat) (g h : Nat → Int) : sm n (fun i => g i - h i) = sm n g - sm n h := by
  induction n with
  | zero => rfl
  | succ n ih => simp only [sm, ih]; omega
theorem sm_mul (n : Nat) (c : Int) (g : Nat → Int) : sm n (fun i => c * g i) = c * sm n g := by
  induction n with
  | zero => simp [sm]
  | succ n ih => simp only [sm, ih, Int.mul_add]
theorem sm_congr {n : Nat} {g h : Nat → Int} (e : ∀ i, i < n → g i = h i) : sm n g = sm n h := by
  induction n with
  | zero => rfl
  | succ n ih => simp only [sm, ih (fun i hi => e i (by omega)), e n (by omega)]
theorem sm_le {n : Nat} {g h : Nat → Int} (e : ∀ i, i < n → g i ≤ h i) : sm n g ≤ sm n h := by
  induction n with
  | zero => exact Int.le_refl _
  | succ n ih =>
    have h1 := ih (fun i hi => e i (by omega))
    have h2 := e n (by omega)
    simp only [sm]; omega
theorem sm_zero (n : Nat) : sm n (fun _ => 0) = 0 := by
  induction n with
  | zero => rfl
  | succ n ih => simp only [sm, ih]; rfl
theorem sm_nonneg {n : Nat} {g : Nat → Int} (e : ∀ i, i < n → 0 ≤ g i) : 0 ≤ sm n g := by
  have h := sm_le (n := n) (g := fun _ => 0) (h := g) e
  rw [sm_zero] at h
  exact h
theorem sm_swap (n m : Nat) (g : Nat → Nat → Int) : sm n (fun i => sm m (fun j => g i j)) = sm m (fun j => sm n (fun i => g i j)) := by
  induction n with
  | zero => simp only [sm]; exact (sm_zero m).symm
  | succ n ih =>
    simp only [sm, ih]
    rw [← sm_add]
theorem sm_single (n k : Nat) (v : Int) (hk : k < n) : sm n (fun i => if i = k then v else 0) = v := by
  induction n with
  | zero => omega
  | succ n ih =>
    simp only [sm]
    by_cases h : k = n
    · subst h
      rw [sm_congr (h := fun _ => 0) (fun i hi => if_neg (by omega)), sm_zero]
      simp
    · rw [ih (by omega), if_neg (by omega)]; omega
theorem sm_none (n k : Nat) (v : Int) (hk : n ≤ k) : sm n (fun i => if i = k then v else 0) = 0 := by
  rw [sm_congr (h := fun _ => 0) (fun i hi => if_neg (by omega)), sm_zero]
theorem sm_upd {n k : Nat} {g : Nat → Int} {v : Int} (hk : k < n) : sm n (fun i => if i = k then v else g i) = sm n g + (v - g k) := by
  have h : sm n (fun i => if i = k then v else g i) = sm n (fun i => g i + (if i = k then v - g k else 0)) := sm_congr (fun i _ => by
    by_cases h : i = k
    · subst h; simp; omega
    · simp [h])
  rw [h, sm_add, sm_single n k _ hk]
theorem sm_ge_one {n k : Nat} {g : Nat → Int} (hk : k < n) (e : ∀ i, i < n → 0 ≤ g i) : g k ≤ sm n g := by
  induction n with
  | zero => omega
  | succ n ih =>
    simp only [sm]
    have h0 := sm_nonneg (n := n) (g := g) (fun i hi => e i (by omega))
    by_cases h : k = n
    · subst h; omega
    · have := ih (by omega) (fun i hi => e i (by omega))
      have := e n (by omega)
      omega
/-- what goes out of heap i, what comes to hole j, all ways together -/
def rowS (f : Nat → Int) (i : Nat) : Int := sm 5 (fun j => f (5 * i + j))
def colS (f : Nat → Int) (j : Nat) : Int := sm 5 (fun i => f (5 * i + j))
def tot (g : Nat → Int) : Int := sm 5 (fun i => sm 5 (fun j => g (5 * i + j)))
def Fea (a b u f : Nat → Int) : Prop := (∀ w, w < 25 → 0 ≤ f w ∧ f w ≤ u w) ∧ (∀ i, i < 5 → rowS f i ≤ a i) ∧ ∀ j, j < 5 → colS f j ≤ b j
/-- potentials that prove f best against the bound D -/
def Cert (a b u c f p q : Nat → Int) (D : Int) : Prop :=
  (∀ i j, i < 5 → j < 5 → f (5 * i + j) < u (5 * i + j) → q j ≤ p i + c (5 * i + j)) ∧ (∀ i j, i < 5 → j < 5 → 0 < f (5 * i + j) → p i + c (5 * i + j) ≤ q j) ∧
  (∀ i, i < 5 → rowS f i < a i → p i ≤ 0) ∧ (∀ i, i < 5 → 0 < rowS f i → 0 ≤ p i) ∧ (∀ j, j < 5 → colS f j < b j → D ≤ q j) ∧ (∀ j, j < 5 → 0 < colS f j → q j ≤ D)
theorem mul_nn {x y : Int} (h1 : 0 < x → 0 ≤ y) (h2 : x < 0 → y ≤ 0) : 0 ≤ x * y := by
  rcases Int.lt_trichotomy x 0 with h | h | h
  · have h9 := Int.mul_nonneg (a := -x) (b := -y) (by omega) (by have := h2 h; omega)
    rw [Int.neg_mul_neg] at h9
    exact h9
  · subst h; simp
  · exact Int.mul_nonneg (by omega) (h1 h)
theorem cert_opt {a b u c f g p q : Nat → Int} {T : Int} (hf : Fea a b u f) (hg : Fea a b u g) (hC : Cert a b u c f p q T) : tot (fun w => (c w - T) * f w) ≤ tot (fun w => (c w - T) * g w) := by
  obtain ⟨c1, c2, c3, c4, c5, c6⟩ := hC
  obtain ⟨f1, f2, f3⟩ := hf
  obtain ⟨g1, g2, g3⟩ := hg
  have key : tot (fun w => (c w - T) * g w) - tot (fun w => (c w - T) * f w) =
      sm 5 (fun i => sm 5 (fun j => (c (5 * i + j) + p i - q j) * (g (5 * i + j) - f (5 * i + j)))) + sm 5 (fun i => (- p i) * (rowS g i - rowS f i)) + sm 5 (fun j => (q j - T) * (colS g j - colS f j)) := by
    have e1 : sm 5 (fun i => (- p i) * (rowS g i - rowS f i)) = sm 5 (fun i => sm 5 (fun j => (- p i) * (g (5 * i + j) - f (5 * i + j)))) := sm_congr (fun i _ => by
      unfold rowS; rw [← sm_sub, sm_mul])
    have e2 : sm 5 (fun j => (q j - T) * (colS g j - colS f j)) = sm 5 (fun i => sm 5 (fun j => (q j - T) * (g (5 * i + j) - f (5 * i + j)))) := by
      rw [sm_swap]
      exact sm_congr (fun j _ => by unfold colS; rw [← sm_sub, sm_mul])
    rw [e1, e2, ← sm_add, ← sm_add]
    unfold tot
    rw [← sm_sub]
    refine sm_congr (fun i _ => ?_)
    rw [← sm_sub, ← sm_add, ← sm_add]
    refine sm_congr (fun j _ => ?_)
    simp only [Int.add_mul, Int.sub_mul, Int.mul_sub, Int.neg_mul]
    omega
  have n1 : 0 ≤ sm 5 (fun i => sm 5 (fun j => (c (5 * i + j) + p i - q j) * (g (5 * i + j) - f (5 * i + j)))) := by
    refine sm_nonneg (fun i hi => sm_nonneg (fun j hj => ?_))
    have hw : 5 * i + j < 25 := by omega
    have hf1 := f1 _ hw
    have hg1 := g1 _ hw
    refine mul_nn (fun h => ?_) (fun h => ?_)
    · rcases Int.lt_or_le 0 (f (5 * i + j)) with h9 | h9
      · have := c2 i j hi hj h9; omega
      · omega
    · rcases Int.lt_or_le (f (5 * i + j)) (u (5 * i + j)) with h9 | h9
      · have := c1 i j hi hj h9; omega
      · omega
  have n2 : 0 ≤ sm 5 (fun i => (- p i) * (rowS g i - rowS f i)) := by
    refine sm_nonneg (fun i hi => mul_nn (fun h => ?_) (fun h => ?_))
    · have hr : 0 ≤ rowS g i := sm_nonneg (fun j hj => (g1 _ (by omega)).1)
      rcases Int.lt_or_le 0 (rowS f i) with h9 | h9
      · have := c4 i hi h9; omega
      · omega
    · have := g2 i hi
      rcases Int.lt_or_le (rowS f i) (a i) with h9 | h9
      · have := c3 i hi h9; omega
      · omega
  have n3 : 0 ≤ sm 5 (fun j => (q j - T) * (colS g j - colS f j)) := by
    refine sm_nonneg (fun j hj => mul_nn (fun h => ?_) (fun h => ?_))
    · have hr : 0 ≤ colS g j := sm_nonneg (fun i hi => (g1 _ (by omega)).1)
      rcases Int.lt_or_le 0 (colS f j) with h9 | h9
      · have := c6 j hj h9; omega
      · omega
    · have := g3 j hj
      rcases Int.lt_or_le (colS f j) (b j) with h9 | h9
      · have := c5 j hj h9; omega
      · omega
  omega
