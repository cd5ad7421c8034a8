/-! Cheapest paths by bettering labels: what stays true, and what the labels prove. -/
def up (par : Nat → Option Nat) : Nat → Nat → Option Nat
  | 0, x => some x
  | n + 1, x => match par x with
    | none => none
    | some y => up par n y
theorem up_succ {par : Nat → Option Nat} {n x y : Nat} (h : par x = some y) : up par (n + 1) x = up par n y := by
  show (match par x with
    | none => none
    | some y => up par n y) = _
  rw [h]
theorem up_none {par : Nat → Option Nat} {n x : Nat} (h : par x = none) : up par (n + 1) x = none := by
  show (match par x with
    | none => none
    | some y => up par n y) = _
  rw [h]
/-- v stands on x's chain -/
def onch (par : Nat → Option Nat) (x v : Nat) : Prop := ∃ n, up par n x = some v
theorem onch_self (par : Nat → Option Nat) (x : Nat) : onch par x x := ⟨0, rfl⟩
theorem onch_step {par : Nat → Option Nat} {x y v : Nat} (h : par x = some y) (hx : x ≠ v) : onch par x v ↔ onch par y v := by
  constructor
  · rintro ⟨n, hn⟩
    cases n with
    | zero => exact absurd (Option.some.inj hn) hx
    | succ n => rw [up_succ h] at hn; exact ⟨n, hn⟩
  · rintro ⟨n, hn⟩
    exact ⟨n + 1, by rw [up_succ h]; exact hn⟩
theorem up_add {par : Nat → Option Nat} {n m x y : Nat} (h : up par n x = some y) : up par (n + m) x = up par m y := by
  induction n generalizing x with
  | zero =>
    have : x = y := Option.some.inj h
    subst this
    rw [Nat.zero_add]
  | succ n ih =>
    cases hp : par x with
    | none => rw [up_none hp] at h; cases h
    | some z =>
      rw [up_succ hp] at h
      rw [Nat.succ_add, up_succ hp]
      exact ih h
theorem onch_next {par : Nat → Option Nat} {x v y : Nat} (h : onch par x v) (hy : par v = some y) : onch par x y := by
  obtain ⟨n, hn⟩ := h
  exact ⟨n + 1, by rw [up_add hn, up_succ hy]; rfl⟩
/-- potentials: no arc goes below them, no source lies above 0 -/
def Pot (A : Nat → Nat → Int → Prop) (src : Nat → Prop) (φ : Nat → Int) (Cm : Int) : Prop :=
  (∀ u v l, A u v l → u < 10 ∧ v < 10 ∧ φ v ≤ φ u + l ∧ -Cm ≤ l ∧ l ≤ Cm) ∧ (∀ v, src v → φ v ≤ 0) ∧ 0 ≤ Cm
def cntF (FAR : Int) (lab : Nat → Int) : Int := sm 10 (fun x => if lab x < FAR then 1 else 0)
def BFi (A : Nat → Nat → Int → Prop) (src : Nat → Prop) (φ : Nat → Int) (FAR Cm : Int) (lab : Nat → Int) (par : Nat → Option Nat) : Prop :=
  (∀ v, v < 10 → lab v ≤ FAR ∧ (lab v < FAR → φ v ≤ lab v ∧ lab v ≤ Cm * cntF FAR lab)) ∧
  (∀ v u, v < 10 → par v = some u → u < 10 ∧ lab v < FAR ∧ lab u < FAR ∧ ∃ l, A u v l ∧ lab u + l ≤ lab v) ∧
  (∀ v, v < 10 → lab v < FAR → par v = none → src v ∧ lab v = 0) ∧
  (∃ rk : Nat → Nat, ∀ v u, v < 10 → par v = some u → rk u < rk v) ∧
  (∀ v, v < 10 → src v → lab v ≤ 0)
theorem chain_low {A : Nat → Nat → Int → Prop} {src : Nat → Prop} {φ : Nat → Int} {FAR Cm : Int} {lab : Nat → Int} {par : Nat → Option Nat} (hP : Pot A src φ Cm) (hB : BFi A src φ FAR Cm lab par) : ∀ (n x y : Nat), x < 10 → up par n x = some y → y < 10 ∧ (lab x < FAR → lab y < FAR ∧ lab y - φ y ≤ lab x - φ x) := by
  intro n
  induction n with
  | zero =>
    intro x y hx h
    have : x = y := Option.some.inj h
    subst this
    exact ⟨hx, fun h => ⟨h, Int.le_refl _⟩⟩
  | succ n ih =>
    intro x y hx h
    cases hp : par x with
    | none => rw [up_none hp] at h; cases h
    | some z =>
      rw [up_succ hp] at h
      obtain ⟨h1, h2, h3, l, h4, h5⟩ := hB.2.1 x z hx hp
      obtain ⟨i1, i2⟩ := ih z y h1 h
      obtain ⟨-, -, h6, -, -⟩ := hP.1 _ _ _ h4
      refine ⟨i1, fun _ => ?_⟩
      obtain ⟨i3, i4⟩ := i2 h3
      exact ⟨i3, by omega⟩
theorem cnt_le {FAR : Int} {lab : Nat → Int} : cntF FAR lab ≤ 10 ∧ 0 ≤ cntF FAR lab := by
  unfold cntF
  constructor
  · have h := sm_le (n := 10) (g := fun x => if lab x < FAR then 1 else 0) (h := fun _ => 1) (fun i _ => by show (if lab i < FAR then (1 : Int) else 0) ≤ 1; split <;> omega)
    exact h
  · exact sm_nonneg (fun i _ => by show (0 : Int) ≤ if lab i < FAR then 1 else 0; split <;> omega)
theorem bf_bound {A : Nat → Nat → Int → Prop} {src : Nat → Prop} {φ : Nat → Int} {FAR Cm : Int} {lab : Nat → Int} {par : Nat → Option Nat} (hP : Pot A src φ Cm) (hB : BFi A src φ FAR Cm lab par) {v : Nat} (hv : v < 10) (hf : lab v < FAR) : lab v ≤ 10 * Cm := by
  have h1 := ((hB.1 v hv).2 hf).2
  have h2 := cnt_le (FAR := FAR) (lab := lab)
  have h3 : Cm * cntF FAR lab ≤ Cm * 10 := Int.mul_le_mul_of_nonneg_left h2.1 hP.2.2
  omega
/-- one label is bettered -/
theorem bf_relax {A : Nat → Nat → Int → Prop} {src : Nat → Prop} {φ : Nat → Int} {FAR Cm : Int} {lab : Nat → Int} {par : Nat → Option Nat} (hP : Pot A src φ Cm) (hB : BFi A src φ FAR Cm lab par) {u v : Nat} {l : Int} (hA : A u v l) (hu : lab u < FAR) (hlt : lab u + l < lab v) :
    BFi A src φ FAR Cm (fun x => if x = v then lab u + l else lab x) (fun x => if x = v then some u else par x) := by
  obtain ⟨b1, b2, b3, ⟨rk, b4⟩, b5⟩ := id hB
  obtain ⟨hu10, hv10, hφ, hl1, hl2⟩ := hP.1 _ _ _ hA
  have hCm := hP.2.2
  have huv : u ≠ v := by
    intro e; subst e; omega
  have hlv := (b1 v hv10).1
  have hbu := (b1 u hu10).2 hu
  have hcnt : cntF FAR (fun x => if x = v then lab u + l else lab x) = cntF FAR lab + (if lab v < FAR then 0 else 1) := by
    unfold cntF
    have e : sm 10 (fun x => if (if x = v then lab u + l else lab x) < FAR then (1 : Int) else 0) = sm 10 (fun x => if x = v then 1 else if lab x < FAR then 1 else 0) := sm_congr (fun x _ => by
      by_cases h : x = v
      · subst h; simp; omega
      · simp [h])
    rw [e, sm_upd hv10]
    split <;> omega
  have hc0 := cnt_le (FAR := FAR) (lab := lab)
  refine ⟨fun x hx => ?_, fun x y hx h => ?_, fun x hx hf hn => ?_, ?_, fun x hx hs => ?_⟩
  · simp only
    rw [hcnt]
    by_cases h : x = v
    · subst h
      simp only [if_true]
      refine ⟨by omega, fun _ => ⟨by omega, ?_⟩⟩
      split
      · rename_i hfv
        have := ((b1 x hv10).2 hfv).2
        rw [Int.add_zero]
        omega
      · rw [Int.mul_add]; omega
    · simp only [h, if_false]
      refine ⟨(b1 x hx).1, fun hfx => ⟨((b1 x hx).2 hfx).1, ?_⟩⟩
      have h1 := ((b1 x hx).2 hfx).2
      split
      · rw [Int.add_zero]; omega
      · rw [Int.mul_add]; omega
  · simp only at h ⊢
    by_cases h0 : x = v
    · subst h0
      simp only [if_true] at h ⊢
      cases h
      simp only [huv, if_false]
      exact ⟨hu10, by omega, hu, l, hA, Int.le_refl _⟩
    · simp only [h0, if_false] at h ⊢
      obtain ⟨g1, g2, g3, l', g4, g5⟩ := b2 x y hx h
      refine ⟨g1, g2, ?_, l', g4, ?_⟩
      · by_cases hy : y = v
        · subst hy; simp; omega
        · simp [hy]; exact g3
      · by_cases hy : y = v
        · subst hy; simp; omega
        · simp [hy]; exact g5
  · simp only at hf hn ⊢
    by_cases h0 : x = v
    · subst h0; simp at hn
    · simp only [h0, if_false] at hf hn ⊢
      exact b3 x hx hf hn
  · have hnd : ¬ onch par u v := by
      rintro ⟨n, hn⟩
      have h9 := (chain_low hP hB n u v hu10 hn).2 hu
      omega
    refine ⟨fun x => @ite _ (onch par x v) (Classical.propDecidable _) (rk x + rk u + 1) (rk x), fun x y hx h => ?_⟩
    simp only at h
    by_cases h0 : x = v
    · subst h0
      simp only [if_true] at h
      cases h
      dsimp only
      rw [if_neg hnd, if_pos (onch_self par x)]
      omega
    · simp only [h0, if_false] at h
      have h1 := b4 x y hx h
      have h2 := onch_step h h0
      dsimp only
      by_cases h3 : onch par x v
      · rw [if_pos h3, if_pos (h2.mp h3)]; omega
      · rw [if_neg h3, if_neg (fun q => h3 (h2.mpr q))]; exact h1
  · simp only
    by_cases h0 : x = v
    · subst h0; simp only [if_true]
      have := b5 x hx hs
      omega
    · simp only [h0, if_false]; exact b5 x hx hs
/-- no label can be bettered any more -/
def Fix (A : Nat → Nat → Int → Prop) (FAR : Int) (lab : Nat → Int) : Prop := ∀ u v l, A u v l → lab u < FAR → lab v ≤ lab u + l
/-- the next potentials, K above the last ones at most -/
def nxt (φ lab : Nat → Int) (FAR K : Int) (v : Nat) : Int := if lab v < FAR ∧ lab v - φ v < K then lab v else φ v + K
theorem nxt_arc {A : Nat → Nat → Int → Prop} {src : Nat → Prop} {φ : Nat → Int} {FAR Cm K : Int} {lab : Nat → Int} {par : Nat → Option Nat} (hP : Pot A src φ Cm) (hB : BFi A src φ FAR Cm lab par) (hF : Fix A FAR lab) (hfar : 11 * Cm < FAR) {u v : Nat} {l : Int} (hA : A u v l) : nxt φ lab FAR K v ≤ nxt φ lab FAR K u + l := by
  obtain ⟨hu, hv, h1, h2, h3⟩ := hP.1 _ _ _ hA
  have hle : nxt φ lab FAR K v ≤ φ v + K := by
    unfold nxt; split <;> omega
  by_cases hc : lab u < FAR ∧ lab u - φ u < K
  · have h4 := hF _ _ _ hA hc.1
    have h5 := bf_bound hP hB hu hc.1
    have e : nxt φ lab FAR K u = lab u := if_pos hc
    rw [e]
    have : nxt φ lab FAR K v ≤ lab v := by
      unfold nxt
      split
      · omega
      · rename_i hn
        have hvf : lab v < FAR := by omega
        have : ¬ lab v - φ v < K := fun q => hn ⟨hvf, q⟩
        omega
    omega
  · have e : nxt φ lab FAR K u = φ u + K := if_neg hc
    rw [e]; omega
theorem nxt_ge {A : Nat → Nat → Int → Prop} {src : Nat → Prop} {φ : Nat → Int} {FAR Cm K : Int} {lab : Nat → Int} {par : Nat → Option Nat} (hB : BFi A src φ FAR Cm lab par) (hK : 0 ≤ K) {v : Nat} (hv : v < 10) : φ v ≤ nxt φ lab FAR K v := by
  unfold nxt
  split
  · rename_i h; exact ((hB.1 v hv).2 h.1).1
  · omega
theorem nxt_le {φ : Nat → Int} {FAR K : Int} {lab : Nat → Int} {v : Nat} : nxt φ lab FAR K v ≤ φ v + K := by
  unfold nxt; split <;> omega
theorem nxt_src {A : Nat → Nat → Int → Prop} {src : Nat → Prop} {φ : Nat → Int} {FAR Cm K : Int} {lab : Nat → Int} {par : Nat → Option Nat} (hB : BFi A src φ FAR Cm lab par) (hF : 0 < FAR) {v : Nat} (hv : v < 10) (hs : src v) : nxt φ lab FAR K v ≤ 0 := by
  have h := hB.2.2.2.2 v hv hs
  unfold nxt
  split
  · omega
  · rename_i hn
    have : ¬ lab v - φ v < K := fun q => hn ⟨by omega, q⟩
    omega
theorem nxt_on {φ : Nat → Int} {FAR K : Int} {lab : Nat → Int} {v : Nat} (h1 : lab v < FAR) (h2 : lab v - φ v ≤ K) : nxt φ lab FAR K v = lab v := by
  unfold nxt
  split
  · rfl
  · rename_i hn
    have : ¬ lab v - φ v < K := fun q => hn ⟨h1, q⟩
    omega
/-! the arcs that a plan f leaves free: heap i is node i, hole j is node 5 + j -/
def Arc (u c f : Nat → Int) (x y : Nat) (l : Int) : Prop :=
  (∃ i j, i < 5 ∧ j < 5 ∧ x = i ∧ y = 5 + j ∧ f (5 * i + j) < u (5 * i + j) ∧ l = c (5 * i + j)) ∨ ∃ i j, i < 5 ∧ j < 5 ∧ x = 5 + j ∧ y = i ∧ 0 < f (5 * i + j) ∧ l = - c (5 * i + j)
def Src (a f : Nat → Int) (v : Nat) : Prop := v < 5 ∧ rowS f v < a v
/-- a proof that f is best, by one row of potentials -/
def CertN (a b u c f φ : Nat → Int) (D : Int) : Prop := Cert a b u c f φ (fun j => φ (5 + j)) D
theorem pot_of_cert {a b u c f φ : Nat → Int} {D Cm : Int} (hC : CertN a b u c f φ D) (h0 : 0 ≤ Cm) (hc : ∀ w, w < 25 → -Cm ≤ c w ∧ c w ≤ Cm) : Pot (Arc u c f) (Src a f) φ Cm := by
  obtain ⟨c1, c2, c3, -⟩ := hC
  refine ⟨fun x y l h => ?_, fun v h => c3 v h.1 h.2, h0⟩
  rcases h with ⟨i, j, hi, hj, rfl, rfl, h, rfl⟩ | ⟨i, j, hi, hj, rfl, rfl, h, rfl⟩
  · have h1 : φ (5 + j) ≤ φ x + c (5 * x + j) := c1 _ j hi hj h
    have h2 := hc (5 * x + j) (by omega)
    exact ⟨by omega, by omega, h1, h2.1, h2.2⟩
  · have h1 : φ y + c (5 * y + j) ≤ φ (5 + j) := c2 _ j hi hj h
    have h2 := hc (5 * y + j) (by omega)
    exact ⟨by omega, by omega, by omega, by omega, by omega⟩
/-- what carrying along a chain of parents from hole j0 leaves -/
theorem cert_aug {a b u c f f' φ lab : Nat → Int} {par : Nat → Option Nat} {D FAR Cm : Int} {j0 : Nat} (hC : CertN a b u c f φ D) (hcb : ∀ w, w < 25 → -Cm ≤ c w ∧ c w ≤ Cm) (hCm : 0 ≤ Cm) (hfar : 11 * Cm < FAR) (hFAR : 0 < FAR)
    (hB : BFi (Arc u c f) (Src a f) φ FAR Cm lab par) (hF : Fix (Arc u c f) FAR lab) (hj0 : j0 < 5) (hl0 : colS f j0 < b j0) (hd0 : lab (5 + j0) < FAR) (hnear : ∀ j, j < 5 → colS f j < b j → lab (5 + j) < FAR → lab (5 + j0) ≤ lab (5 + j))
    (m1 : ∀ i j, i < 5 → j < 5 → f' (5 * i + j) = f (5 * i + j) ∨ (onch par (5 + j0) (5 + j) ∧ par (5 + j) = some i) ∨ (onch par (5 + j0) i ∧ par i = some (5 + j)))
    (m2 : ∀ i, i < 5 → (rowS f' i < a i → rowS f i < a i) ∧ (rowS f' i = rowS f i ∨ (onch par (5 + j0) i ∧ par i = none)))
    (m3 : ∀ j, j < 5 → (colS f' j < b j → colS f j < b j) ∧ (colS f' j = colS f j ∨ j = j0)) :
    CertN a b u c f' (nxt φ lab FAR (lab (5 + j0) - D)) (lab (5 + j0)) ∧ D ≤ lab (5 + j0) := by
  have hP := pot_of_cert hC hCm hcb
  obtain ⟨c1, c2, c3, c4, c5, c6⟩ := id hC
  have hφt := ((hB.1 (5 + j0) (by omega)).2 hd0).1
  have hDt := c5 j0 hj0 hl0
  have hK : D ≤ lab (5 + j0) := Int.le_trans hDt hφt
  have hon : ∀ v, onch par (5 + j0) v → v < 10 ∧ lab v < FAR ∧ nxt φ lab FAR (lab (5 + j0) - D) v = lab v := by
    rintro v ⟨n, hn⟩
    obtain ⟨h1, h2⟩ := chain_low hP hB n _ _ (by omega) hn
    obtain ⟨h3, h4⟩ := h2 hd0
    have hDt' : D ≤ φ (5 + j0) := hDt
    exact ⟨h1, h3, nxt_on h3 (by omega)⟩
  have tight : ∀ x y l, onch par (5 + j0) x → par x = some y → Arc u c f y x l → nxt φ lab FAR (lab (5 + j0) - D) x = nxt φ lab FAR (lab (5 + j0) - D) y + l := by
    intro x y l hx hy hA
    obtain ⟨h1, h2, h3⟩ := hon x hx
    obtain ⟨h4, h5, h6⟩ := hon y (onch_next hx hy)
    rw [h3, h6]
    have h7 := hF _ _ _ hA h5
    obtain ⟨-, -, -, l', h8, h9⟩ := hB.2.1 x y h1 hy
    have : l' = l := by
      rcases h8 with ⟨i, j, hi, hj, e1, e2, -, e3⟩ | ⟨i, j, hi, hj, e1, e2, -, e3⟩ <;> rcases hA with ⟨i', j', hi', hj', e1', e2', -, e3'⟩ | ⟨i', j', hi', hj', e1', e2', -, e3'⟩
      · have a1 : i = i' := by omega
        have a2 : j = j' := by omega
        subst a1; subst a2; omega
      · omega
      · omega
      · have a1 : i = i' := by omega
        have a2 : j = j' := by omega
        subst a1; subst a2; omega
    omega
  have tightw : ∀ i j, i < 5 → j < 5 → f' (5 * i + j) ≠ f (5 * i + j) → nxt φ lab FAR (lab (5 + j0) - D) (5 + j) = nxt φ lab FAR (lab (5 + j0) - D) i + c (5 * i + j) := by
    intro i j hi hj hne
    rcases m1 i j hi hj with h | ⟨h1, h2⟩ | ⟨h1, h2⟩
    · exact absurd h hne
    · obtain ⟨-, -, -, l, h3, -⟩ := hB.2.1 (5 + j) i (by omega) h2
      have hl : l = c (5 * i + j) := by
        rcases h3 with ⟨i', j', hi', hj', e1, e2, -, e3⟩ | ⟨i', j', hi', hj', e1, e2, -, e3⟩
        · have a1 : i = i' := by omega
          have a2 : j = j' := by omega
          subst a1; subst a2; exact e3
        · omega
      subst hl
      exact tight _ _ _ h1 h2 h3
    · obtain ⟨-, -, -, l, h3, -⟩ := hB.2.1 i (5 + j) (by omega) h2
      have hl : l = - c (5 * i + j) := by
        rcases h3 with ⟨i', j', hi', hj', e1, e2, -, e3⟩ | ⟨i', j', hi', hj', e1, e2, -, e3⟩
        · omega
        · have a1 : i = i' := by omega
          have a2 : j = j' := by omega
          subst a1; subst a2; exact e3
      subst hl
      have := tight _ _ _ h1 h2 h3
      omega
  refine ⟨⟨fun i j hi hj h => ?_, fun i j hi hj h => ?_, fun i hi h => ?_, fun i hi h => ?_, fun j hj h => ?_, fun j hj h => ?_⟩, hK⟩
  · by_cases he : f' (5 * i + j) = f (5 * i + j)
    · rw [he] at h
      exact nxt_arc hP hB hF hfar (Or.inl ⟨i, j, hi, hj, rfl, rfl, h, rfl⟩)
    · have := tightw i j hi hj he
      show nxt φ lab FAR (lab (5 + j0) - D) (5 + j) ≤ nxt φ lab FAR (lab (5 + j0) - D) i + c (5 * i + j)
      omega
  · by_cases he : f' (5 * i + j) = f (5 * i + j)
    · rw [he] at h
      have h9 := nxt_arc (K := lab (5 + j0) - D) hP hB hF hfar (Or.inr ⟨i, j, hi, hj, rfl, rfl, h, rfl⟩)
      show nxt φ lab FAR (lab (5 + j0) - D) i + c (5 * i + j) ≤ nxt φ lab FAR (lab (5 + j0) - D) (5 + j)
      omega
    · have := tightw i j hi hj he
      show nxt φ lab FAR (lab (5 + j0) - D) i + c (5 * i + j) ≤ nxt φ lab FAR (lab (5 + j0) - D) (5 + j)
      omega
  · exact nxt_src hB hFAR (by omega) ⟨hi, (m2 i hi).1 h⟩
  · rcases (m2 i hi).2 with he | ⟨h1, h2⟩
    · rw [he] at h
      exact Int.le_trans (c4 i hi h) (nxt_ge hB (by omega) (by omega))
    · obtain ⟨h3, h4, h5⟩ := hon i h1
      have := (hB.2.2.1 i h3 h4 h2).2
      omega
  · have h1 := (m3 j hj).1 h
    have h2 := c5 j hj h1
    show lab (5 + j0) ≤ nxt φ lab FAR (lab (5 + j0) - D) (5 + j)
    unfold nxt
    split
    · rename_i hh; exact hnear j hj h1 hh.1
    · have h2' : D ≤ φ (5 + j) := h2
      omega
  · rcases (m3 j hj).2 with he | he
    · rw [he] at h
      have h2 := c6 j hj h
      have h2' : φ (5 + j) ≤ D := h2
      have := nxt_le (φ := φ) (FAR := FAR) (K := lab (5 + j0) - D) (lab := lab) (v := 5 + j)
      show nxt φ lab FAR (lab (5 + j0) - D) (5 + j) ≤ _
      omega
    · subst he
      exact Int.le_of_eq (hon _ (onch_self par _)).2.2
/-- no hole that lacks is nearer than T: f is best against T -/
theorem cert_fin {a b u c f φ lab : Nat → Int} {par : Nat → Option Nat} {D T FAR Cm : Int} (hC : CertN a b u c f φ D) (hcb : ∀ w, w < 25 → -Cm ≤ c w ∧ c w ≤ Cm) (hCm : 0 ≤ Cm) (hfar : 11 * Cm < FAR) (hFAR : 0 < FAR) (hDT : D ≤ T)
    (hB : BFi (Arc u c f) (Src a f) φ FAR Cm lab par) (hF : Fix (Arc u c f) FAR lab) (hnone : ∀ j, j < 5 → colS f j < b j → lab (5 + j) < FAR → T ≤ lab (5 + j)) : CertN a b u c f (nxt φ lab FAR (T - D)) T := by
  have hP := pot_of_cert hC hCm hcb
  obtain ⟨c1, c2, c3, c4, c5, c6⟩ := id hC
  refine ⟨fun i j hi hj h => ?_, fun i j hi hj h => ?_, fun i hi h => ?_, fun i hi h => ?_, fun j hj h => ?_, fun j hj h => ?_⟩
  · exact nxt_arc hP hB hF hfar (Or.inl ⟨i, j, hi, hj, rfl, rfl, h, rfl⟩)
  · have h9 := nxt_arc (K := T - D) hP hB hF hfar (Or.inr ⟨i, j, hi, hj, rfl, rfl, h, rfl⟩)
    show nxt φ lab FAR (T - D) i + c (5 * i + j) ≤ nxt φ lab FAR (T - D) (5 + j)
    omega
  · exact nxt_src hB hFAR (by omega) ⟨hi, h⟩
  · exact Int.le_trans (c4 i hi h) (nxt_ge hB (by omega) (by omega))
  · have h2 : D ≤ φ (5 + j) := c5 j hj h
    show T ≤ nxt φ lab FAR (T - D) (5 + j)
    unfold nxt
    split
    · rename_i hh; exact hnone j hj h hh.1
    · omega
  · have h2 : φ (5 + j) ≤ D := c6 j hj h
    have := nxt_le (φ := φ) (FAR := FAR) (K := T - D) (lab := lab) (v := 5 + j)
    show nxt φ lab FAR (T - D) (5 + j) ≤ _
    omega
/-- nothing carried yet -/
theorem cert_zero {a b u c : Nat → Int} {D0 : Int} (hc : ∀ w, w < 25 → D0 ≤ c w) : CertN a b u c (fun _ => 0) (fun v => if v < 5 then 0 else D0) D0 := by
  have hr : ∀ i, rowS (fun _ => 0) i = 0 := fun i => sm_zero 5
  have hcl : ∀ i, colS (fun _ => 0) i = 0 := fun i => sm_zero 5
  refine ⟨fun i j hi hj h => ?_, fun i j hi hj h => (Int.lt_irrefl 0 h).elim, fun i hi h => by simp [hi], fun i hi h => by simp [hi], fun j hj h => by simp; omega, fun j hj h => by simp; omega⟩
  have := hc (5 * i + j) (by omega)
  show (if 5 + j < 5 then 0 else D0) ≤ (if i < 5 then 0 else D0) + c (5 * i + j)
  rw [if_neg (by omega), if_pos hi]; omega
