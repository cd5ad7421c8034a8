/-! Ints of the machine and whole numbers. -/
def inR (z : Int) : Prop := -2147483648 ≤ z ∧ z < 2147483648
def inRJ (z : Int) : Prop := -9223372036854775808 ≤ z ∧ z < 9223372036854775808
theorem bm32 {z : Int} (h : inR z) : z.bmod (2 ^ 32) = z := by
  obtain ⟨h1, h2⟩ := h
  rw [Int.bmod_def]
  split <;> omega
theorem bm64 {z : Int} (h : inRJ z) : z.bmod (2 ^ 64) = z := by
  obtain ⟨h1, h2⟩ := h
  rw [Int.bmod_def]
  split <;> omega
theorem tI_add {x y : Int32} (h : inR (x.toInt + y.toInt)) : (x + y).toInt = x.toInt + y.toInt := by
  rw [Int32.toInt_add]; exact bm32 h
theorem tI_sub {x y : Int32} (h : inR (x.toInt - y.toInt)) : (x - y).toInt = x.toInt - y.toInt := by
  rw [Int32.toInt_sub]; exact bm32 h
theorem tI_mul {x y : Int32} (h : inR (x.toInt * y.toInt)) : (x * y).toInt = x.toInt * y.toInt := by
  rw [Int32.toInt_mul]; exact bm32 h
theorem tI_neg {x : Int32} (h : inR (- x.toInt)) : (- x).toInt = - x.toInt := by
  rw [Int32.toInt_neg]; exact bm32 h
theorem tJ_add {x y : Int64} (h : inRJ (x.toInt + y.toInt)) : (x + y).toInt = x.toInt + y.toInt := by
  rw [Int64.toInt_add]; exact bm64 h
theorem tJ_sub {x y : Int64} (h : inRJ (x.toInt - y.toInt)) : (x - y).toInt = x.toInt - y.toInt := by
  rw [Int64.toInt_sub]; exact bm64 h
theorem tI_rng (x : Int32) : inR x.toInt := ⟨Int32.le_toInt x, Int32.toInt_lt x⟩
theorem tJ_rng (x : Int64) : inRJ x.toInt := ⟨Int64.le_toInt x, Int64.toInt_lt x⟩
theorem leI {x y : Int32} : x ≤ y ↔ x.toInt ≤ y.toInt := Int32.le_iff_toInt_le
theorem ltI' {x y : Int32} : x < y ↔ x.toInt < y.toInt := Int32.lt_iff_toInt_lt
theorem eqI {x y : Int32} : x = y ↔ x.toInt = y.toInt := Int32.toInt_inj.symm
theorem cmp_ge (x y : Int64) : 0 ≤ lg_cmp x y ↔ y.toInt ≤ x.toInt := by
  rw [lg_cmp_ge, Int64.le_iff_toInt_le]
theorem i2l_t (x : Int32) : x.toInt64.toInt = x.toInt := Int32.toInt_toInt64 x
theorem nI_t {n : Nat} (h : n < 2147483648) : (nI n).toInt = (n : Int) := nI_toInt h
theorem ix_n {n : Nat} (h : n < 2147483648) : ix (nI n) = n := nI_clamp h
theorem ix_of {x : Int32} {n : Nat} (h : x.toInt = n) : ix x = n := by
  unfold ix
  show x.toInt.toNat = n
  rw [h]; rfl
theorem inb_of {x : Int32} {n N : Nat} (h : x.toInt = n) (hn : n < N) : inb x N = true := by
  unfold inb
  rw [h]
  simp
  omega
theorem inb_n {n N : Nat} (hn : n < N) (hN : N < 2147483648) : inb (nI n) N = true := inb_of (nI_t (by omega)) hn
theorem grd_t {α : Type} (x : Option α) : grd true x = x := rfl
theorem bnd_s {α β : Type} (v : α) (σ : Mem) (f : α → Mem → Option β) : bnd (some (v, σ)) f = f v σ := rfl
theorem bndX_l {α β : Type} (v : α) (σ : Mem) (f : α → Mem → Option (Sum β Nat × Mem)) : bndX (some (Sum.inl v, σ)) f = f v σ := rfl
theorem bndX_r {α β : Type} (n : Nat) (σ : Mem) (f : α → Mem → Option (Sum β Nat × Mem)) : bndX (some (Sum.inr n, σ)) f = some (Sum.inr n, σ) := rfl
theorem nI_eqI (x : Int32) {n : Nat} (h : x.toInt = n) : x = nI n := by
  rw [eqI, h, nI_t]
  have := (tI_rng x).2
  omega
theorem nI_div5 {n : Nat} (h : n < 2147483648) : nI n / 5 = nI (n / 5) := pk_div (a := n) (d := 5) h (by omega) (by omega)
theorem nI_mod5 {n : Nat} (h : n < 2147483648) : nI n - nI n / 5 * 5 = nI (n % 5) := pk_rem (a := n) (d := 5) h (by omega) (by omega)
theorem nI_way (i j : Nat) : nI i * 5 + nI j = nI (5 * i + j) := by
  show nI i * nI 5 + nI j = _
  rw [pk_mul, nI_add, Nat.mul_comm]
theorem nI_neg1 {n : Nat} (h : n < 2147483648) : nI n ≠ -1 := by
  intro e
  have h1 := nI_t h
  rw [e] at h1
  have : ((-1 : Int32)).toInt = -1 := by decide
  omega
/-! the memory, read as whole numbers -/
def vI (σ : Mem) (k i : Nat) : Int := (rI σ k i).toInt
def vJ (σ : Mem) (k i : Nat) : Int := (rJ σ k i).toInt
theorem rI_w (σ : Mem) (k i : Nat) (v : Int32) (k' i' : Nat) : rI (wI σ k i v) k' i' = if k' = k ∧ i' = i then v else rI σ k' i' := by
  unfold rI wI
  by_cases h : k' = k
  · subst h
    by_cases h2 : i' = i
    · subst h2; simp [upd]
    · simp [upd, h2]
  · simp [h]
theorem rJ_w (σ : Mem) (k i : Nat) (v : Int64) (k' i' : Nat) : rJ (wJ σ k i v) k' i' = if k' = k ∧ i' = i then v else rJ σ k' i' := by
  unfold rJ wJ
  by_cases h : k' = k
  · subst h
    by_cases h2 : i' = i
    · subst h2; simp [vp_updL]
    · simp [vp_updL, h2]
  · simp [h]
theorem rI_wJ (σ : Mem) (k i : Nat) (v : Int64) (k' i' : Nat) : rI (wJ σ k i v) k' i' = rI σ k' i' := rfl
theorem rJ_wI (σ : Mem) (k i : Nat) (v : Int32) (k' i' : Nat) : rJ (wI σ k i v) k' i' = rJ σ k' i' := rfl
theorem vI_w (σ : Mem) (k i : Nat) (v : Int32) (k' i' : Nat) : vI (wI σ k i v) k' i' = if k' = k ∧ i' = i then v.toInt else vI σ k' i' := by
  unfold vI; rw [rI_w]; split <;> rfl
theorem vJ_w (σ : Mem) (k i : Nat) (v : Int64) (k' i' : Nat) : vJ (wJ σ k i v) k' i' = if k' = k ∧ i' = i then v.toInt else vJ σ k' i' := by
  unfold vJ; rw [rJ_w]; split <;> rfl
theorem vI_wJ (σ : Mem) (k i : Nat) (v : Int64) (k' i' : Nat) : vI (wJ σ k i v) k' i' = vI σ k' i' := rfl
theorem vJ_wI (σ : Mem) (k i : Nat) (v : Int32) (k' i' : Nat) : vJ (wI σ k i v) k' i' = vJ σ k' i' := rfl
/-- an array filled -/
def fillI (σ : Mem) (k : Nat) (v : Int32) (n : Nat) : Mem := (fun a => if a = k then (fun j => if j < n then v else σ.1 k j) else σ.1 a, σ.2)
def fillJ (σ : Mem) (k : Nat) (v : Int64) (n : Nat) : Mem := (σ.1, fun a => if a = k then (fun j => if j < n then v else σ.2 k j) else σ.2 a)
theorem rI_f (σ : Mem) (k : Nat) (v : Int32) (n k' i' : Nat) : rI (fillI σ k v n) k' i' = if k' = k ∧ i' < n then v else rI σ k' i' := by
  unfold rI fillI
  by_cases h : k' = k
  · subst h
    by_cases h2 : i' < n <;> simp [h2]
  · simp [h]
theorem rJ_f (σ : Mem) (k : Nat) (v : Int64) (n k' i' : Nat) : rJ (fillJ σ k v n) k' i' = if k' = k ∧ i' < n then v else rJ σ k' i' := by
  unfold rJ fillJ
  by_cases h : k' = k
  · subst h
    by_cases h2 : i' < n <;> simp [h2]
  · simp [h]
theorem rI_fJ (σ : Mem) (k : Nat) (v : Int64) (n k' i' : Nat) : rI (fillJ σ k v n) k' i' = rI σ k' i' := rfl
theorem rJ_fI (σ : Mem) (k : Nat) (v : Int32) (n k' i' : Nat) : rJ (fillI σ k v n) k' i' = rJ σ k' i' := rfl
theorem fillI_0 (σ : Mem) (k : Nat) (v : Int32) : fillI σ k v 0 = σ := by
  unfold fillI
  ext a j
  · simp
    split
    · rename_i h; rw [h]
    · rfl
  · rfl
theorem fillI_s (σ : Mem) (k : Nat) (v : Int32) (n : Nat) : wI (fillI σ k v n) k n v = fillI σ k v (n + 1) := by
  unfold fillI wI
  ext a j
  · simp only
    by_cases h : a = k
    · subst h
      simp only [if_true, upd]
      by_cases h1 : j = n
      · subst h1; simp
      · rw [if_neg h1]
        by_cases h2 : j < n
        · rw [if_pos h2, if_pos (by omega)]
        · rw [if_neg h2, if_neg (by omega)]
    · simp [h]
  · rfl
theorem fillJ_0 (σ : Mem) (k : Nat) (v : Int64) : fillJ σ k v 0 = σ := by
  unfold fillJ
  ext a j
  · rfl
  · simp
    split
    · rename_i h; rw [h]
    · rfl
theorem fillJ_s (σ : Mem) (k : Nat) (v : Int64) (n : Nat) : wJ (fillJ σ k v n) k n v = fillJ σ k v (n + 1) := by
  unfold fillJ wJ
  ext a j
  · rfl
  · simp only
    by_cases h : a = k
    · subst h
      simp only [if_true, vp_updL]
      by_cases h1 : j = n
      · subst h1; simp
      · rw [if_neg h1]
        by_cases h2 : j < n
        · rw [if_pos h2, if_pos (by omega)]
        · rw [if_neg h2, if_neg (by omega)]
    · simp [h]
theorem fill_loop (k : Nat) (v : Int32) (σ : Mem) (hl : ln k < 1000) : ∀ (d n fu : Nat), n + d = ln k → d < fu → fJ7_fill_53178_5 fu k v (nI n) (nI (ln k)) (fillI σ k v n) = some (0, fillI σ k v (ln k)) := by
  intro d
  induction d with
  | zero =>
    intro n fu h1 h2
    obtain ⟨fu, rfl⟩ : ∃ q, fu = q + 1 := ⟨fu - 1, by omega⟩
    show fJ7_fill_53178_5b _ _ _ _ _ _ = _
    unfold fJ7_fill_53178_5b
    have : n = ln k := by omega
    subst this
    rw [if_pos (leI.mpr (Int.le_refl _))]
  | succ d ih =>
    intro n fu h1 h2
    obtain ⟨fu, rfl⟩ : ∃ q, fu = q + 1 := ⟨fu - 1, by omega⟩
    show fJ7_fill_53178_5b _ _ _ _ _ _ = _
    unfold fJ7_fill_53178_5b
    rw [if_neg (by rw [leI, nI_t (by omega), nI_t (by omega)]; omega), inb_n (by omega) (by omega), grd_t]
    unfold ltM
    rw [ix_n (by omega), fillI_s, nI_1]
    exact ih (n + 1) fu (by omega) (by omega)
theorem s_fill {k : Nat} {v : Int32} {σ : Mem} (hl : ln k < 1000) : fJ7_fill_53178 k v σ = some (0, fillI σ k v (ln k)) := by
  unfold fJ7_fill_53178 fJ7_fill_53178_e ltI
  have h := fill_loop k v σ hl (ln k) 0 FU (by omega) (by unfold FU; omega)
  rw [fillI_0] at h
  exact h
theorem fillJ_loop (k : Nat) (v : Int64) (σ : Mem) (hl : ln k < 1000) : ∀ (d n fu : Nat), n + d = ln k → d < fu → fJ7_fill_d0a16_6 fu k v (nI n) (nI (ln k)) (fillJ σ k v n) = some (0, fillJ σ k v (ln k)) := by
  intro d
  induction d with
  | zero =>
    intro n fu h1 h2
    obtain ⟨fu, rfl⟩ : ∃ q, fu = q + 1 := ⟨fu - 1, by omega⟩
    show fJ7_fill_d0a16_6b _ _ _ _ _ _ = _
    unfold fJ7_fill_d0a16_6b
    have : n = ln k := by omega
    subst this
    rw [if_pos (leI.mpr (Int.le_refl _))]
  | succ d ih =>
    intro n fu h1 h2
    obtain ⟨fu, rfl⟩ : ∃ q, fu = q + 1 := ⟨fu - 1, by omega⟩
    show fJ7_fill_d0a16_6b _ _ _ _ _ _ = _
    unfold fJ7_fill_d0a16_6b
    rw [if_neg (by rw [leI, nI_t (by omega), nI_t (by omega)]; omega), inb_n (by omega) (by omega), grd_t]
    unfold ltM
    rw [ix_n (by omega), fillJ_s, nI_1]
    exact ih (n + 1) fu (by omega) (by omega)
theorem s_fillJ {k : Nat} {v : Int64} {σ : Mem} (hl : ln k < 1000) : fJ7_fill_d0a16 k v σ = some (0, fillJ σ k v (ln k)) := by
  unfold fJ7_fill_d0a16 fJ7_fill_d0a16_e ltI
  have h := fillJ_loop k v σ hl (ln k) 0 FU (by omega) (by unfold FU; omega)
  rw [fillJ_0] at h
  exact h
theorem s_wayOf (i j : Nat) (σ : Mem) : fX2_wayOf (nI i) (nI j) σ = some (nI (5 * i + j), σ) := by
  unfold fX2_wayOf fX2_wayOf_e
  rw [nI_way]
