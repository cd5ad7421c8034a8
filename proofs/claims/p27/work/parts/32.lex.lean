/-! A plan that is best by ranks is, of all that cost least, the one with the most on the first ways. -/
/-- walks are written from their end: the arc goes from the second to the first -/
def rwk (E : Nat → Nat → Prop) : List Nat → Prop
  | [] => True
  | [_] => True
  | y :: x :: l => E x y ∧ rwk E (x :: l)
def rwl (g : Nat → Nat → Int) : List Nat → Int
  | [] => 0
  | [_] => 0
  | y :: x :: l => g x y + rwl g (x :: l)
theorem rwl_split (g : Nat → Nat → Int) (v : Nat) (s : List Nat) : ∀ p : List Nat, rwl g (p ++ v :: s) = rwl g (p ++ [v]) + rwl g (v :: s)
  | [] => by simp [rwl]
  | [a] => by simp [rwl]
  | a :: b :: p => by
    have h := rwl_split g v s (b :: p)
    simp only [List.cons_append, rwl] at h ⊢
    omega
theorem rwk_split {E : Nat → Nat → Prop} {v : Nat} {s : List Nat} : ∀ {p : List Nat}, rwk E (p ++ v :: s) → rwk E (p ++ [v]) ∧ rwk E (v :: s)
  | [], h => ⟨trivial, h⟩
  | [a], h => ⟨⟨h.1, trivial⟩, h.2⟩
  | a :: b :: p, h => by
    have h1 := rwk_split (p := b :: p) h.2
    exact ⟨⟨h.1, h1.1⟩, h1.2⟩
theorem rwl_low {g : Nat → Nat → Int} {B : Int} (hB : ∀ x y, -B ≤ g x y) (h0 : 0 ≤ B) : ∀ l : List Nat, - B * (l.length : Int) ≤ rwl g l
  | [] => by simp [rwl]
  | [_] => by simp [rwl]; omega
  | y :: x :: l => by
    have h := rwl_low hB h0 (x :: l)
    have h1 := hB x y
    simp only [rwl, List.length_cons, Int.natCast_add, Int.mul_add] at h ⊢
    omega
theorem nodup_len : ∀ (n : Nat) (l : List Nat), l.Nodup → (∀ x ∈ l, x < n) → l.length ≤ n := by
  intro n
  induction n with
  | zero =>
    intro l _ h
    cases l with
    | nil => exact Nat.le_refl _
    | cons a l => exact absurd (h a List.mem_cons_self) (by omega)
  | succ n ih =>
    intro l hd h
    by_cases hn : n ∈ l
    · have h1 := ih (l.erase n) (hd.erase n) (fun x hx => by
        rw [hd.mem_erase_iff] at hx
        have := h x hx.2
        have h2 := hx.1
        omega)
      rw [List.length_erase_of_mem hn] at h1
      omega
    · have h1 := ih l hd (fun x hx => by
        have := h x hx
        have : x ≠ n := fun e => hn (e ▸ hx)
        omega)
      omega
/-- if no simple closed walk is below 0, there are potentials -/
theorem pots_exist {E : Nat → Nat → Prop} {g : Nat → Nat → Int} {B : Int} (hB : ∀ x y, -B ≤ g x y) (h0 : 0 ≤ B) (hE : ∀ x y, E x y → x < 11 ∧ y < 11)
    (hcyc : ∀ (v : Nat) (p : List Nat), (v :: p).Nodup → rwk E (v :: p ++ [v]) → 0 ≤ rwl g (v :: p ++ [v])) : ∃ π : Nat → Int, ∀ x y, E x y → π y ≤ π x + g x y := by
  let P : Nat → Nat → Prop := fun v k => ∃ s : List Nat, (v :: s).Nodup ∧ (∀ x ∈ v :: s, x < 11) ∧ rwk E (v :: s) ∧ rwl g (v :: s) + 11 * B = (k : Int)
  have hlow : ∀ (v : Nat) (s : List Nat), (v :: s).Nodup → (∀ x ∈ v :: s, x < 11) → 0 ≤ rwl g (v :: s) + 11 * B := by
    intro v s h1 h2
    have h3 := rwl_low hB h0 (v :: s)
    have h4 := nodup_len 11 _ h1 h2
    have h5 : B * ((v :: s).length : Int) ≤ B * 11 := Int.mul_le_mul_of_nonneg_left (by omega) h0
    rw [Int.neg_mul] at h3
    omega
  have hex : ∀ v, v < 11 → ∃ k, P v k ∧ ∀ j, j < k → ¬ P v j := by
    intro v hv
    refine pk_least _ ⟨(11 * B).toNat, [], by simp, by simp; omega, trivial, ?_⟩
    simp [rwl]; omega
  have hch : ∀ v, ∃ k : Nat, v < 11 → P v k ∧ ∀ j, j < k → ¬ P v j := by
    intro v
    by_cases hv : v < 11
    · obtain ⟨k, hk⟩ := hex v hv
      exact ⟨k, fun _ => hk⟩
    · exact ⟨0, fun h => absurd h hv⟩
  obtain ⟨kf, hkf⟩ : ∃ kf : Nat → Nat, ∀ v, v < 11 → P v (kf v) ∧ ∀ j, j < kf v → ¬ P v j := ⟨fun v => Classical.choose (hch v), fun v => Classical.choose_spec (hch v)⟩
  refine ⟨fun v => (kf v : Int), fun x y hxy => ?_⟩
  show (kf y : Int) ≤ (kf x : Int) + g x y
  obtain ⟨hx, hy⟩ := hE x y hxy
  obtain ⟨⟨s, d1, d2, d3, d4⟩, -⟩ := hkf x hx
  obtain ⟨-, hmin⟩ := hkf y hy
  have key : ∀ s' : List Nat, (y :: s').Nodup → (∀ z ∈ y :: s', z < 11) → rwk E (y :: s') → rwl g (y :: s') ≤ rwl g (x :: s) + g x y → (kf y : Int) ≤ (kf x : Int) + g x y := by
    intro s' e1 e2 e3 e4
    have e5 := hlow y s' e1 e2
    rcases Nat.lt_or_ge (rwl g (y :: s') + 11 * B).toNat (kf y) with h | h
    · exact absurd ⟨s', e1, e2, e3, by omega⟩ (hmin _ h)
    · omega
  by_cases hm : y ∈ x :: s
  · obtain ⟨p, s', e⟩ := List.append_of_mem hm
    rw [e] at d1 d2 d3
    have n1 : (y :: s').Nodup := (List.nodup_append.mp d1).2.1
    have n2 : (y :: p).Nodup := by
      obtain ⟨a1, a2, a3⟩ := List.nodup_append.mp d1
      exact List.nodup_cons.mpr ⟨fun hp => a3 y hp y List.mem_cons_self rfl, a1⟩
    have w := rwk_split d3
    cases p with
    | nil =>
      have hxy' : x = y := by
        have := e
        simp at this
        exact this.1
      have ess : s = s' := by
        have := e
        simp at this
        exact this.2
      subst ess
      refine key s n1 (fun z hz => d2 z (by simpa using hz)) w.2 ?_
      have hc := hcyc y [] (by simp) ⟨by rw [← hxy'] at hxy ⊢; exact hxy, trivial⟩
      simp only [List.nil_append, List.cons_append, rwl] at hc
      rw [hxy']
      omega
    | cons a p =>
      have ha : a = x := by
        have := e
        simp at this
        exact this.1.symm
      subst ha
      have hc := hcyc y (a :: p) n2 ⟨hxy, w.1⟩
      have hsp := rwl_split g y s' (a :: p)
      have e' : rwl g (a :: s) = rwl g (a :: p ++ y :: s') := by rw [e]
      refine key s' n1 (fun z hz => d2 z (List.mem_append_right _ hz)) w.2 ?_
      simp only [List.cons_append, rwl] at hc hsp e' ⊢
      omega
  · refine key (x :: s) (List.nodup_cons.mpr ⟨hm, d1⟩) (fun z hz => ?_) ⟨hxy, d3⟩ ?_
    · rcases List.mem_cons.mp hz with rfl | hz
      · exact hy
      · exact d2 z hz
    · simp only [rwl]; omega
theorem rwk_tel {E : Nat → Nat → Prop} {g : Nat → Nat → Int} {π : Nat → Int} (hπ : ∀ x y, E x y → π y ≤ π x + g x y) (e : Nat) : ∀ (y : Nat) (l : List Nat), rwk E (y :: l ++ [e]) → π y ≤ π e + rwl g (y :: l ++ [e])
  | y, [], h => by
    have := hπ e y h.1
    simp only [List.cons_append, List.nil_append, rwl]
    omega
  | y, x :: l, h => by
    have h1 := hπ x y h.1
    have h2 := rwk_tel hπ e x l h.2
    simp only [List.cons_append, rwl] at h2 ⊢
    omega
/-- the weight of an arc among 5 heaps, 5 holes and the outside, by the weights κ of the ways -/
def wt (κ : Nat → Int) (T : Int) (x y : Nat) : Int :=
  if x < 5 ∧ 5 ≤ y ∧ y < 10 then κ (5 * x + (y - 5)) else if y < 5 ∧ 5 ≤ x ∧ x < 10 then - κ (5 * y + (x - 5)) else if 5 ≤ x ∧ x < 10 ∧ y = 10 then - T else if x = 10 ∧ 5 ≤ y ∧ y < 10 then T else 0
def EO (a b u f : Nat → Int) (x y : Nat) : Prop :=
  (∃ i j, i < 5 ∧ j < 5 ∧ x = i ∧ y = 5 + j ∧ f (5 * i + j) < u (5 * i + j)) ∨ (∃ i j, i < 5 ∧ j < 5 ∧ x = 5 + j ∧ y = i ∧ 0 < f (5 * i + j)) ∨
  (∃ i, i < 5 ∧ x = 10 ∧ y = i ∧ rowS f i < a i) ∨ (∃ i, i < 5 ∧ x = i ∧ y = 10 ∧ 0 < rowS f i) ∨ (∃ j, j < 5 ∧ x = 5 + j ∧ y = 10 ∧ colS f j < b j) ∨ ∃ j, j < 5 ∧ x = 10 ∧ y = 5 + j ∧ 0 < colS f j
theorem wt_fwd {κ : Nat → Int} {T : Int} {i j : Nat} (hi : i < 5) (hj : j < 5) : wt κ T i (5 + j) = κ (5 * i + j) := by
  unfold wt
  rw [if_pos (by omega), show 5 + j - 5 = j by omega]
theorem wt_bwd {κ : Nat → Int} {T : Int} {i j : Nat} (hi : i < 5) (hj : j < 5) : wt κ T (5 + j) i = - κ (5 * i + j) := by
  unfold wt
  rw [if_neg (by omega), if_pos (by omega), show 5 + j - 5 = j by omega]
theorem wt_oi {κ : Nat → Int} {T : Int} {i : Nat} (hi : i < 5) : wt κ T 10 i = 0 := by
  unfold wt
  rw [if_neg (by omega), if_neg (by omega), if_neg (by omega), if_neg (by omega)]
theorem wt_io {κ : Nat → Int} {T : Int} {i : Nat} (hi : i < 5) : wt κ T i 10 = 0 := by
  unfold wt
  rw [if_neg (by omega), if_neg (by omega), if_neg (by omega), if_neg (by omega)]
theorem wt_jo {κ : Nat → Int} {T : Int} {j : Nat} (hj : j < 5) : wt κ T (5 + j) 10 = - T := by
  unfold wt
  rw [if_neg (by omega), if_neg (by omega), if_pos (by omega)]
theorem wt_oj {κ : Nat → Int} {T : Int} {j : Nat} (hj : j < 5) : wt κ T 10 (5 + j) = T := by
  unfold wt
  rw [if_neg (by omega), if_neg (by omega), if_neg (by omega), if_pos (by omega)]
def potOf (p q : Nat → Int) (x : Nat) : Int := if x < 5 then p x else if x < 10 then q (x - 5) else 0
theorem potOf_i {p q : Nat → Int} {i : Nat} (h : i < 5) : potOf p q i = p i := if_pos h
theorem potOf_j {p q : Nat → Int} {j : Nat} (h : j < 5) : potOf p q (5 + j) = q j := by
  unfold potOf
  rw [if_neg (by omega), if_pos (by omega), show 5 + j - 5 = j by omega]
theorem potOf_o {p q : Nat → Int} : potOf p q 10 = 0 := rfl
theorem cert_pots {a b u c f p q : Nat → Int} {T : Int} (hC : Cert a b u c f p q T) : ∃ π : Nat → Int, ∀ x y, EO a b u f x y → π y ≤ π x + wt c T x y := by
  obtain ⟨c1, c2, c3, c4, c5, c6⟩ := hC
  refine ⟨potOf p q, fun x y h => ?_⟩
  rcases h with ⟨i, j, hi, hj, rfl, rfl, h⟩ | ⟨i, j, hi, hj, rfl, rfl, h⟩ | ⟨i, hi, rfl, rfl, h⟩ | ⟨i, hi, rfl, rfl, h⟩ | ⟨j, hj, rfl, rfl, h⟩ | ⟨j, hj, rfl, rfl, h⟩
  · have := c1 _ j hi hj h
    rw [wt_fwd hi hj, potOf_i hi, potOf_j hj]; omega
  · have := c2 _ j hi hj h
    rw [wt_bwd hi hj, potOf_i hi, potOf_j hj]; omega
  · have := c3 _ hi h
    rw [wt_oi hi, potOf_i hi, potOf_o]; omega
  · have := c4 _ hi h
    rw [wt_io hi, potOf_i hi, potOf_o]; omega
  · have := c5 _ hj h
    rw [wt_jo hj, potOf_j hj, potOf_o]; omega
  · have := c6 _ hj h
    rw [wt_oj hj, potOf_j hj, potOf_o]; omega
theorem pots_cert {a b u c f π : Nat → Int} {T : Int} (hπ : ∀ x y, EO a b u f x y → π y ≤ π x + wt c T x y) : Cert a b u c f (fun i => π i - π 10) (fun j => π (5 + j) - π 10) T := by
  refine ⟨fun i j hi hj h => ?_, fun i j hi hj h => ?_, fun i hi h => ?_, fun i hi h => ?_, fun j hj h => ?_, fun j hj h => ?_⟩
  · have := hπ i (5 + j) (Or.inl ⟨i, j, hi, hj, rfl, rfl, h⟩)
    rw [wt_fwd hi hj] at this
    show π (5 + j) - π 10 ≤ π i - π 10 + c (5 * i + j); omega
  · have := hπ (5 + j) i (Or.inr (Or.inl ⟨i, j, hi, hj, rfl, rfl, h⟩))
    rw [wt_bwd hi hj] at this
    show π i - π 10 + c (5 * i + j) ≤ π (5 + j) - π 10; omega
  · have := hπ 10 i (Or.inr (Or.inr (Or.inl ⟨i, hi, rfl, rfl, h⟩)))
    rw [wt_oi hi] at this
    show π i - π 10 ≤ 0; omega
  · have := hπ i 10 (Or.inr (Or.inr (Or.inr (Or.inl ⟨i, hi, rfl, rfl, h⟩))))
    rw [wt_io hi] at this
    show 0 ≤ π i - π 10; omega
  · have := hπ (5 + j) 10 (Or.inr (Or.inr (Or.inr (Or.inr (Or.inl ⟨j, hj, rfl, rfl, h⟩)))))
    rw [wt_jo hj] at this
    show T ≤ π (5 + j) - π 10; omega
  · have := hπ 10 (5 + j) (Or.inr (Or.inr (Or.inr (Or.inr (Or.inr ⟨j, hj, rfl, rfl, h⟩)))))
    rw [wt_oj hj] at this
    show π (5 + j) - π 10 ≤ T; omega
/-- how often the arc from x to y stands in a walk -/
def pct (x y : Nat) : List Nat → Int
  | [] => 0
  | [_] => 0
  | y' :: x' :: l => (if x' = x ∧ y' = y then 1 else 0) + pct x y (x' :: l)
theorem pct_bd (x y e : Nat) : ∀ m : List Nat, m.Nodup → 0 ≤ pct x y (m ++ [e]) ∧ pct x y (m ++ [e]) ≤ if y ∈ m then 1 else 0
  | [], _ => by simp [pct]
  | [a], _ => by
    simp only [List.cons_append, List.nil_append, pct]
    by_cases h : e = x ∧ a = y
    · simp [h]
    · rw [if_neg h]; simp only [Int.add_zero]
      constructor
      · omega
      · split <;> omega
  | a :: b :: m, hd => by
    have ih := pct_bd x y e (b :: m) (List.nodup_cons.mp hd).2
    have hna := (List.nodup_cons.mp hd).1
    simp only [List.cons_append, pct] at ih ⊢
    by_cases h : b = x ∧ a = y
    · rw [if_pos h]
      obtain ⟨-, rfl⟩ := h
      rw [if_neg hna] at ih
      rw [if_pos List.mem_cons_self]
      omega
    · rw [if_neg h]
      have : (if y ∈ b :: m then (1 : Int) else 0) ≤ if y ∈ a :: b :: m then 1 else 0 := by
        by_cases h2 : y ∈ b :: m
        · rw [if_pos h2, if_pos (List.mem_cons_of_mem _ h2)]; exact Int.le_refl _
        · rw [if_neg h2]; split <;> omega
      omega
/-- a walk's count on the way w -/
def zw (l : List Nat) (w : Nat) : Int := pct (w / 5) (5 + w % 5) l - pct (5 + w % 5) (w / 5) l
theorem wt_one (β : Nat → Int) (x y : Nat) : wt β 0 x y = sm 25 (fun w => β w * ((if x = w / 5 ∧ y = 5 + w % 5 then 1 else 0) - (if x = 5 + w % 5 ∧ y = w / 5 then 1 else 0))) := by
  by_cases h1 : x < 5 ∧ 5 ≤ y ∧ y < 10
  · have e : sm 25 (fun w => β w * ((if x = w / 5 ∧ y = 5 + w % 5 then 1 else 0) - (if x = 5 + w % 5 ∧ y = w / 5 then 1 else 0))) = sm 25 (fun w => if w = 5 * x + (y - 5) then β (5 * x + (y - 5)) else 0) := sm_congr (fun w hw => by
      by_cases h : w = 5 * x + (y - 5)
      · rw [if_pos h, if_pos (by omega), if_neg (by omega), ← h]; omega
      · rw [if_neg h, if_neg (by omega), if_neg (by omega)]; omega)
    rw [e, sm_single _ _ _ (by omega)]
    unfold wt; rw [if_pos h1]
  · by_cases h2 : y < 5 ∧ 5 ≤ x ∧ x < 10
    · have e : sm 25 (fun w => β w * ((if x = w / 5 ∧ y = 5 + w % 5 then 1 else 0) - (if x = 5 + w % 5 ∧ y = w / 5 then 1 else 0))) = sm 25 (fun w => if w = 5 * y + (x - 5) then - β (5 * y + (x - 5)) else 0) := sm_congr (fun w hw => by
        by_cases h : w = 5 * y + (x - 5)
        · rw [if_pos h, if_neg (by omega), if_pos (by omega), ← h]; omega
        · rw [if_neg h, if_neg (by omega), if_neg (by omega)]; omega)
      rw [e, sm_single _ _ _ (by omega)]
      unfold wt; rw [if_neg h1, if_pos h2]
    · have e : sm 25 (fun w => β w * ((if x = w / 5 ∧ y = 5 + w % 5 then 1 else 0) - (if x = 5 + w % 5 ∧ y = w / 5 then 1 else 0))) = sm 25 (fun w => 0) := sm_congr (fun w hw => by
        rw [if_neg (by omega), if_neg (by omega)]; omega)
      rw [e, sm_zero]
      unfold wt; rw [if_neg h1, if_neg h2]
      split
      · rfl
      · split <;> rfl
theorem rwl_z (β : Nat → Int) : ∀ l : List Nat, rwl (wt β 0) l = sm 25 (fun w => β w * zw l w)
  | [] => by
    have : sm 25 (fun w => β w * zw [] w) = sm 25 (fun _ => 0) := sm_congr (fun w _ => by simp [zw, pct])
    rw [this, sm_zero]; rfl
  | [a] => by
    have : sm 25 (fun w => β w * zw [a] w) = sm 25 (fun _ => 0) := sm_congr (fun w _ => by simp [zw, pct])
    rw [this, sm_zero]; rfl
  | y :: x :: l => by
    have ih := rwl_z β (x :: l)
    simp only [rwl]
    rw [ih, wt_one, ← sm_add]
    refine sm_congr (fun w _ => ?_)
    rw [← Int.mul_add]
    congr 1
    simp only [zw, pct]
    omega
theorem rwl_lin (M : Int) (c β : Nat → Int) (T : Int) : ∀ l : List Nat, rwl (wt (fun w => M * c w - β w) (M * T)) l = M * rwl (wt c T) l - rwl (wt β 0) l
  | [] => by simp [rwl]
  | [_] => by simp [rwl]
  | y :: x :: l => by
    have ih := rwl_lin M c β T (x :: l)
    simp only [rwl]
    rw [ih, Int.mul_add]
    have : wt (fun w => M * c w - β w) (M * T) x y = M * wt c T x y - wt β 0 x y := by
      unfold wt
      split
      · rfl
      · split
        · rw [Int.mul_neg]; dsimp only; omega
        · split
          · rw [Int.mul_neg]; omega
          · split <;> omega
    omega
def hz (B : Int) (z : Nat → Int) : Nat → Int
  | 0 => 0
  | n + 1 => B * hz B z n + z n
theorem hz_sm (B : Int) (z : Nat → Int) : ∀ n, sm n (fun w => B ^ (n - 1 - w) * z w) = hz B z n
  | 0 => rfl
  | n + 1 => by
    simp only [sm, hz]
    rw [← hz_sm B z n, ← sm_mul]
    congr 1
    · refine sm_congr (fun w hw => ?_)
      rw [show n + 1 - 1 - w = (n - 1 - w) + 1 by omega, Int.pow_succ, Int.mul_comm (B ^ (n - 1 - w)) B, Int.mul_assoc]
    · rw [show n + 1 - 1 - n = 0 by omega]; simp
theorem hz_sign {z : Nat → Int} : ∀ n, (∀ w, w < n → -1 ≤ z w ∧ z w ≤ 1) → (0 < hz 2 z n ∧ 0 < hz 64 z n) ∨ (hz 2 z n = 0 ∧ hz 64 z n = 0) ∨ (hz 2 z n < 0 ∧ hz 64 z n < 0)
  | 0, _ => Or.inr (Or.inl ⟨rfl, rfl⟩)
  | n + 1, h => by
    have ih := hz_sign n (fun w hw => h w (by omega))
    have h1 := h n (by omega)
    simp only [hz]
    omega
theorem hz_bd {z : Nat → Int} {B t : Int} (hB : t + 1 ≤ B) (ht : 0 ≤ t) : ∀ n, (∀ w, w < n → -t ≤ z w ∧ z w ≤ t) → - (B ^ n) < hz B z n ∧ hz B z n < B ^ n
  | 0, _ => by simp [hz]
  | n + 1, h => by
    have ih := hz_bd hB ht n (fun w hw => h w (by omega))
    have h1 := h n (by omega)
    simp only [hz, Int.pow_succ]
    have e1 : B * hz B z n ≤ B * (B ^ n - 1) := Int.mul_le_mul_of_nonneg_left (by omega) (by omega)
    have e2 : B * (- (B ^ n - 1)) ≤ B * hz B z n := Int.mul_le_mul_of_nonneg_left (by omega) (by omega)
    rw [Int.mul_neg, Int.mul_sub] at e2
    rw [Int.mul_sub] at e1
    rw [Int.mul_comm (B ^ n) B]
    omega
theorem hz_first {z : Nat → Int} {w0 : Nat} (h0 : ∀ w, w < w0 → z w = 0) (h1 : 1 ≤ z w0) : ∀ n, w0 < n → (∀ w, w < n → -62 ≤ z w) → 1 ≤ hz 64 z n
  | 0, h, _ => absurd h (by omega)
  | n + 1, h, hb => by
    simp only [hz]
    by_cases hn : n = w0
    · subst hn
      have : ∀ k, k ≤ n → hz 64 z k = 0 := by
        intro k
        induction k with
        | zero => intro _; rfl
        | succ k ih => intro hk; simp only [hz, ih (by omega), h0 k (by omega)]; rfl
      rw [this n (Nat.le_refl _)]
      omega
    · have ih := hz_first h0 h1 n (by omega) (fun w hw => hb w (by omega))
      have := hb n (by omega)
      omega
/-- THE RANKS: f best by the ranks 2^25 c - 2^(24 - w) costs least, and of what costs least has the most on the first ways -/
theorem lex_opt {a b u c f p q : Nat → Int} {T Cb : Int} (hC : Cert a b u (fun w => 2 ^ 25 * c w - 2 ^ (24 - w)) f p q (2 ^ 25 * T)) (hf : Fea a b u f) (hu : ∀ w, w < 25 → u w ≤ 62) (hcb : ∀ w, w < 25 → -Cb ≤ c w ∧ c w ≤ Cb) (hT : 0 ≤ T ∧ T ≤ Cb) {g : Nat → Int} (hg : Fea a b u g) :
    tot (fun w => (c w - T) * f w) ≤ tot (fun w => (c w - T) * g w) ∧ (tot (fun w => (c w - T) * f w) = tot (fun w => (c w - T) * g w) → ∀ w0, w0 < 25 → (∀ w, w < w0 → g w = f w) → g w0 ≤ f w0) := by
  obtain ⟨π, hπ⟩ := cert_pots hC
  have hE : ∀ x y, EO a b u f x y → x < 11 ∧ y < 11 := by
    intro x y h
    rcases h with ⟨i, j, hi, hj, rfl, rfl, h⟩ | ⟨i, j, hi, hj, rfl, rfl, h⟩ | ⟨i, hi, rfl, rfl, h⟩ | ⟨i, hi, rfl, rfl, h⟩ | ⟨j, hj, rfl, rfl, h⟩ | ⟨j, hj, rfl, rfl, h⟩ <;> omega
  have hcyc : ∀ (v : Nat) (p : List Nat), (v :: p).Nodup → rwk (EO a b u f) (v :: p ++ [v]) → 0 ≤ rwl (wt (fun w => 64 ^ 25 * c w - 64 ^ (24 - w)) (64 ^ 25 * T)) (v :: p ++ [v]) := by
    intro v p hd hw
    have h1 := rwk_tel hπ v v p hw
    rw [rwl_lin, rwl_z] at h1
    rw [rwl_lin, rwl_z]
    have hz1 : ∀ w, w < 25 → -1 ≤ zw (v :: p ++ [v]) w ∧ zw (v :: p ++ [v]) w ≤ 1 := by
      intro w _
      have k1 := pct_bd (w / 5) (5 + w % 5) v (v :: p) hd
      have k2 := pct_bd (5 + w % 5) (w / 5) v (v :: p) hd
      have k3 : (if 5 + w % 5 ∈ v :: p then (1 : Int) else 0) ≤ 1 := by split <;> omega
      have k4 : (if w / 5 ∈ v :: p then (1 : Int) else 0) ≤ 1 := by split <;> omega
      unfold zw
      omega
    have e2 := hz_sm 2 (zw (v :: p ++ [v])) 25
    have e64 := hz_sm 64 (zw (v :: p ++ [v])) 25
    have hs := hz_sign 25 hz1
    have b2 := hz_bd (B := 2) (t := 1) (by omega) (by omega) 25 hz1
    have b64 := hz_bd (B := 64) (t := 1) (by omega) (by omega) 25 hz1
    simp only [show (25 : Nat) - 1 = 24 from rfl] at e2 e64
    rw [e2] at h1
    rw [e64]
    generalize rwl (wt c T) (v :: p ++ [v]) = Cc at h1 ⊢
    generalize hz 2 (zw (v :: p ++ [v])) 25 = z2 at *
    generalize hz 64 (zw (v :: p ++ [v])) 25 = z64 at *
    omega
  obtain ⟨π', hπ'⟩ := pots_exist (B := 64 ^ 25 * Cb + 64 ^ 25) (g := wt (fun w => 64 ^ 25 * c w - 64 ^ (24 - w)) (64 ^ 25 * T)) (fun x y => by
    have hb : ∀ w, w < 25 → (0 : Int) ≤ 64 ^ (24 - w) ∧ (64 : Int) ^ (24 - w) ≤ 64 ^ 25 := by
      intro w hw
      refine ⟨Int.le_of_lt (Int.pow_pos (by omega)), ?_⟩
      exact_mod_cast Nat.pow_le_pow_right (n := 64) (by omega) (show 24 - w ≤ 25 by omega)
    unfold wt
    split
    · rename_i h
      have h1 := hb (5 * x + (y - 5)) (by omega)
      have h2 := hcb (5 * x + (y - 5)) (by omega)
      dsimp only
      omega
    · split
      · rename_i h
        have h1 := hb (5 * y + (x - 5)) (by omega)
        have h2 := hcb (5 * y + (x - 5)) (by omega)
        dsimp only
        omega
      · split
        · omega
        · split <;> omega) (by omega) hE hcyc
  have hopt := cert_opt hf hg (pots_cert hπ')
  have hd : ∀ w, w < 25 → -62 ≤ g w - f w ∧ g w - f w ≤ 62 := by
    intro w hw
    have h1 := hf.1 w hw
    have h2 := hg.1 w hw
    have h3 := hu w hw
    omega
  have key : tot (fun w => (64 ^ 25 * c w - 64 ^ (24 - w) - 64 ^ 25 * T) * g w) - tot (fun w => (64 ^ 25 * c w - 64 ^ (24 - w) - 64 ^ 25 * T) * f w) = 64 ^ 25 * (tot (fun w => (c w - T) * g w) - tot (fun w => (c w - T) * f w)) - tot (fun w => 64 ^ (24 - w) * (g w - f w)) := by
    unfold tot
    simp only [← sm_sub, ← sm_mul]
    refine sm_congr (fun i _ => sm_congr (fun j _ => ?_))
    simp only [Int.sub_mul, Int.mul_sub, Int.mul_assoc]
    omega
  have etot : tot (fun w => 64 ^ (24 - w) * (g w - f w)) = hz 64 (fun w => g w - f w) 25 := by
    rw [← hz_sm]
    simp only [tot, sm]
    simp only [Nat.mul_zero, Nat.mul_one, Nat.zero_add, Nat.add_zero, Nat.reduceMul, Nat.reduceAdd, Nat.reduceSub]
    omega
  have b64 := hz_bd (B := 64) (t := 62) (z := fun w => g w - f w) (by omega) (by omega) 25 hd
  rw [etot] at key
  refine ⟨?_, fun heq w0 hw0 hpre => ?_⟩
  · generalize hz 64 (fun w => g w - f w) 25 = Z at *
    generalize tot (fun w => (c w - T) * f w) = X at *
    generalize tot (fun w => (c w - T) * g w) = Y at *
    omega
  · rcases Int.lt_or_le (f w0) (g w0) with h | h
    · have h1 := hz_first (z := fun w => g w - f w) (w0 := w0) (fun w hw => by have := hpre w hw; show g w - f w = 0; omega) (by show 1 ≤ g w0 - f w0; omega) 25 hw0 (fun w hw => (hd w hw).1)
      rw [heq] at key
      generalize hz 64 (fun w => g w - f w) 25 = Z at *
      omega
    · exact h
