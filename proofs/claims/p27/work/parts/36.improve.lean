/-! The carrier's plan: the nearest hole, what a path bears, carrying along it, the best plan. -/
theorem shl25 (x : Int32) (h0 : 0 ≤ x.toInt) (h1 : x.toInt ≤ 1000000) : (x.toInt64 <<< ((25 : Int32).toInt64 &&& 63)).toInt = 2 ^ 25 * x.toInt := by
  have e : x.toInt64 <<< ((25 : Int32).toInt64 &&& 63) = x.toInt64 * 33554432 := by
    apply Int64.toBitVec_inj.mp
    rw [Int64.toBitVec_shiftLeft, Int64.toBitVec_mul]
    have : (((25 : Int32).toInt64 &&& 63).toBitVec.smod 64) = 25#64 := by decide
    rw [this]
    have h2 : (33554432 : Int64).toBitVec = 33554432#64 := by decide
    rw [h2]
    apply BitVec.eq_of_toNat_eq
    rw [BitVec.toNat_mul]
    show (x.toInt64.toBitVec <<< (25#64).toNat).toNat = _
    rw [BitVec.toNat_shiftLeft, Nat.shiftLeft_eq]
    rfl
  rw [e, Int64.toInt_mul, i2l_t]
  have : ((33554432 : Int64)).toInt = 33554432 := by decide
  rw [this]
  have h2 : inRJ (x.toInt * 33554432) := by unfold inRJ; omega
  rw [bm64 h2]
  omega
section NEAR
variable {b : Nat} {a u cn f φ : Nat → Int}
/-- the nearest hole that lacks, if one is nearer than T -/
def NEAR (b : Nat) (σ : Mem) (T : Int) (r : Int32) : Prop :=
  (r = -1 ∧ ∀ j, j < 5 → 0 < vI σ (b + 2) j → T ≤ vJ σ (b + 8) j) ∨ ∃ j0, j0 < 5 ∧ r = nI j0 ∧ 0 < vI σ (b + 2) j0 ∧ vJ σ (b + 8) j0 < T ∧ ∀ j, j < 5 → 0 < vI σ (b + 2) j → vJ σ (b + 8) j0 ≤ vJ σ (b + 8) j
theorem nh_loop {σ : Mem} {T : Int} : ∀ (d n fu : Nat) (r : Int32) (best : Int64), n + d = 5 → d < fu →
    ((r = -1 ∧ best.toInt = T ∧ ∀ j, j < n → 0 < vI σ (b + 2) j → T ≤ vJ σ (b + 8) j) ∨ ∃ j0, j0 < 5 ∧ r = nI j0 ∧ 0 < vI σ (b + 2) j0 ∧ best.toInt = vJ σ (b + 8) j0 ∧ vJ σ (b + 8) j0 < T ∧ ∀ j, j < n → 0 < vI σ (b + 2) j → vJ σ (b + 8) j0 ≤ vJ σ (b + 8) j) →
    ∃ r', fX0_nearestHole_19 fu b r best (nI n) σ = some (r', σ) ∧ NEAR b σ T r' := by
  intro d
  induction d with
  | zero =>
    intro n fu r best h1 h2 hI
    obtain ⟨fu, rfl⟩ : ∃ q, fu = q + 1 := ⟨fu - 1, by omega⟩
    have : n = 5 := by omega
    subst this
    refine ⟨r, ?_, ?_⟩
    · show fX0_nearestHole_19b _ _ _ _ _ _ = _
      unfold fX0_nearestHole_19b
      rw [if_pos (by decide)]
    · rcases hI with ⟨e1, -, e2⟩ | ⟨j0, q1, q2, q3, -, q4, q5⟩
      · exact Or.inl ⟨e1, e2⟩
      · exact Or.inr ⟨j0, q1, q2, q3, q4, q5⟩
  | succ d ih =>
    intro n fu r best h1 h2 hI
    obtain ⟨fu, rfl⟩ : ∃ q, fu = q + 1 := ⟨fu - 1, by omega⟩
    show ∃ r', fX0_nearestHole_19b _ _ _ _ _ _ = _ ∧ _
    unfold fX0_nearestHole_19b fX0_nearestHole_58 ltJ
    rw [if_neg (by rw [leI, nI_t (by omega)]; have : ((5 : Int32)).toInt = 5 := by decide
                   omega), inb_n (by omega) (by omega)]
    simp only [grd_t, ix_n (show n < 2147483648 by omega), nI_1, cmp_ge]
    by_cases hl : rI σ (b + 2) n ≤ 0
    · rw [if_pos hl]
      rw [leI] at hl
      have hl : vI σ (b + 2) n ≤ 0 := hl
      refine ih (n + 1) fu r best (by omega) (by omega) ?_
      rcases hI with ⟨e1, e2, e3⟩ | ⟨j0, q1, q2, q3, q4, q5, q6⟩
      · exact Or.inl ⟨e1, e2, fun j hj h => by
          by_cases e : j = n
          · subst e; omega
          · exact e3 j (by omega) h⟩
      · exact Or.inr ⟨j0, q1, q2, q3, q4, q5, fun j hj h => by
          by_cases e : j = n
          · subst e; omega
          · exact q6 j (by omega) h⟩
    · rw [if_neg hl]
      rw [leI] at hl
      have hl : ¬ vI σ (b + 2) n ≤ 0 := hl
      by_cases hc : best.toInt ≤ (rJ σ (b + 8) n).toInt
      · rw [if_pos hc]
        have hc : best.toInt ≤ vJ σ (b + 8) n := hc
        refine ih (n + 1) fu r best (by omega) (by omega) ?_
        rcases hI with ⟨e1, e2, e3⟩ | ⟨j0, q1, q2, q3, q4, q5, q6⟩
        · exact Or.inl ⟨e1, e2, fun j hj h => by
            by_cases e : j = n
            · subst e; omega
            · exact e3 j (by omega) h⟩
        · exact Or.inr ⟨j0, q1, q2, q3, q4, q5, fun j hj h => by
            by_cases e : j = n
            · subst e; omega
            · exact q6 j (by omega) h⟩
      · rw [if_neg hc]
        have hc : ¬ best.toInt ≤ vJ σ (b + 8) n := hc
        refine ih (n + 1) fu _ _ (by omega) (by omega) (Or.inr ⟨n, by omega, rfl, by omega, rfl, ?_, ?_⟩)
        · rcases hI with ⟨e1, e2, e3⟩ | ⟨j0, q1, q2, q3, q4, q5, q6⟩ <;> omega
        · intro j hj h
          by_cases e : j = n
          · subst e; exact Int.le_refl _
          · rcases hI with ⟨e1, e2, e3⟩ | ⟨j0, q1, q2, q3, q4, q5, q6⟩
            · have := e3 j (by omega) h; omega
            · have := q6 j (by omega) h; omega
theorem s_nearestHole {σ : Mem} {lo mi : Int} (h1 : vI σ b 13 = lo) (h2 : vI σ b 14 = mi) (hlo : 0 ≤ lo ∧ lo ≤ 10000) (hmi : 0 ≤ mi ∧ mi ≤ 10000) : ∃ r, fX0_nearestHole b σ = some (r, σ) ∧ NEAR b σ (2 ^ 25 * (lo + mi)) r := by
  unfold fX0_nearestHole fX0_nearestHole_e ltJ
  have e : (rI σ b 13 + rI σ b 14).toInt = lo + mi := by
    unfold vI at h1 h2
    rw [tI_add (by rw [h1, h2]; unfold inR; omega), h1, h2]
  have e2 := shl25 (rI σ b 13 + rI σ b 14) (by omega) (by omega)
  rw [e] at e2
  exact nh_loop 5 0 FU (-1) _ (by omega) (by unfold FU; omega) (Or.inl ⟨rfl, e2, fun j h => absurd h (by omega)⟩)
/-- δ units can go along v's chain -/
def BEAR (b : Nat) (σ : Mem) (f u : Nat → Int) (v : Nat) (δ : Int) : Prop := ∀ y, onch (par b σ) v y →
  (∀ i j, i < 5 → j < 5 → y = 5 + j → par b σ y = some i → δ ≤ u (5 * i + j) - f (5 * i + j)) ∧ (∀ i j, i < 5 → j < 5 → y = i → par b σ y = some (5 + j) → δ ≤ f (5 * i + j)) ∧ (y < 5 → par b σ y = none → δ ≤ vI σ (b + 1) y)
theorem bear_le {σ : Mem} {v : Nat} {δ δ' : Int} (h : BEAR b σ f u v δ) (hl : δ' ≤ δ) : BEAR b σ f u v δ' := fun y hy => ⟨fun i j a1 a2 a3 a4 => by have := (h y hy).1 i j a1 a2 a3 a4; omega, fun i j a1 a2 a3 a4 => by have := (h y hy).2.1 i j a1 a2 a3 a4; omega, fun a1 a2 => by have := (h y hy).2.2 a1 a2; omega⟩
/-- a hole that was reached has a heap ahead of it, with room between -/
theorem par_hole {σ : Mem} (hB : BFc b a u cn f φ σ) (hp : PTR b σ) {h : Nat} (hh : h < 5) (hf : lab b σ (5 + h) < FARc) : ∃ i : Nat, i < 5 ∧ vI σ (b + 10) h = i ∧ par b σ (5 + h) = some i ∧ lab b σ i < FARc ∧ f (5 * i + h) < u (5 * i + h) := by
  cases hpar : par b σ (5 + h) with
  | none =>
    have := (hB.2.2.1 (5 + h) (by omega) hf hpar).1.1
    omega
  | some i =>
    obtain ⟨h1, h2, h3, l, h4, h5⟩ := hB.2.1 (5 + h) i (by omega) hpar
    rcases h4 with ⟨i', j', hi', hj', e1, e2, e3, e4⟩ | ⟨i', j', hi', hj', e1, e2, e3, e4⟩
    · subst e1
      have : j' = h := by omega
      subst this
      rw [par_j] at hpar
      unfold ptr at hpar
      split at hpar
      · cases hpar
      · rename_i hne
        have h6 := Option.some.inj hpar
        rcases hp.2 j' hh with h7 | h7
        · exact absurd h7 hne
        · exact ⟨i, hi', by omega, rfl, h3, e3⟩
    · omega
theorem par_heap {σ : Mem} (hB : BFc b a u cn f φ σ) (hp : PTR b σ) {i : Nat} (hi : i < 5) (hf : lab b σ i < FARc) : (vI σ (b + 9) i = -1 ∧ par b σ i = none ∧ rowS f i < a i) ∨ ∃ j : Nat, j < 5 ∧ vI σ (b + 9) i = j ∧ par b σ i = some (5 + j) ∧ lab b σ (5 + j) < FARc ∧ 0 < f (5 * i + j) := by
  cases hpar : par b σ i with
  | none =>
    have h1 := (hB.2.2.1 i (by omega) hf hpar).1.2
    rw [par_i hi] at hpar
    unfold ptr at hpar
    split at hpar
    · rename_i h; exact Or.inl ⟨h, rfl, h1⟩
    · cases hpar
  | some x =>
    obtain ⟨h1, h2, h3, l, h4, h5⟩ := hB.2.1 i x (by omega) hpar
    rcases h4 with ⟨i', j', hi', hj', e1, e2, e3, e4⟩ | ⟨i', j', hi', hj', e1, e2, e3, e4⟩
    · omega
    · subst e2
      subst e1
      rw [par_i hi] at hpar
      unfold ptr at hpar
      split at hpar
      · cases hpar
      · rename_i hne
        have h6 := Option.some.inj hpar
        rcases hp.1 i hi with h7 | h7
        · exact absurd h7 hne
        · exact Or.inr ⟨j', hj', by omega, rfl, h3, e3⟩
theorem mnI_t (x y : Int32) : (mnI x y).toInt = min x.toInt y.toInt := by
  unfold mnI
  split
  · rename_i h; rw [ltI'] at h; omega
  · rename_i h; rw [ltI'] at h; omega
theorem room_loop {σ : Mem} (hB : BFc b a u cn f φ σ) (hp : PTR b σ) (hm : MEMF b σ f u cn) (hst : ∀ i, i < 5 → vI σ (b + 1) i = a i - rowS f i) {rk : Nat → Nat} (hrk : ∀ v x, v < 10 → par b σ v = some x → rk x < rk v) :
    ∀ (d step fu h : Nat) (x : Int32) (vis : List Nat), step + d = 5 → d < fu → h < 5 → lab b σ (5 + h) < FARc → 1 ≤ x.toInt → vis.Nodup → vis.length = step → (∀ y ∈ vis, y < 5 ∧ rk (5 + h) < rk y) →
    ∃ δ : Int32, fX0_roomOnPath_12 fu b x (nI h) (nI step) σ = some (δ, σ) ∧ 1 ≤ δ.toInt ∧ δ.toInt ≤ x.toInt ∧ BEAR b σ f u (5 + h) δ.toInt := by
  intro d
  induction d with
  | zero =>
    intro step fu h x vis h1 h2 hh hf hx v1 v2 v3
    exfalso
    obtain ⟨i, hi, e1, e2, e3, e4⟩ := par_hole hB hp hh hf
    have hr := hrk _ _ (by omega) e2
    have h9 := nodup_len 5 (i :: vis) (List.nodup_cons.mpr ⟨fun q => by have := (v3 i q).2; omega, v1⟩) (fun y hy => by
      rcases List.mem_cons.mp hy with rfl | hy
      · exact hi
      · exact (v3 y hy).1)
    rw [List.length_cons] at h9
    omega
  | succ d ih =>
    intro step fu h x vis h1 h2 hh hf hx v1 v2 v3
    obtain ⟨fu, rfl⟩ : ∃ q, fu = q + 1 := ⟨fu - 1, by omega⟩
    obtain ⟨i, hi, e1, e2, e3, e4⟩ := par_hole hB hp hh hf
    have hr := hrk _ _ (by omega) e2
    obtain ⟨m1, m2, m3, m4, -⟩ := hm (5 * i + h) (by omega)
    have er : rI σ (b + 10) h = nI i := nI_eqI _ e1
    show ∃ δ : Int32, fX0_roomOnPath_12b _ _ _ _ _ _ = _ ∧ _
    unfold fX0_roomOnPath_12b ltI
    rw [if_neg (by rw [leI, nI_t (by omega)]; have : ((5 : Int32)).toInt = 5 := by decide
                   omega), inb_n hh (by omega), grd_t, ix_n (by omega), er]
    dsimp only
    rw [if_neg (nI_neg1 (by omega)), s_wayOf, bnd_s, inb_n (by omega) (by omega), grd_t, ix_n (by omega), inb_n hi (by omega)]
    simp only [grd_t, ix_n (show i < 2147483648 by omega), ix_n (show 5 * i + h < 2147483648 by omega)]
    have hmn := mnI_t x (rI σ (b + 4) (5 * i + h))
    have hro : (rI σ (b + 4) (5 * i + h)).toInt = u (5 * i + h) - f (5 * i + h) := m2
    have onstep : ∀ y, onch (par b σ) (5 + h) y → y = 5 + h ∨ onch (par b σ) i y := fun y hy => by
      by_cases e : 5 + h = y
      · exact Or.inl e.symm
      · exact Or.inr ((onch_step e2 e).mp hy)
    rcases par_heap hB hp hi e3 with ⟨q1, q2, q3⟩ | ⟨j, hj, q1, q2, q3, q4⟩
    · have er2 : rI σ (b + 9) i = -1 := by rw [eqI]; exact q1
      rw [er2, if_pos rfl]
      have hmn2 := mnI_t (mnI x (rI σ (b + 4) (5 * i + h))) (rI σ (b + 1) i)
      have hs1 : (rI σ (b + 1) i).toInt = a i - rowS f i := hst i hi
      refine ⟨_, rfl, by omega, by omega, fun y hy => ?_⟩
      rcases onstep y hy with rfl | hy
      · refine ⟨fun i' j' a1 a2 a3 a4 => ?_, fun i' j' a1 a2 a3 a4 => by omega, fun a1 => by omega⟩
        rw [e2] at a4
        have e5 := Option.some.inj a4
        have e6 : j' = h := by omega
        subst e5; subst e6
        omega
      · obtain ⟨n, hn⟩ := hy
        cases n with
        | zero =>
          have e5 : i = y := Option.some.inj hn
          subst e5
          refine ⟨fun i' j' a1 a2 a3 a4 => by omega, fun i' j' a1 a2 a3 a4 => (by rw [q2] at a4; cases a4), fun a1 a2 => ?_⟩
          have : vI σ (b + 1) i = (rI σ (b + 1) i).toInt := rfl
          omega
        | succ n => rw [up_none q2] at hn; cases hn
    · have er2 : rI σ (b + 9) i = nI j := nI_eqI _ q1
      rw [er2, if_neg (nI_neg1 (by omega)), s_wayOf, bnd_s, inb_n (by omega) (by omega), grd_t, ix_n (by omega), nI_1]
      obtain ⟨n1, n2, n3, n4, -⟩ := hm (5 * i + j) (by omega)
      have hmn2 := mnI_t (mnI x (rI σ (b + 4) (5 * i + h))) (rI σ (b + 3) (5 * i + j))
      have hfl : (rI σ (b + 3) (5 * i + j)).toInt = f (5 * i + j) := n1
      have hr2 := hrk _ _ (by omega) q2
      obtain ⟨δ, w1, w2, w3, w4⟩ := ih (step + 1) fu j (mnI (mnI x (rI σ (b + 4) (5 * i + h))) (rI σ (b + 3) (5 * i + j))) (i :: vis) (by omega) (by omega) hj q3 (by omega) (List.nodup_cons.mpr ⟨fun q => by have := (v3 i q).2; omega, v1⟩) (by rw [List.length_cons, v2]) (fun y hy => by
        rcases List.mem_cons.mp hy with rfl | hy
        · exact ⟨hi, hr2⟩
        · have := v3 y hy; omega)
      refine ⟨δ, w1, w2, by omega, fun y hy => ?_⟩
      rcases onstep y hy with rfl | hy
      · refine ⟨fun i' j' a1 a2 a3 a4 => ?_, fun i' j' a1 a2 a3 a4 => by omega, fun a1 => by omega⟩
        rw [e2] at a4
        have e5 := Option.some.inj a4
        have e6 : j' = h := by omega
        subst e5; subst e6
        omega
      · by_cases e5 : i = y
        · subst e5
          refine ⟨fun i' j' a1 a2 a3 a4 => by omega, fun i' j' a1 a2 a3 a4 => ?_, fun a1 a2 => by rw [q2] at a2; cases a2⟩
          rw [q2] at a4
          have e6 := Option.some.inj a4
          have e7 : j' = j := by omega
          subst e7; subst a3
          omega
        · exact w4 y ((onch_step q2 e5).mp hy)
theorem s_roomOnPath {σ : Mem} (hB : BFc b a u cn f φ σ) (hp : PTR b σ) (hm : MEMF b σ f u cn) (hst : ∀ i, i < 5 → vI σ (b + 1) i = a i - rowS f i) {t : Nat} (ht : t < 5) (hf : lab b σ (5 + t) < FARc) (hl : 1 ≤ vI σ (b + 2) t) :
    ∃ δ : Int32, fX0_roomOnPath b (nI t) σ = some (δ, σ) ∧ 1 ≤ δ.toInt ∧ δ.toInt ≤ vI σ (b + 2) t ∧ BEAR b σ f u (5 + t) δ.toInt := by
  obtain ⟨rk, hrk⟩ := hB.2.2.2.1
  unfold fX0_roomOnPath fX0_roomOnPath_e ltI
  rw [inb_n ht (by omega), grd_t, ix_n (by omega)]
  exact room_loop hB hp hm hst hrk 5 0 FU t _ [] (by omega) (by unfold FU; omega) ht hf hl (by simp) rfl (fun y hy => by cases hy)
end NEAR
