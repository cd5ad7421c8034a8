/-! The carrier's plan: carrying along the path. -/
theorem tot_bd {κ g : Nat → Int} {A B : Int} (hA : 0 ≤ A) (hB : 0 ≤ B) (h1 : ∀ w, w < 25 → -A ≤ κ w ∧ κ w ≤ A) (h2 : ∀ w, w < 25 → 0 ≤ g w ∧ g w ≤ B) : -(25 * (A * B)) ≤ tot (fun w => κ w * g w) ∧ tot (fun w => κ w * g w) ≤ 25 * (A * B) := by
  have key : ∀ w, w < 25 → -(A * B) ≤ κ w * g w ∧ κ w * g w ≤ A * B := by
    intro w hw
    obtain ⟨a1, a2⟩ := h1 w hw
    obtain ⟨b1, b2⟩ := h2 w hw
    have e1 : κ w * g w ≤ A * g w := Int.mul_le_mul_of_nonneg_right a2 b1
    have e2 : A * g w ≤ A * B := Int.mul_le_mul_of_nonneg_left b2 hA
    have e3 : -A * g w ≤ κ w * g w := Int.mul_le_mul_of_nonneg_right a1 b1
    rw [Int.neg_mul] at e3
    omega
  unfold tot
  constructor
  · have h := sm_le (n := 5) (g := fun _ => sm 5 (fun _ => -(A * B))) (h := fun i => sm 5 (fun j => κ (5 * i + j) * g (5 * i + j))) (fun i hi => sm_le (fun j hj => (key (5 * i + j) (by omega)).1))
    simp only [sm] at h ⊢
    omega
  · have h := sm_le (n := 5) (g := fun i => sm 5 (fun j => κ (5 * i + j) * g (5 * i + j))) (h := fun _ => sm 5 (fun _ => A * B)) (fun i hi => sm_le (fun j hj => (key (5 * i + j) (by omega)).2))
    simp only [sm] at h ⊢
    omega
/-- the flow in memory -/
def fl (b : Nat) (σ : Mem) (w : Nat) : Int := vI σ (b + 3) w
section CARRY
variable {b : Nat} {a u cn un f φ : Nat → Int} {lo mi : Int}
/-- flow and room agree with the bounds, unit costs are there -/
def FLOW (b : Nat) (σ : Mem) (u un : Nat → Int) (lo mi : Int) : Prop := (∀ w, w < 25 → 0 ≤ fl b σ w ∧ fl b σ w ≤ u w ∧ u w ≤ 20 ∧ vI σ (b + 4) w = u w - fl b σ w ∧ 0 ≤ un w ∧ un w ≤ 10000 ∧ (0 < u w → vI σ (b + 5) w = un w)) ∧ (0 ≤ lo ∧ lo ≤ 10000 ∧ 0 ≤ mi ∧ mi ≤ 10000) ∧ vI σ b 13 = lo ∧ vI σ b 14 = mi
/-- one move, seen in whole numbers -/
theorem move_flow {σ : Mem} {i j : Nat} {x : Int32} (hF : FLOW b σ u un lo mi) (hi : i < 5) (hj : j < 5) (hx : -21 ≤ x.toInt ∧ x.toInt ≤ 21) (h1 : 0 ≤ fl b σ (5 * i + j) + x.toInt) (h2 : fl b σ (5 * i + j) + x.toInt ≤ u (5 * i + j)) (hu : 0 < u (5 * i + j))
    (hs : -1000 ≤ vI σ (b + 1) i ∧ vI σ (b + 1) i ≤ 1000) (hl : -1000 ≤ vI σ (b + 2) j ∧ vI σ (b + 2) j ≤ 1000) (hc : -1000000000 ≤ vI σ b 4 ∧ vI σ b 4 ≤ 1000000000) :
    FLOW b (mvM b σ i j x) u un lo mi ∧ fl b (mvM b σ i j x) = (fun w => if w = 5 * i + j then fl b σ w + x.toInt else fl b σ w) ∧ (∀ k, vI (mvM b σ i j x) (b + 1) k = if k = i then vI σ (b + 1) k - x.toInt else vI σ (b + 1) k) ∧ (∀ k, vI (mvM b σ i j x) (b + 2) k = if k = j then vI σ (b + 2) k - x.toInt else vI σ (b + 2) k) ∧
      vI (mvM b σ i j x) b 4 = vI σ b 4 + (un (5 * i + j) - lo - mi) * x.toInt := by
  obtain ⟨hF1, hF2, hF3, hF4⟩ := id hF
  obtain ⟨q1, q2, q3, q4, q5, q6, q7⟩ := hF1 (5 * i + j) (by omega)
  have hq7 := q7 hu
  have hfl : fl b (mvM b σ i j x) = (fun w => if w = 5 * i + j then fl b σ w + x.toInt else fl b σ w) := by
    funext w
    show vI (mvM b σ i j x) (b + 3) w = _
    rw [mvM_3 w (by unfold inR; have : vI σ (b + 3) (5 * i + j) = fl b σ (5 * i + j) := rfl
                    omega)]
    rfl
  have hro : ∀ w, vI (mvM b σ i j x) (b + 4) w = if w = 5 * i + j then vI σ (b + 4) w - x.toInt else vI σ (b + 4) w := fun w => mvM_4 w (by unfold inR; omega)
  have hmul : -10000000 ≤ x.toInt * (un (5 * i + j) - lo - mi) ∧ x.toInt * (un (5 * i + j) - lo - mi) ≤ 10000000 := by
    have e1 : x.toInt * (un (5 * i + j) - lo - mi) = x.toInt * un (5 * i + j) - x.toInt * lo - x.toInt * mi := by rw [Int.mul_sub, Int.mul_sub]
    have bd : ∀ z : Int, 0 ≤ z → z ≤ 10000 → -210000 ≤ x.toInt * z ∧ x.toInt * z ≤ 210000 := by
      intro z z1 z2
      have e2 : x.toInt * z ≤ 21 * z := Int.mul_le_mul_of_nonneg_right hx.2 z1
      have e3 : -21 * z ≤ x.toInt * z := Int.mul_le_mul_of_nonneg_right hx.1 z1
      omega
    have := bd _ q5 q6
    have := bd lo hF2.1 hF2.2.1
    have := bd mi hF2.2.2.1 hF2.2.2.2
    omega
  have hcost : vI (mvM b σ i j x) b 4 = vI σ b 4 + (un (5 * i + j) - lo - mi) * x.toInt := by
    rw [mvM_c, hq7, hF3, hF4, Int.mul_comm]
    · rw [hq7, hF3]; unfold inR; omega
    · rw [hq7, hF3, hF4]; unfold inR; omega
    · rw [hq7, hF3, hF4]; unfold inR; omega
    · rw [hq7, hF3, hF4]; unfold inR; omega
  refine ⟨⟨fun w hw => ?_, hF2, ?_, ?_⟩, hfl, fun k => mvM_1 k (by unfold inR; omega), fun k => mvM_2 k (by unfold inR; omega), hcost⟩
  · obtain ⟨p1, p2, p3, p4, p5, p6, p7⟩ := hF1 w hw
    rw [hfl, hro]
    dsimp only
    by_cases e : w = 5 * i + j
    · subst e
      rw [if_pos rfl, if_pos rfl]
      exact ⟨h1, h2, p3, by omega, p5, p6, fun h => by rw [smv_vI mvM_smv (by omega)]; exact p7 h⟩
    · rw [if_neg e, if_neg e]
      exact ⟨p1, p2, p3, p4, p5, p6, fun h => by rw [smv_vI mvM_smv (by omega)]; exact p7 h⟩
  · unfold vI at hF3 ⊢
    rw [mvM_smv.2.1 13 (by omega)]
    exact hF3
  · unfold vI at hF4 ⊢
    rw [mvM_smv.2.1 14 (by omega)]
    exact hF4
/-- where a path's carrying has come to: δ units wait at hole h -/
def CARR (b : Nat) (u un f : Nat → Int) (lo mi : Int) (σ0 : Mem) (t : Nat) (δ : Int) (σ : Mem) (rows : Nat → Int) (cols : Nat → Int) : Prop :=
  SMV b σ0 σ ∧ FLOW b σ u un lo mi ∧
  (∀ i j, i < 5 → j < 5 → fl b σ (5 * i + j) = f (5 * i + j) ∨ (onch (par b σ0) (5 + t) (5 + j) ∧ par b σ0 (5 + j) = some i) ∨ (onch (par b σ0) (5 + t) i ∧ par b σ0 i = some (5 + j))) ∧
  (∀ i, i < 5 → vI σ (b + 1) i = vI σ0 (b + 1) i - rows i ∧ rowS (fl b σ) i = rowS f i + rows i) ∧ (∀ j, j < 5 → vI σ (b + 2) j = vI σ0 (b + 2) j - cols j ∧ colS (fl b σ) j = colS f j + cols j) ∧
  vI σ b 4 = vI σ0 b 4 + (tot (fun w => (un w - lo - mi) * fl b σ w) - tot (fun w => (un w - lo - mi) * f w))
theorem kap_bd (hF : ∀ w, w < 25 → 0 ≤ un w ∧ un w ≤ 10000) (hlm : 0 ≤ lo ∧ lo ≤ 10000 ∧ 0 ≤ mi ∧ mi ≤ 10000) {g : Nat → Int} (hg : ∀ w, w < 25 → 0 ≤ g w ∧ g w ≤ 20) : -10000000 ≤ tot (fun w => (un w - lo - mi) * g w) ∧ tot (fun w => (un w - lo - mi) * g w) ≤ 10000000 := by
  have h := tot_bd (κ := fun w => un w - lo - mi) (g := g) (A := 20000) (B := 20) (by omega) (by omega) (fun w hw => by have := hF w hw; omega) hg
  omega
theorem carry_loop {bb : Nat → Int} {σ0 : Mem} (hB : BFc b a u cn f φ σ0) (hp : PTR b σ0) (hm : MEMF b σ0 f u cn) {rk : Nat → Nat} (hrk : ∀ v x, v < 10 → par b σ0 v = some x → rk x < rk v)
    (hs0 : ∀ i, i < 5 → 0 ≤ vI σ0 (b + 1) i ∧ vI σ0 (b + 1) i ≤ 21) (hl0 : ∀ j, j < 5 → 0 ≤ vI σ0 (b + 2) j ∧ vI σ0 (b + 2) j ≤ 21) (hc0 : -100000000 ≤ vI σ0 b 4 ∧ vI σ0 b 4 ≤ 100000000) {t : Nat} (ht : t < 5) {δ : Int32} (hδ : 1 ≤ δ.toInt ∧ δ.toInt ≤ 21) (hbear : BEAR b σ0 f u (5 + t) δ.toInt) :
    ∀ (d step fu h : Nat) (σ : Mem) (vis : List Nat), step + d = 5 → d < fu → h < 5 → lab b σ0 (5 + h) < FARc → onch (par b σ0) (5 + t) (5 + h) → vis.Nodup → vis.length = step → (∀ y ∈ vis, y < 5 ∧ rk (5 + h) < rk y) →
      CARR b u un f lo mi σ0 t δ.toInt σ (fun _ => 0) (fun j => (if j = t then δ.toInt else 0) - (if j = h then δ.toInt else 0)) → (∀ i j, i < 5 → j < 5 → rk i < rk (5 + h) → rk (5 + j) ≤ rk (5 + h) → fl b σ (5 * i + j) = f (5 * i + j)) →
      ∃ (σ' : Mem) (i0 : Nat), fX0_carryAlongPath_5 fu b δ (nI h) (nI step) σ = some (1, σ') ∧ i0 < 5 ∧ onch (par b σ0) (5 + t) i0 ∧ par b σ0 i0 = none ∧ CARR b u un f lo mi σ0 t δ.toInt σ' (fun i => if i = i0 then δ.toInt else 0) (fun j => if j = t then δ.toInt else 0) := by
  intro d
  induction d with
  | zero =>
    intro step fu h σ vis h1 h2 hh hf hon v1 v2 v3 hC hU
    exfalso
    obtain ⟨i, hi, e1, e2, e3, e4⟩ := par_hole hB hp hh hf
    have hr := hrk _ _ (by omega) e2
    have h9 := nodup_len 5 (i :: vis) (List.nodup_cons.mpr ⟨fun q => by have := (v3 i q).2; omega, v1⟩) (fun y hy => by
      rcases List.mem_cons.mp hy with rfl | hy
      · exact hi
      · exact (v3 y hy).1)
    rw [List.length_cons] at h9
    omega
  | succ d ih =>
    intro step fu h σ vis h1 h2 hh hf hon v1 v2 v3 hC hU
    obtain ⟨fu, rfl⟩ : ∃ q, fu = q + 1 := ⟨fu - 1, by omega⟩
    obtain ⟨i, hi, e1, e2, e3, e4⟩ := par_hole hB hp hh hf
    have hr := hrk _ _ (by omega) e2
    obtain ⟨c1, c2, c3, c4, c5, c6⟩ := id hC
    have c4 : ∀ i, i < 5 → vI σ (b + 1) i = vI σ0 (b + 1) i ∧ rowS (fl b σ) i = rowS f i := fun i hi => by
      have h := c4 i hi
      dsimp only at h
      omega
    have hun : ∀ w, w < 25 → 0 ≤ un w ∧ un w ≤ 10000 := fun w hw => ⟨(c2.1 w hw).2.2.2.2.1, (c2.1 w hw).2.2.2.2.2.1⟩
    have hgb : ∀ w, w < 25 → 0 ≤ fl b σ w ∧ fl b σ w ≤ 20 := fun w hw => by obtain ⟨x1, x2, x3, -⟩ := c2.1 w hw; omega
    have hfb : ∀ w, w < 25 → 0 ≤ f w ∧ f w ≤ 20 := fun w hw => by
      obtain ⟨x1, x2, x3, -⟩ := c2.1 w hw
      obtain ⟨-, -, y1, y2, -⟩ := hm w hw
      omega
    have k1 := kap_bd hun c2.2.1 hgb
    have k2 := kap_bd hun c2.2.1 hfb
    have honi : onch (par b σ0) (5 + t) i := onch_next hon e2
    have eg : fl b σ (5 * i + h) = f (5 * i + h) := hU i h hi hh hr (Nat.le_refl _)
    have ebear := (hbear (5 + h) hon).1 i h hi hh rfl e2
    obtain ⟨m1, m2, m3, m4, -⟩ := hm (5 * i + h) (by omega)
    obtain ⟨s1, s2⟩ := c4 i hi
    obtain ⟨l1, l2⟩ := c5 h hh
    dsimp only at l1 l2
    have s0 := hs0 i hi
    have l0 := hl0 h hh
    have hlh : -1000 ≤ vI σ (b + 2) h ∧ vI σ (b + 2) h ≤ 1000 := by
      split at l1 <;> split at l1 <;> omega
    obtain ⟨F1, g1, st1, la1, co1⟩ := move_flow c2 hi hh (x := δ) ⟨by omega, hδ.2⟩ (by omega) (by omega) (by omega) (by omega) hlh (by omega)
    have er : rI σ (b + 10) h = nI i := by rw [smv_rI c1 (by omega)]; exact nI_eqI _ e1
    show ∃ σ' i0, fX0_carryAlongPath_5b _ _ _ _ _ _ = _ ∧ _
    unfold fX0_carryAlongPath_5b ltI
    rw [if_neg (by rw [leI, nI_t (by omega)]; have : ((5 : Int32)).toInt = 5 := by decide
                   omega), if_neg (by rw [leI]; have : ((0 : Int32)).toInt = 0 := by decide
                                      omega), inb_n hh (by omega), grd_t, ix_n (by omega), er]
    dsimp only
    rw [if_neg (nI_neg1 (by omega)), s_move hi hh, bnd_s, inb_n hi (by omega), grd_t, ix_n (by omega)]
    have S1 : SMV b σ0 (mvM b σ i h δ) := c1.tr mvM_smv
    have er2 : rI (mvM b σ i h δ) (b + 9) i = rI σ0 (b + 9) i := smv_rI S1 (by omega) i
    rw [er2]
    have hM1 : ∀ i' j, i' < 5 → j < 5 → fl b (mvM b σ i h δ) (5 * i' + j) = f (5 * i' + j) ∨ (onch (par b σ0) (5 + t) (5 + j) ∧ par b σ0 (5 + j) = some i') ∨ (onch (par b σ0) (5 + t) i' ∧ par b σ0 i' = some (5 + j)) := by
      intro i' j hi' hj
      rw [g1]
      dsimp only
      by_cases e : 5 * i' + j = 5 * i + h
      · have e5 : i' = i := by omega
        have e6 : j = h := by omega
        subst e5; subst e6
        exact Or.inr (Or.inl ⟨hon, e2⟩)
      · rw [if_neg e]; exact c3 i' j hi' hj
    have hrow1 : ∀ k, k < 5 → rowS (fl b (mvM b σ i h δ)) k = rowS f k + (if k = i then δ.toInt else 0) := by
      intro k hk
      rw [g1, rowS_upd hh hk hi, (c4 k hk).2]
    have hcol1 : ∀ k, k < 5 → colS (fl b (mvM b σ i h δ)) k = colS f k + (if k = t then δ.toInt else 0) := by
      intro k hk
      rw [g1, colS_upd hh hi hk, (c5 k hk).2]
      dsimp only
      split <;> split <;> omega
    have hcost1 : vI (mvM b σ i h δ) b 4 = vI σ0 b 4 + (tot (fun w => (un w - lo - mi) * fl b (mvM b σ i h δ) w) - tot (fun w => (un w - lo - mi) * f w)) := by
      rw [co1, g1, tot_upd hi hh, c6]
      omega
    have hst1 : ∀ k, k < 5 → vI (mvM b σ i h δ) (b + 1) k = vI σ0 (b + 1) k - (if k = i then δ.toInt else 0) := by
      intro k hk
      rw [st1 k, (c4 k hk).1]
      split <;> omega
    have hla1 : ∀ k, k < 5 → vI (mvM b σ i h δ) (b + 2) k = vI σ0 (b + 2) k - (if k = t then δ.toInt else 0) := by
      intro k hk
      rw [la1 k, (c5 k hk).1]
      dsimp only
      split <;> split <;> omega
    rcases par_heap hB hp hi e3 with ⟨q1, q2, q3⟩ | ⟨j, hj, q1, q2, q3, q4⟩
    · have er3 : rI σ0 (b + 9) i = -1 := by rw [eqI]; exact q1
      rw [er3, if_pos rfl]
      refine ⟨mvM b σ i h δ, i, rfl, hi, honi, q2, S1, F1, hM1, fun k hk => ⟨hst1 k hk, hrow1 k hk⟩, fun k hk => ⟨hla1 k hk, hcol1 k hk⟩, hcost1⟩
    · have er3 : rI σ0 (b + 9) i = nI j := nI_eqI _ q1
      have hr2 := hrk _ _ (by omega) q2
      have hjh : j ≠ h := by intro e; subst e; omega
      rw [er3, if_neg (nI_neg1 (by omega)), s_move hi hj, bnd_s, nI_1]
      have hneg : (-δ).toInt = -δ.toInt := tI_neg (by unfold inR; omega)
      have eg2 : fl b (mvM b σ i h δ) (5 * i + j) = f (5 * i + j) := by
        rw [g1]
        dsimp only
        rw [if_neg (by omega)]
        exact hU i j hi hj hr (by omega)
      have ebear2 := (hbear i honi).2.1 i j hi hj rfl q2
      obtain ⟨n1, n2, n3, n4, -⟩ := hm (5 * i + j) (by omega)
      have hgb1 : ∀ w, w < 25 → 0 ≤ fl b (mvM b σ i h δ) w ∧ fl b (mvM b σ i h δ) w ≤ 20 := fun w hw => by obtain ⟨x1, x2, x3, -⟩ := F1.1 w hw; omega
      have k3 := kap_bd hun c2.2.1 hgb1
      have hsi := hst1 i hi
      rw [if_pos rfl] at hsi
      have hlj := hla1 j hj
      have l0j := hl0 j hj
      have hlj' : -1000 ≤ vI (mvM b σ i h δ) (b + 2) j ∧ vI (mvM b σ i h δ) (b + 2) j ≤ 1000 := by
        split at hlj <;> omega
      obtain ⟨F2, g2, st2, la2, co2⟩ := move_flow F1 hi hj (x := -δ) ⟨by omega, by omega⟩ (by omega) (by omega) (by omega) (by omega) hlj' (by omega)
      rw [hneg] at g2 st2 la2 co2
      refine ih (step + 1) fu j (mvM b (mvM b σ i h δ) i j (-δ)) (i :: vis) (by omega) (by omega) hj q3 (onch_next honi q2) (List.nodup_cons.mpr ⟨fun q => by have := (v3 i q).2; omega, v1⟩) (by rw [List.length_cons, v2]) (fun y hy => by
        rcases List.mem_cons.mp hy with rfl | hy
        · exact ⟨hi, hr2⟩
        · have := v3 y hy; omega) ⟨S1.tr mvM_smv, F2, ?_, ?_, ?_, ?_⟩ ?_
      · intro i' j' hi' hj'
        rw [g2]
        dsimp only
        by_cases e : 5 * i' + j' = 5 * i + j
        · have e5 : i' = i := by omega
          have e6 : j' = j := by omega
          subst e5; subst e6
          exact Or.inr (Or.inr ⟨honi, q2⟩)
        · rw [if_neg e]; exact hM1 i' j' hi' hj'
      · intro k hk
        refine ⟨?_, ?_⟩
        · rw [st2 k, hst1 k hk]
          dsimp only
          split <;> omega
        · dsimp only
          have hx := rowS_upd (g := fl b (mvM b σ i h δ)) (x := -δ.toInt) hj hk hi
          rw [g2, hx, hrow1 k hk]
          split <;> omega
      · intro k hk
        refine ⟨?_, ?_⟩
        · rw [la2 k, hla1 k hk]
          dsimp only
          split <;> split <;> omega
        · have hx := colS_upd (g := fl b (mvM b σ i h δ)) (x := -δ.toInt) hj hi hk
          rw [g2, hx, hcol1 k hk]
          dsimp only
          split <;> split <;> omega
      · have hx := tot_upd (κ := fun w => un w - lo - mi) (g := fl b (mvM b σ i h δ)) (x := -δ.toInt) hi hj
        rw [co2, g2, hx, hcost1]
        omega
      · intro i' j' hi' hj' r1 r2
        rw [g2, g1]
        have e5 : i' ≠ i := by intro e; subst e; omega
        dsimp only
        rw [if_neg (by omega), if_neg (by omega)]
        exact hU i' j' hi' hj' (by omega) (by omega)
end CARRY
