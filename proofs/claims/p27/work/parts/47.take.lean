/-! The plan taken over; what is asked of sides and counts; middles. -/
section TAKE
variable {σ : Mem} {n m : Nat}
theorem tk_loop : ∀ (d w fu : Nat) (c : Int) (σ : Mem), w + d = 25 → d < fu → ∃ σ', fX2_take_9 fu (oI c) (nI w) σ = some (oI (c + (sm 25 (fun k => if vI σ 9 k = vI σ 16 k then 0 else 1) - sm w (fun k => if vI σ 9 k = vI σ 16 k then 0 else 1))), σ') ∧ (∀ k, k ≠ 9 → σ'.1 k = σ.1 k) ∧ σ'.2 = σ.2 ∧ ∀ k, k < 25 → vI σ' 9 k = if w ≤ k then vI σ 16 k else vI σ 9 k := by
  intro d
  induction d with
  | zero =>
    intro w fu c σ h1 h2
    obtain ⟨fu, rfl⟩ : ∃ q, fu = q + 1 := ⟨fu - 1, by omega⟩
    have hw : w = 25 := by omega
    subst hw
    refine ⟨σ, ?_, fun _ _ => rfl, rfl, fun k hk => by rw [if_neg (by omega)]⟩
    show fX2_take_9b _ _ _ _ = _
    unfold fX2_take_9b
    rw [if_pos (by decide), Int.sub_self, Int.add_zero]
  | succ d ih =>
    intro w fu c σ h1 h2
    obtain ⟨fu, rfl⟩ : ∃ q, fu = q + 1 := ⟨fu - 1, by omega⟩
    have hs : fX2_take_9 (fu + 1) (oI c) (nI w) σ = if rI σ 9 w = rI σ 16 w then fX2_take_9 fu (oI c) (nI (w + 1)) σ else fX2_take_9 fu (oI (c + 1)) (nI (w + 1)) (wI σ 9 w (rI σ 16 w)) := by
      show fX2_take_9b _ _ _ _ = _
      unfold fX2_take_9b fX2_take_45 ltM
      rw [if_neg (by rw [leI, nI_t (by omega), I_25]; omega)]
      simp only [inb_n (show w < 25 by omega) (show 25 < 2147483648 by omega), grd_t, ix_n (show w < 2147483648 by omega), nI_1]
      rw [← oI_add]
      rfl
    have hsm : sm (w + 1) (fun k => if vI σ 9 k = vI σ 16 k then (0 : Int) else 1) = sm w (fun k => if vI σ 9 k = vI σ 16 k then 0 else 1) + (if vI σ 9 w = vI σ 16 w then 0 else 1) := rfl
    by_cases h : vI σ 9 w = vI σ 16 w
    · rw [if_pos h] at hsm
      obtain ⟨σ', q1, q2, q3, q4⟩ := ih (w + 1) fu c σ (by omega) (by omega)
      refine ⟨σ', ?_, q2, q3, fun k hk => ?_⟩
      · rw [hs, if_pos (by rw [eqI]; exact h), q1, hsm, Int.add_zero]
      · rw [q4 k hk]
        by_cases e : w = k
        · subst e; rw [if_neg (by omega), if_pos (by omega)]; exact h
        · by_cases e2 : w ≤ k
          · rw [if_pos (by omega), if_pos e2]
          · rw [if_neg (by omega), if_neg e2]
    · rw [if_neg h] at hsm
      obtain ⟨σ', q1, q2, q3, q4⟩ := ih (w + 1) fu (c + 1) (wI σ 9 w (rI σ 16 w)) (by omega) (by omega)
      have e1 : ∀ k, vI (wI σ 9 w (rI σ 16 w)) 9 k = if k = w then vI σ 16 w else vI σ 9 k := fun k => by
        rw [vI_w]
        by_cases e : k = w
        · rw [if_pos ⟨rfl, e⟩, if_pos e]; rfl
        · rw [if_neg (fun q => e q.2), if_neg e]
      have e2 : ∀ k, vI (wI σ 9 w (rI σ 16 w)) 16 k = vI σ 16 k := fun k => vI_wne (by omega)
      simp only [e1, e2] at q1 q4
      have hA : sm 25 (fun k => if (if k = w then vI σ 16 w else vI σ 9 k) = vI σ 16 k then (0 : Int) else 1) = sm 25 (fun k => if vI σ 9 k = vI σ 16 k then 0 else 1) - 1 := by
        rw [sm_congr (h := fun k => if k = w then 0 else (if vI σ 9 k = vI σ 16 k then (0 : Int) else 1)) (fun k _ => by
          by_cases e : k = w
          · subst e; simp
          · simp [e]), sm_upd (by omega), if_neg h]
        omega
      have hB : sm (w + 1) (fun k => if (if k = w then vI σ 16 w else vI σ 9 k) = vI σ 16 k then (0 : Int) else 1) = sm w (fun k => if vI σ 9 k = vI σ 16 k then 0 else 1) := by
        show sm w (fun k => if (if k = w then vI σ 16 w else vI σ 9 k) = vI σ 16 k then (0 : Int) else 1) + (if (if w = w then vI σ 16 w else vI σ 9 w) = vI σ 16 w then (0 : Int) else 1) = _
        rw [if_pos (show w = w from rfl), if_pos (show vI σ 16 w = vI σ 16 w from rfl), Int.add_zero]
        exact sm_congr (fun k hk => by rw [if_neg (show k ≠ w by omega)])
      rw [hA, hB] at q1
      refine ⟨σ', ?_, fun k hk => (q2 k hk).trans (wI_ne σ w _ hk).1, q3, fun k hk => ?_⟩
      · rw [hs, if_neg (by rw [eqI]; exact h), q1]
        congr 3
        omega
      · rw [q4 k hk]
        by_cases e : w = k
        · subst e; rw [if_neg (by omega), if_pos rfl, if_pos (by omega)]
        · by_cases e2 : w ≤ k
          · rw [if_pos (by omega), if_pos e2]
          · rw [if_neg (by omega), if_neg (by omega), if_neg e2]
/-- like SD, but for the hand -/
def SD8 (σ σ' : Mem) : Prop := (∀ k, 1 ≤ k → k ≤ 8 → σ'.1 k = σ.1 k) ∧ ∀ i, i ≠ 14 → rI σ' 0 i = rI σ 0 i
theorem sd8_vI {σ σ' : Mem} (h : SD8 σ σ') {k : Nat} (h1 : 1 ≤ k) (h2 : k ≤ 8) (i : Nat) : vI σ' k i = vI σ k i := by
  unfold vI rI; rw [h.1 k h1 h2]
theorem sd8_v0 {σ σ' : Mem} (h : SD8 σ σ') {i : Nat} (hi : i ≠ 14) : vI σ' 0 i = vI σ 0 i := by
  unfold vI; rw [h.2 i hi]
theorem sd8_all {σ σ' : Mem} (h : SD8 σ σ') (n m : Nat) : aW σ' n = aW σ n ∧ bW σ' m = bW σ m ∧ uW σ' n m = uW σ n m ∧ unW σ' n m = unW σ n m := by
  have hu : unD σ' = unD σ := by
    funext i j
    unfold unD
    rw [sd8_vI h (by omega) (by omega), sd8_v0 h (by omega), sd8_v0 h (by omega), sd8_vI h (by omega) (by omega), sd8_vI h (by omega) (by omega)]
  refine ⟨?_, ?_, ?_, ?_⟩
  · funext w; unfold aW; rw [sd8_vI h (by omega) (by omega)]
  · funext w; unfold bW; rw [sd8_vI h (by omega) (by omega)]
  · funext w; unfold uW; rw [sd8_vI h (by omega) (by omega)]
  · funext w; unfold unW; rw [hu]
theorem inv_hand {σ σ' : Mem} (hI : INV σ n m) (h : SD8 σ σ') (h14 : vI σ' 0 14 = vI σ 0 14) (h13 : ∀ k, 13 ≤ k → k ≤ 23 → σ'.1 k = σ.1 k ∧ σ'.2 k = σ.2 k) (h9 : ∀ w, w < 25 → 0 ≤ vI σ' 9 w ∧ vI σ' 9 w ≤ 20) (h9z : ∀ i j, i < 5 → j < 5 → ¬ (i < n ∧ j < m) → vI σ' 9 (5 * i + j) = 0) : INV σ' n m := by
  obtain ⟨⟨d1, d2, d3, d4, d5, d6, d7, d8, d9⟩, hF⟩ := hI
  have e : ∀ k, 1 ≤ k → k ≤ 8 → ∀ i, vI σ' k i = vI σ k i := fun k h1 h2 i => sd8_vI h h1 h2 i
  have e0 : ∀ i, i ≠ 14 → vI σ' 0 i = vI σ 0 i := fun i hi => sd8_v0 h hi
  refine ⟨⟨?_, ?_, ?_, fun w hw => ?_, fun i j hi hj hn => ?_, ?_, ?_, ?_, ?_⟩, ?_⟩
  · rw [e 1 (by omega) (by omega), e 4 (by omega) (by omega)]; exact d1
  · intro i hi; rw [e 2 (by omega) (by omega), e 3 (by omega) (by omega)]; exact d2 i hi
  · intro i hi; rw [e 5 (by omega) (by omega), e 6 (by omega) (by omega)]; exact d3 i hi
  · rw [e 7 (by omega) (by omega), e 8 (by omega) (by omega)]
    have := d4 w hw
    have := h9 w hw
    omega
  · rw [e 7 (by omega) (by omega), e 8 (by omega) (by omega)]
    exact ⟨(d5 i j hi hj hn).1, (d5 i j hi hj hn).2.1, h9z i j hi hj hn⟩
  · intro i hi hn; rw [e 3 (by omega) (by omega)]; exact d6 i hi hn
  · intro i hi hn; rw [e 6 (by omega) (by omega)]; exact d7 i hi hn
  · rw [e0 10 (by omega), e0 11 (by omega)]; exact d8
  · rw [e0 12 (by omega), e0 13 (by omega)]; exact d9
  · obtain ⟨a1, a2, a3, a4⟩ := sd8_all h n m
    rw [h14, a1, a2, a3, a4, e0 12 (by omega), e0 13 (by omega)]
    rcases hF with h0 | ⟨h1, hB⟩
    · exact Or.inl h0
    · exact Or.inr ⟨h1, plan_eq (fun k h1 h2 => h13 k h1 (by omega)) hB⟩
theorem v_take (hI : INV σ n m) : ∃ σ', fX2_take σ = some (oI (sm 25 (fun k => if vI σ 9 k = lf σ n m k then 0 else 1)), σ') ∧ SD8 σ σ' ∧ (∀ k, 35 ≤ k ∧ k < 35 → σ'.1 k = σ.1 k ∧ σ'.2 k = σ.2 k) ∧ (∀ w, w < 25 → vI σ' 9 w = lf σ n m w) ∧ INV σ' n m := by
  obtain ⟨σ1, e1, s1, I1, P1, p, q, C1⟩ := s_planned hI
  have hlf := lf_of (best_of P1 C1).2
  have hlf : ∀ w, w < 25 → vI σ1 16 w = lf σ n m w := hlf
  obtain ⟨σ', q1, q2, q3, q4⟩ := tk_loop 25 0 FU 0 σ1 (by omega) (by unfold FU; omega)
  have hsm : sm 25 (fun k => if vI σ1 9 k = vI σ1 16 k then (0 : Int) else 1) = sm 25 (fun k => if vI σ 9 k = lf σ n m k then 0 else 1) := sm_congr (fun k hk => by rw [hlf k hk, sq_vI s1 (by omega) (by omega)])
  have e0 : (0 : Int) + (sm 25 (fun k => if vI σ1 9 k = vI σ1 16 k then (0 : Int) else 1) - sm 0 (fun k => if vI σ1 9 k = vI σ1 16 k then (0 : Int) else 1)) = sm 25 (fun k => if vI σ 9 k = lf σ n m k then 0 else 1) := by
    rw [hsm]
    show (0 : Int) + (_ - 0) = _
    omega
  rw [e0] at q1
  have h9 : ∀ w, w < 25 → vI σ' 9 w = lf σ n m w := fun w hw => by rw [q4 w hw, if_pos (by omega), hlf w hw]
  have h8 : SD8 σ1 σ' := ⟨fun k h1 h2 => q2 k (by omega), fun i _ => by unfold rI; rw [q2 0 (by omega)]⟩
  refine ⟨σ', ?_, ⟨fun k h1 h2 => (q2 k (by omega)).trans (s1.1 k h1 (by omega)).1, fun i hi => (h8.2 i hi).trans (s1.2 i hi)⟩, fun k hk => ⟨(q2 k (by omega)).trans (s1.1 k (by omega) (by omega)).1, by rw [q3]; exact (s1.1 k (by omega) (by omega)).2⟩, h9, ?_⟩
  · unfold fX2_take fX2_take_e
    rw [e1, bnd_s, show decide (13 = 13) = true by decide, grd_t]
    exact q1
  · refine inv_hand I1 h8 (by unfold vI rI; rw [q2 0 (by omega)]) (fun k h1 h2 => ⟨q2 k (by omega), by rw [q3]⟩) (fun w hw => ?_) (fun i j hi hj hn => ?_)
    · have h := (P1.1.1 w hw)
      have hu := uW_bd hI.1 w hw
      rw [h9 w hw, ← hlf w hw]
      have : vI σ1 16 w = fl 13 σ1 w := rfl
      omega
    · have h := (P1.1.1 (5 * i + j) (by omega))
      have hu : uW σ n m (5 * i + j) = 0 := by
        unfold uW
        rw [show (5 * i + j) / 5 = i by omega, show (5 * i + j) % 5 = j by omega, if_neg hn]
      rw [h9 _ (by omega), ← hlf _ (by omega)]
      have : vI σ1 16 (5 * i + j) = fl 13 σ1 (5 * i + j) := rfl
      omega
def abF (σ : Mem) (n m : Nat) (v : Int32) (i : Nat) (w : Int) : Int := if w = 2 then (if v = 0 then hfr σ m i else hto σ n i) else vI σ (sdOf v + 1 + w.toNat) i
theorem v_about {v x y : Int32} (hD : DAT σ n m) : fX2_about v x y σ = if ¬ (0 ≤ x.toInt ∧ x.toInt < szOf n m v) then some (Sum.inr 0, σ) else if ¬ (0 ≤ y.toInt ∧ y.toInt ≤ 2) then some (Sum.inr 1, σ) else some (Sum.inl (oI (abF σ n m v (ix x) y.toInt)), σ) := by
  unfold fX2_about fX2_about_e fX2_about_60
  rw [s_checkNumber hD]
  by_cases h1 : 0 ≤ x.toInt ∧ x.toInt < szOf n m v
  · rw [if_pos h1, bndX_l, if_neg (fun q => q h1), s_range, I_0, I_2]
    by_cases h2 : 0 ≤ y.toInt ∧ y.toInt ≤ 2
    · rw [if_pos h2, bndX_l, if_neg (show ¬ ¬ (0 ≤ y.toInt ∧ y.toInt ≤ 2) from fun q => q h2)]
      have h5 : szOf n m v ≤ 5 := by unfold szOf; have := hD.1; split <;> omega
      obtain ⟨i, hi, rfl⟩ := nI_ex h1
      rw [ix_n (n := i) (by omega)]
      unfold fX2_side fX2_side_e fX2_side_15 abF sdOf
      have hy : y.toInt = 0 ∨ y.toInt = 1 ∨ y.toInt = 2 := by omega
      rcases hy with hy | hy | hy
      · rw [if_pos (by rw [eqI, I_0]; exact hy), hy, if_neg (show ¬ ((0 : Int) = 2) by decide)]
        by_cases hv : v = 0
        · rw [if_pos hv, if_pos hv, bnd_s, show decide (ki 1 = 2) = true by decide, grd_t, inb_n (show i < 5 by omega) (by omega), grd_t, oI_v]
          rfl
        · rw [if_neg hv, if_neg hv, bnd_s, show decide (ki 4 = 2) = true by decide, grd_t, inb_n (show i < 5 by omega) (by omega), grd_t, oI_v]
          rfl
      · rw [if_neg (by rw [eqI, I_0]; omega), if_pos (by rw [eqI, I_1]; exact hy), hy, if_neg (show ¬ ((1 : Int) = 2) by decide)]
        by_cases hv : v = 0
        · rw [if_pos hv, if_pos hv, bnd_s, show decide (ki 1 = 2) = true by decide, grd_t, inb_n (show i < 5 by omega) (by omega), grd_t, oI_v]
          rfl
        · rw [if_neg hv, if_neg hv, bnd_s, show decide (ki 4 = 2) = true by decide, grd_t, inb_n (show i < 5 by omega) (by omega), grd_t, oI_v]
          rfl
      · rw [if_neg (by rw [eqI, I_0]; omega), if_neg (by rw [eqI, I_1]; omega), hy, if_pos rfl]
        by_cases hv : v = 0
        · rw [if_pos hv, if_pos hv, s_handFrom hD (by omega), bnd_s]
        · rw [if_neg hv, if_neg hv, s_handTo hD (by omega), bnd_s]
    · rw [if_neg h2, bndX_r, if_pos h2]
  · rw [if_neg h1, bndX_r, if_pos h1]
noncomputable def coF (σ : Mem) (n m : Nat) (w : Int) : Int := if w = 0 then n else if w = 1 then m else if w = 6 then sm 25 (lf σ n m) else vI σ 0 (w.toNat + 8)
theorem v_count {x : Int32} (hI : INV σ n m) : (¬ (0 ≤ x.toInt ∧ x.toInt ≤ 6) ∧ fX2_count x σ = some (Sum.inr 1, σ)) ∨ ((0 ≤ x.toInt ∧ x.toInt ≤ 6) ∧ ∃ σ', fX2_count x σ = some (Sum.inl (oI (coF σ n m x.toInt)), σ') ∧ SQ σ σ' ∧ INV σ' n m) := by
  have hD := hI.1
  unfold fX2_count fX2_count_e
  rw [s_range, I_0, I_6]
  by_cases h1 : 0 ≤ x.toInt ∧ x.toInt ≤ 6
  · rw [if_pos h1, bndX_l]
    refine Or.inr ⟨h1, ?_⟩
    have hx : x.toInt = 0 ∨ x.toInt = 1 ∨ x.toInt = 2 ∨ x.toInt = 3 ∨ x.toInt = 4 ∨ x.toInt = 5 ∨ x.toInt = 6 := by omega
    rcases hx with hx | hx | hx | hx | hx | hx | hx
    · rw [hx, if_pos rfl, oI_v, hD.1.1]
      exact ⟨σ, rfl, SQ.rf, hI⟩
    · rw [hx, if_neg (by decide), if_pos rfl, oI_v, hD.1.2.2.1]
      exact ⟨σ, rfl, SQ.rf, hI⟩
    · rw [hx, if_neg (by decide), if_neg (by decide), if_pos rfl, oI_v]
      exact ⟨σ, rfl, SQ.rf, hI⟩
    · rw [hx, if_neg (by decide), if_neg (by decide), if_neg (by decide), if_pos rfl, oI_v]
      exact ⟨σ, rfl, SQ.rf, hI⟩
    · rw [hx, if_neg (by decide), if_neg (by decide), if_neg (by decide), if_neg (by decide), if_pos rfl, oI_v]
      exact ⟨σ, rfl, SQ.rf, hI⟩
    · rw [hx, if_neg (by decide), if_neg (by decide), if_neg (by decide), if_neg (by decide), if_neg (by decide), if_pos rfl, oI_v]
      exact ⟨σ, rfl, SQ.rf, hI⟩
    · rw [hx, if_neg (by decide), if_neg (by decide), if_neg (by decide), if_neg (by decide), if_neg (by decide), if_neg (by decide)]
      obtain ⟨σ1, e1, s1, I1, P1, p, q, C1⟩ := s_planned hI
      have hlf := lf_of (best_of P1 C1).2
      have hlf : ∀ w, w < 25 → vI σ1 16 w = lf σ n m w := hlf
      rw [e1, bnd_s, show decide (13 = 13) = true by decide, grd_t, s_sum (by decide), bnd_s]
      refine ⟨σ1, ?_, s1, I1⟩
      have : sm (ln 16) (fun i => vI σ1 16 i) = sm 25 (lf σ n m) := sm_congr (fun k hk => hlf k hk)
      rw [this]
      rfl
  · rw [if_neg h1, bndX_r]
    exact Or.inl ⟨h1, rfl⟩
def alF (σ : Mem) (n : Nat) (p : Int) : Int := sm n (fun i => vI σ 3 i * apt (vI σ 0 10) (vI σ 0 11) (vI σ 2 i) p)
theorem al_loop (hD : DAT σ n m) {p : Int32} (hp : 0 ≤ p.toInt ∧ p.toInt ≤ 100) : ∀ (d i fu : Nat), i + d = n → d < fu → fX2_costOfAllTo_4 fu p (oI (sm i (fun i => vI σ 3 i * apt (vI σ 0 10) (vI σ 0 11) (vI σ 2 i) p.toInt))) (nI i) σ = some (oI (alF σ n p.toInt), σ) := by
  have h5 := hD.1
  intro d
  induction d with
  | zero =>
    intro i fu h1 h2
    obtain ⟨fu, rfl⟩ : ∃ q, fu = q + 1 := ⟨fu - 1, by omega⟩
    have hj : i = n := by omega
    subst hj
    show fX2_costOfAllTo_4b _ _ _ _ _ = _
    unfold fX2_costOfAllTo_4b
    rw [if_pos (le_nI h5.1 (by omega))]
    rfl
  | succ d ih =>
    intro i fu h1 h2
    obtain ⟨fu, rfl⟩ : ∃ q, fu = q + 1 := ⟨fu - 1, by omega⟩
    have hi : i < n := by omega
    have h2 := hD.2.1 i hi
    obtain ⟨z, e, hz⟩ := s_measured (σ := σ) (x := rI σ 2 i) (y := p) ⟨h2.1, h2.2.1⟩ hp hD.2.2.2.2.2.2.2.1
    rw [← ih (i + 1) fu (by omega) (by omega)]
    show fX2_costOfAllTo_4b _ _ _ _ _ = _
    unfold fX2_costOfAllTo_4b ltI
    rw [if_neg (not_le_nI h5.1 hi (by omega)), inb_n (show i < 5 by omega) (by omega), grd_t, grd_t, ix_n (n := i) (by omega), e, bnd_s, oI_v, oI_e hz, oI_mul, oI_add, nI_1]
    rfl
theorem s_costOfAllTo (hD : DAT σ n m) {p : Int32} (hp : 0 ≤ p.toInt ∧ p.toInt ≤ 100) : fX2_costOfAllTo p σ = some (oI (alF σ n p.toInt), σ) := al_loop hD hp n 0 FU (by omega) (by have := hD.1; unfold FU; omega)
theorem alF_bd (hD : DAT σ n m) {p : Int} (hp : 0 ≤ p ∧ p ≤ 100) : 0 ≤ alF σ n p ∧ alF σ n p ≤ 1000000 := by
  have h5 := hD.1
  have h8 := hD.2.2.2.2.2.2.2.1
  have key : ∀ k, k ≤ n → 0 ≤ sm k (fun i => vI σ 3 i * apt (vI σ 0 10) (vI σ 0 11) (vI σ 2 i) p) ∧ sm k (fun i => vI σ 3 i * apt (vI σ 0 10) (vI σ 0 11) (vI σ 2 i) p) ≤ 200000 * k := by
    intro k
    induction k with
    | zero => intro _; exact ⟨Int.le_refl _, Int.le_refl _⟩
    | succ k ih =>
      intro hk
      have q1 := ih (by omega)
      have h2 := hD.2.1 k (by omega)
      have q2 := mul_bd (x := vI σ 3 k) (y := apt (vI σ 0 10) (vI σ 0 11) (vI σ 2 k) p) (X := 20) (Y := 10000) (by omega) (apt_bd (by omega) hp (by omega))
      simp only [sm]
      omega
  have := key n (by omega)
  unfold alF
  omega
/-- the first of the places that cost least -/
def MID (c : Int → Int) (k : Int) : Prop := 0 ≤ k ∧ k ≤ 100 ∧ (∀ p, 0 ≤ p → p ≤ 100 → c k ≤ c p) ∧ ∀ p, 0 ≤ p → p < k → c k < c p
theorem mid_uni {c : Int → Int} {k k' : Int} (h : MID c k) (h' : MID c k') : k = k' := by
  obtain ⟨h1, h2, h3, h4⟩ := h
  obtain ⟨h1', h2', h3', h4'⟩ := h'
  rcases Int.lt_trichotomy k k' with q | q | q
  · have := h4' k h1 q; have := h3 k' h1' h2'; omega
  · exact q
  · have := h4 k' h1' q; have := h3' k h1 h2; omega
theorem mi_loop (hD : DAT σ n m) : ∀ (d p fu k : Nat), p + d = 101 → d < fu → k < p → k ≤ 100 → (∀ q, q < p → alF σ n k ≤ alF σ n q) → (∀ q : Nat, q < k → alF σ n k < alF σ n q) → ∃ z : Int, fX2_middle_30 fu (nI k) (oI (alF σ n k)) (nI p) σ = some (Sum.inl (oI z), σ) ∧ MID (alF σ n) z := by
  intro d
  induction d with
  | zero =>
    intro p fu k h1 h2 hk hk2 hA hB
    obtain ⟨fu, rfl⟩ : ∃ q, fu = q + 1 := ⟨fu - 1, by omega⟩
    have hp : p = 101 := by omega
    subst hp
    refine ⟨k, ?_, by omega, by omega, fun q h1 h2 => ?_, fun q h1 h2 => ?_⟩
    · show fX2_middle_30b _ _ _ _ _ = _
      unfold fX2_middle_30b
      rw [if_pos (by decide)]
      rfl
    · have := hA q.toNat (by omega)
      rw [Int.toNat_of_nonneg h1] at this
      exact this
    · have := hB q.toNat (by omega)
      rw [Int.toNat_of_nonneg h1] at this
      exact this
  | succ d ih =>
    intro p fu k h1 h2 hk hk2 hA hB
    obtain ⟨fu, rfl⟩ : ∃ q, fu = q + 1 := ⟨fu - 1, by omega⟩
    have hp : ((nI p).toInt : Int) = p := nI_t (by omega)
    have b1 := alF_bd hD (p := (p : Int)) (by omega)
    have b2 := alF_bd hD (p := (k : Int)) (by omega)
    have hs : fX2_middle_30 (fu + 1) (nI k) (oI (alF σ n k)) (nI p) σ = if oI (alF σ n k) ≤ oI (alF σ n p) then fX2_middle_30 fu (nI k) (oI (alF σ n k)) (nI (p + 1)) σ else fX2_middle_30 fu (nI p) (oI (alF σ n p)) (nI (p + 1)) σ := by
      show fX2_middle_30b _ _ _ _ _ = _
      unfold fX2_middle_30b fX2_middle_54
      rw [if_neg (by rw [ltI', nI_t (by omega), I_100]; omega), s_costOfAllTo hD (by omega), bnd_s, nI_1, hp]
    rw [hs]
    by_cases hle : alF σ n k ≤ alF σ n p
    · rw [if_pos (by rw [leI, oI_to (by unfold inR; omega), oI_to (by unfold inR; omega)]; exact hle)]
      exact ih (p + 1) fu k (by omega) (by omega) (by omega) hk2 (fun q hq => by
        by_cases e : q = p
        · subst e; exact hle
        · exact hA q (by omega)) hB
    · rw [if_neg (by rw [leI, oI_to (by unfold inR; omega), oI_to (by unfold inR; omega)]; exact hle)]
      exact ih (p + 1) fu p (by omega) (by omega) (by omega) (by omega) (fun q hq => by
        by_cases e : q = p
        · subst e; exact Int.le_refl _
        · have := hA q (by omega); omega) (fun q hq => by have := hA q hq; omega)
theorem v_middle (hD : DAT σ n m) : (n = 0 ∧ fX2_middle σ = some (Sum.inr 2, σ)) ∨ (n ≠ 0 ∧ ∃ z : Int, fX2_middle σ = some (Sum.inl (oI z), σ) ∧ MID (alF σ n) z) := by
  unfold fX2_middle fX2_middle_e
  by_cases h : n = 0
  · rw [if_pos ((vIe I_0).mpr (by rw [hD.1.1, h]; rfl))]
    exact Or.inl ⟨h, rfl⟩
  · rw [if_neg (fun e => by have := (vIe I_0).mp e; rw [hD.1.1] at this; omega), s_costOfAllTo hD (by decide), bnd_s, I_0]
    obtain ⟨z, e, hz⟩ := mi_loop hD 100 1 FU 0 (by omega) (by unfold FU; omega) (by omega) (by omega) (fun q hq => by rw [show q = 0 by omega]; exact Int.le_refl _) (fun q hq => by omega)
    exact Or.inr ⟨h, z, e, hz⟩
end TAKE
