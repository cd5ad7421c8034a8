/-! The Model: take, count, by hand, about, middle. -/
section MTAKE
variable {σ : Mem} {n m : Nat}
theorem mk_loop {g h0 : Nat → Int} (hb : ∀ k, k < 25 → inR (g k)) : ∀ (d w fu : Nat) (c : Int) (σ : Mem), w + d = 25 → d < fu → (∀ k, k < 25 → vI σ 49 k = g k) → (∀ k, w ≤ k → k < 25 → vI σ 42 k = h0 k) → ∃ σ', fX3_take_13 fu (oI (c + sm w (fun k => if h0 k = g k then 0 else 1))) (nI w) σ = some (oI (c + sm 25 (fun k => if h0 k = g k then 0 else 1)), σ') ∧ (∀ k, k ≠ 42 → σ'.1 k = σ.1 k) ∧ σ'.2 = σ.2 ∧ ∀ k, k < 25 → vI σ' 42 k = if w ≤ k then g k else vI σ 42 k := by
  intro d
  induction d with
  | zero =>
    intro w fu c σ h1 h2 hg hh
    obtain ⟨fu, rfl⟩ : ∃ q, fu = q + 1 := ⟨fu - 1, by omega⟩
    have hw : w = 25 := by omega
    subst hw
    refine ⟨σ, ?_, fun _ _ => rfl, rfl, fun k hk => by rw [if_neg (by omega)]⟩
    show fX3_take_13b _ _ _ _ = _
    unfold fX3_take_13b
    rw [if_pos (by decide)]
  | succ d ih =>
    intro w fu c σ h1 h2 hg hh
    obtain ⟨fu, rfl⟩ : ∃ q, fu = q + 1 := ⟨fu - 1, by omega⟩
    have hw : w < 25 := by omega
    obtain ⟨σ', q1, q2, q3, q4⟩ := ih (w + 1) fu c (wI σ 42 w (rI σ 49 w)) (by omega) (by omega) (fun k hk => by rw [vI_wne (by omega)]; exact hg k hk) (fun k h3 h4 => by rw [vI_w, if_neg (by omega)]; exact hh k (by omega) h4)
    refine ⟨σ', ?_, fun k hk => (q2 k hk).trans (wI_ne σ w _ hk).1, q3, fun k hk => ?_⟩
    · rw [← q1]
      have es : c + sm (w + 1) (fun k => if h0 k = g k then (0 : Int) else 1) = (c + sm w (fun k => if h0 k = g k then (0 : Int) else 1)) + (if h0 w = g w then 0 else 1) := by
        show c + (sm w (fun k => if h0 k = g k then (0 : Int) else 1) + (if h0 w = g w then 0 else 1)) = _
        omega
      have e42 := hh w (Nat.le_refl _) hw
      have e49 := hg w hw
      show fX3_take_13b _ _ _ _ = _
      unfold fX3_take_13b fX3_take_40 ltI ltM
      rw [if_neg (by rw [leI, nI_t (by omega), I_25]; omega)]
      simp only [inb_n hw (show 25 < 2147483648 by omega), grd_t, ix_n (show w < 2147483648 by omega), nI_1]
      have ee : rI σ 42 w = rI σ 49 w ↔ h0 w = g w := by
        rw [eqI]
        show vI σ 42 w = vI σ 49 w ↔ _
        rw [e42, e49]
      rw [es]
      by_cases h : h0 w = g w
      · have hz : ∀ A : Int, oI A + 0 = oI (A + 0) := fun A => oI_add A 0
        rw [if_pos (ee.mpr h), if_pos h, hz]
      · have hz : ∀ A : Int, oI A + 1 = oI (A + 1) := fun A => oI_add A 1
        rw [if_neg (fun q => h (ee.mp q)), if_neg h, hz]
    · rw [q4 k hk]
      by_cases e : k = w
      · subst e
        rw [if_neg (by omega), if_pos (by omega), vI_w, if_pos ⟨rfl, rfl⟩]
        exact hg k hk
      · by_cases e2 : w ≤ k
        · rw [if_pos (by omega), if_pos e2]
        · rw [if_neg (by omega), if_neg e2, vI_w, if_neg (fun q => e q.2)]
theorem mt_take (hR : REL σ n m) (hI : INV σ n m) : ∃ σ' σ1, fX3_take σ = some (oI (sm 25 (fun k => if vI σ 42 k = lf σ n m k then 0 else 1)), σ') ∧ SMM σ σ1 ∧ (∀ k, k ≠ 42 → σ'.1 k = σ1.1 k) ∧ σ'.2 = σ1.2 ∧ (∀ w, w < 25 → vI σ' 42 w = lf σ n m w) ∧ rI σ' 35 0 = 0 := by
  have sd0 := smm_sd (w_smm0 (σ := σ) (v := 0))
  obtain ⟨σ1, e1, s1, p1, p2, p3⟩ := m_findPlan (w0_rel (x := 0) hR) (smm_inv w_smm0 hI)
  rw [sd_lf sd0] at p1
  have s01 := w_smm0.tr (smf_smm s1)
  have R1 := smm_rel s01 hR
  obtain ⟨σ', q1, q2, q3, q4⟩ := mk_loop (g := lf σ n m) (h0 := fun k => vI σ 42 k) (fun k hk => by rw [← p1 k hk]; exact tI_rng _) 25 0 FU 0 σ1 (by omega) (by unfold FU; omega) p1 (fun k _ hk => smm_vI s01 (by omega) (by omega) k)
  have e0 : (0 : Int) + sm 0 (fun k => if vI σ 42 k = lf σ n m k then (0 : Int) else 1) = 0 := rfl
  rw [e0, Int.zero_add] at q1
  refine ⟨σ', σ1, ?_, s01, q2, q3, fun w hw => by rw [q4 w hw, if_pos (by omega)], ?_⟩
  · unfold fX3_take fX3_take_e ltM
    dsimp only
    rw [e1, bnd_s]
    exact q1
  · have h1 : rI σ' 35 0 = rI σ1 35 0 := by unfold rI; rw [q2 35 (by omega)]
    rw [h1, smf_thr s1, thr_w]
theorem mc_loop {σ : Mem} : ∀ (d w fu : Nat), w + d = 25 → d < fu → fX3_count_102 fu (oI (sm w (fun k => vI σ 49 k))) (nI w) σ = some (oI (sm 25 (fun k => vI σ 49 k)), σ) := by
  intro d
  induction d with
  | zero =>
    intro w fu h1 h2
    obtain ⟨fu, rfl⟩ : ∃ q, fu = q + 1 := ⟨fu - 1, by omega⟩
    have hw : w = 25 := by omega
    subst hw
    show fX3_count_102b _ _ _ _ = _
    unfold fX3_count_102b
    rw [if_pos (by decide)]
  | succ d ih =>
    intro w fu h1 h2
    obtain ⟨fu, rfl⟩ : ∃ q, fu = q + 1 := ⟨fu - 1, by omega⟩
    rw [← ih (w + 1) fu (by omega) (by omega)]
    show fX3_count_102b _ _ _ _ = _
    unfold fX3_count_102b ltI
    rw [if_neg (by rw [leI, nI_t (by omega), I_25]; omega), inb_n (show w < 25 by omega) (by omega), grd_t, ix_n (n := w) (by omega), oI_v, oI_add, nI_1]
    rfl
theorem mt_count {x : Int32} (hR : REL σ n m) (hI : INV σ n m) : (¬ (0 ≤ x.toInt ∧ x.toInt ≤ 6) ∧ fX3_count x σ = some (0, wI σ 35 0 1)) ∨ ((0 ≤ x.toInt ∧ x.toInt ≤ 6) ∧ ∃ σ', fX3_count x σ = some (oI (coF σ n m x.toInt), σ') ∧ SMM σ σ' ∧ rI σ' 35 0 = 0) := by
  unfold fX3_count fX3_count_e fX3_count_16 fX3_count_93
  rw [m_in, bnd_s, I_0, I_6, m_goesWell, m_goesWell, bnd_s, bnd_s]
  by_cases h1 : 0 ≤ x.toInt ∧ x.toInt ≤ 6
  · rw [if_pos h1, if_neg n10, if_pos z00, if_neg n10]
    refine Or.inr ⟨h1, ?_⟩
    obtain ⟨r1, r2⟩ := hR.2.1
    obtain ⟨r3, r4, r5, r6⟩ := hR.2.2.1
    have e35 : ∀ i, i ≠ 0 → rI (wI σ 35 0 0) 35 i = oI (vI σ 35 i) := fun i hi => by rw [rI_w, if_neg (fun q => hi q.2), oI_v]
    rw [e35 1 (by omega), e35 2 (by omega), e35 7 (by omega), e35 8 (by omega), e35 12 (by omega), e35 13 (by omega), r1, r2, r3, r4, r5, r6]
    have hx : x.toInt = 0 ∨ x.toInt = 1 ∨ x.toInt = 2 ∨ x.toInt = 3 ∨ x.toInt = 4 ∨ x.toInt = 5 ∨ x.toInt = 6 := by omega
    have ex : ∀ (c : Int32) (z : Int), c.toInt = z → x.toInt = z → x = c := fun c z h h' => by rw [eqI, h, h']
    rcases hx with hx | hx | hx | hx | hx | hx | hx
    · obtain rfl := ex 0 0 I_0 hx
      exact ⟨_, rfl, w_smm0, thr_w⟩
    · obtain rfl := ex 1 1 I_1 hx
      exact ⟨_, rfl, w_smm0, thr_w⟩
    · obtain rfl := ex 2 2 I_2 hx
      exact ⟨_, rfl, w_smm0, thr_w⟩
    · obtain rfl := ex 3 3 (by decide) hx
      exact ⟨_, rfl, w_smm0, thr_w⟩
    · obtain rfl := ex 4 4 (by decide) hx
      exact ⟨_, rfl, w_smm0, thr_w⟩
    · obtain rfl := ex 5 5 I_5 hx
      exact ⟨_, rfl, w_smm0, thr_w⟩
    · obtain rfl := ex 6 6 I_6 hx
      have sd0 := smm_sd (w_smm0 (σ := σ) (v := 0))
      obtain ⟨σ1, e1, s1, p1, p2, p3⟩ := m_findPlan (w0_rel (x := 0) hR) (smm_inv w_smm0 hI)
      rw [sd_lf sd0] at p1
      rw [if_pos (show (6 : Int32) ≤ 6 by decide), e1, bnd_s]
      refine ⟨σ1, ?_, w_smm0.tr (smf_smm s1), by rw [smf_thr s1, thr_w]⟩
      have h := mc_loop (σ := σ1) 25 0 FU (by omega) (by unfold FU; omega)
      have e : sm 25 (fun k => vI σ1 49 k) = sm 25 (lf σ n m) := sm_congr (fun k hk => p1 k hk)
      rw [e] at h
      exact h
  · rw [if_neg h1, if_pos z00, if_neg n10, if_pos z00]
    exact Or.inl ⟨h1, rfl⟩
end MTAKE
