/-! The carrier's plan: the best one. -/
def cno (un : Nat → Int) (w : Nat) : Int := 2 ^ 25 * un w - 2 ^ (24 - w)
theorem cno_bd {un : Nat → Int} (h : ∀ w, w < 25 → 0 ≤ un w ∧ un w ≤ 10000) : ∀ w, w < 25 → -16777216 ≤ cno un w ∧ cno un w ≤ Cmc := by
  intro w hw
  have h1 := h w hw
  have h2 : (0 : Int) ≤ 2 ^ (24 - w) ∧ (2 : Int) ^ (24 - w) ≤ 2 ^ 24 := by
    refine ⟨Int.le_of_lt (Int.pow_pos (by omega)), ?_⟩
    exact_mod_cast Nat.pow_le_pow_right (n := 2) (by omega) (show 24 - w ≤ 24 by omega)
  unfold cno Cmc
  omega
/-- the plan lies there: flow, ranks, what stays and lacks, its cost -/
def PLAN (b : Nat) (σ : Mem) (a bb u un : Nat → Int) (lo mi : Int) : Prop :=
  FLOW b σ u un lo mi ∧ (∀ w, w < 25 → 0 < u w → vJ σ (b + 6) w = cno un w) ∧
  (∀ i, i < 5 → vI σ (b + 1) i = a i - rowS (fl b σ) i ∧ 0 ≤ vI σ (b + 1) i ∧ 0 ≤ a i ∧ a i ≤ 21) ∧
  (∀ j, j < 5 → vI σ (b + 2) j = bb j - colS (fl b σ) j ∧ 0 ≤ vI σ (b + 2) j ∧ 0 ≤ bb j ∧ bb j ≤ 21) ∧
  vI σ b 4 = lo * sm 5 a + mi * sm 5 bb + tot (fun w => (un w - lo - mi) * fl b σ w)
/-- only the plan's own cells differ -/
def SMI (b : Nat) (σ σ' : Mem) : Prop := ∀ k, k < b ∨ b + 10 < k ∧ k < 35 → σ'.1 k = σ.1 k ∧ σ'.2 k = σ.2 k
theorem SMI.rf {b : Nat} {σ : Mem} : SMI b σ σ := fun _ _ => ⟨rfl, rfl⟩
theorem SMI.tr {b : Nat} {σ σ1 σ2 : Mem} (h1 : SMI b σ σ1) (h2 : SMI b σ1 σ2) : SMI b σ σ2 := fun k h => ⟨(h2 k h).1.trans (h1 k h).1, (h2 k h).2.trans (h1 k h).2⟩
theorem smp_smi {b : Nat} {σ σ' : Mem} (h : SMP b σ σ') : SMI b σ σ' := fun k hk => ⟨h.1 k (by omega) (by omega), h.2 k (by omega) (by omega)⟩
theorem smv_smi {b : Nat} {σ σ' : Mem} (h : SMV b σ σ') : SMI b σ σ' := fun k hk => ⟨h.1 k (by omega) (by omega) (by omega) (by omega) (by omega), by rw [h.2.2]⟩
section BEST
variable {b : Nat} {a bb u un : Nat → Int} {lo mi : Int}
theorem plan_memf {σ : Mem} (h : PLAN b σ a bb u un lo mi) : MEMF b σ (fl b σ) u (cno un) := by
  intro w hw
  obtain ⟨q1, q2, q3, q4, q5, q6, q7⟩ := h.1.1 w hw
  exact ⟨rfl, q4, q1, q2, h.2.1 w hw⟩
theorem smp_fl {σ σ' : Mem} (h : SMP b σ σ') : fl b σ' = fl b σ := by
  funext w
  exact smp_vI h (by omega) (by omega) w
theorem smp_plan {σ σ' : Mem} (hs : SMP b σ σ') (h : PLAN b σ a bb u un lo mi) : PLAN b σ' a bb u un lo mi := by
  obtain ⟨⟨h1, h2, h3, h4⟩, h5, h6, h7, h8⟩ := h
  have e : ∀ k, k < b + 6 → ∀ i, vI σ' k i = vI σ k i := fun k hk i => smp_vI hs (by omega) (by omega) i
  refine ⟨⟨fun w hw => ?_, h2, by rw [e _ (by omega)]; exact h3, by rw [e _ (by omega)]; exact h4⟩, fun w hw hu => by rw [smp_vJ hs (by omega) (by omega)]; exact h5 w hw hu, fun i hi => ?_, fun j hj => ?_, ?_⟩
  · rw [smp_fl hs, e _ (by omega), e _ (by omega)]; exact h1 w hw
  · rw [smp_fl hs, e _ (by omega)]; exact h6 i hi
  · rw [smp_fl hs, e _ (by omega)]; exact h7 j hj
  · rw [smp_fl hs, e _ (by omega)]; exact h8
theorem plan_row0 {σ : Mem} (h : PLAN b σ a bb u un lo mi) {i : Nat} (hi : i < 5) : 0 ≤ rowS (fl b σ) i := sm_nonneg (fun j hj => (h.1.1 (5 * i + j) (by omega)).1)
theorem plan_col0 {σ : Mem} (h : PLAN b σ a bb u un lo mi) {j : Nat} (hj : j < 5) : 0 ≤ colS (fl b σ) j := sm_nonneg (fun i hi => (h.1.1 (5 * i + j) (by omega)).1)
theorem plan_fea {σ : Mem} (h : PLAN b σ a bb u un lo mi) : Fea a bb u (fl b σ) := by
  refine ⟨fun w hw => ⟨(h.1.1 w hw).1, (h.1.1 w hw).2.1⟩, fun i hi => ?_, fun j hj => ?_⟩
  · have := h.2.2.1 i hi; omega
  · have := h.2.2.2.1 j hj; omega
theorem mul_bd {x y X Y : Int} (h1 : 0 ≤ x ∧ x ≤ X) (h2 : 0 ≤ y ∧ y ≤ Y) : 0 ≤ x * y ∧ x * y ≤ X * Y := by
  have e1 : x * y ≤ X * y := Int.mul_le_mul_of_nonneg_right h1.2 h2.1
  have e2 : X * y ≤ X * Y := Int.mul_le_mul_of_nonneg_left h2.2 (by omega)
  exact ⟨Int.mul_nonneg h1.1 h2.1, by omega⟩
theorem plan_cost {σ : Mem} (h : PLAN b σ a bb u un lo mi) : -100000000 ≤ vI σ b 4 ∧ vI σ b 4 ≤ 100000000 := by
  obtain ⟨⟨h1, h2, h3, h4⟩, h5, h6, h7, h8⟩ := h
  have k := kap_bd (un := un) (lo := lo) (mi := mi) (g := fl b σ) (fun w hw => ⟨(h1 w hw).2.2.2.2.1, (h1 w hw).2.2.2.2.2.1⟩) h2 (fun w hw => by obtain ⟨x1, x2, x3, -⟩ := h1 w hw; omega)
  have a1 : 0 ≤ sm 5 a ∧ sm 5 a ≤ 105 := by
    have q0 := h6 0 (by omega); have q1 := h6 1 (by omega); have q2 := h6 2 (by omega); have q3 := h6 3 (by omega); have q4 := h6 4 (by omega)
    simp only [sm]
    omega
  have b1 : 0 ≤ sm 5 bb ∧ sm 5 bb ≤ 105 := by
    have q0 := h7 0 (by omega); have q1 := h7 1 (by omega); have q2 := h7 2 (by omega); have q3 := h7 3 (by omega); have q4 := h7 4 (by omega)
    simp only [sm]
    omega
  have m1 := mul_bd (X := 10000) (Y := 105) ⟨h2.1, h2.2.1⟩ a1
  have m2 := mul_bd (X := 10000) (Y := 105) ⟨h2.2.2.1, h2.2.2.2⟩ b1
  omega
theorem Tb (h : 0 ≤ lo ∧ lo ≤ 10000 ∧ 0 ≤ mi ∧ mi ≤ 10000) : 2 ^ 25 * (lo + mi) ≤ 671088640000 := by omega
theorem improve_loop (hb : ki b = 3) : ∀ (d n fu : Nat) (σ : Mem) (φ : Nat → Int) (D : Int), n + d = 101 → d + 1 < fu → PLAN b σ a bb u un lo mi → OPX b σ u → (n : Int) + sm 5 (fun j => vI σ (b + 2) j) ≤ 100 → CertN a bb u (cno un) (fl b σ) φ D → (∀ v, v < 10 → -Cmc ≤ φ v) → D ≤ 2 ^ 25 * (lo + mi) →
    ∃ (σ' : Mem) (p q : Nat → Int), fX0_improve_4 fu b 1 (nI n) σ = some (0, σ') ∧ SMI b σ σ' ∧ PLAN b σ' a bb u un lo mi ∧ Cert a bb u (cno un) (fl b σ') p q (2 ^ 25 * (lo + mi)) := by
  intro d
  induction d with
  | zero =>
    intro n fu σ φ D h1 h2 hP hO hn hC hφ hD
    exfalso
    have : 0 ≤ sm 5 (fun j => vI σ (b + 2) j) := sm_nonneg (fun j hj => (hP.2.2.2.1 j hj).2.1)
    omega
  | succ d ih =>
    intro n fu σ φ D h1 h2 hP hO hn hC hφ hD
    obtain ⟨fu, rfl⟩ : ∃ q, fu = q + 2 := ⟨fu - 2, by omega⟩
    have hun : ∀ w, w < 25 → 0 ≤ un w ∧ un w ≤ 10000 := fun w hw => ⟨(hP.1.1 w hw).2.2.2.2.1, (hP.1.1 w hw).2.2.2.2.2.1⟩
    have hlm := hP.1.2.1
    have hT := Tb hlm
    have hcn : ∀ w, w < 25 → -Cmc ≤ cno un w ∧ cno un w ≤ Cmc := fun w hw => by have := cno_bd hun w hw; unfold Cmc at *; omega
    have hCm : (0 : Int) ≤ Cmc := by unfold Cmc; omega
    have hfar : 11 * Cmc < FARc := by unfold Cmc FARc; omega
    have hF0 : (0 : Int) < FARc := by unfold FARc; omega
    have hPot := pot_of_cert hC hCm hcn
    obtain ⟨σ1, e1, s1, B1, p1, X1⟩ := s_findPaths hb hPot hcn hφ (plan_memf hP) hO (fun i hi => (hP.2.2.1 i hi).1)
    have hP1 := smp_plan s1 hP
    have hfl1 := smp_fl s1
    have hla : ∀ j, j < 5 → vI σ1 (b + 2) j = bb j - colS (fl b σ) j := fun j hj => by rw [← hfl1]; exact (hP1.2.2.2.1 j hj).1
    obtain ⟨r, e2, hN⟩ := s_nearestHole hP1.1.2.2.1 hP1.1.2.2.2 ⟨hlm.1, hlm.2.1⟩ ⟨hlm.2.2.1, hlm.2.2.2⟩
    show ∃ σ' p q, fX0_improve_4b _ _ _ _ _ = _ ∧ _
    unfold fX0_improve_4b
    have hn101 : ¬ (101 : Int32) < nI n := by
      rw [ltI', nI_t (by omega)]
      have : ((101 : Int32)).toInt = 101 := by decide
      omega
    rw [if_neg (by decide), if_neg hn101, e1, bnd_s, e2, bnd_s]
    rcases hN with ⟨rfl, hnone⟩ | ⟨t, ht, rfl, t1, t2, t3⟩
    · rw [if_pos rfl]
      have hfin := cert_fin hC hcn hCm hfar hF0 hD B1 X1 (fun j hj h _ => by rw [lab_j]; exact hnone j hj (by have := hla j hj; omega))
      refine ⟨σ1, _, _, ?_, smp_smi s1, hP1, by rw [hfl1]; exact hfin⟩
      unfold fX0_improve_45 fX0_improve_46
      show fX0_improve_4b _ _ _ _ _ = _
      unfold fX0_improve_4b
      rw [if_pos rfl]
      rfl
    · rw [if_neg (nI_neg1 (by omega))]
      have htf : lab b σ1 (5 + t) < FARc := by rw [lab_j]; unfold FARc; omega
      have hm1 := smp_memf s1 (plan_memf hP)
      have hst1 : ∀ i, i < 5 → vI σ1 (b + 1) i = a i - rowS (fl b σ) i := fun i hi => by rw [← hfl1]; exact (hP1.2.2.1 i hi).1
      obtain ⟨δ, e3, d1, d2, d3⟩ := s_roomOnPath B1 p1 hm1 hst1 ht htf (by omega)
      rw [e3, bnd_s]
      obtain ⟨rk, hrk⟩ := B1.2.2.2.1
      have hs0 : ∀ i, i < 5 → 0 ≤ vI σ1 (b + 1) i ∧ vI σ1 (b + 1) i ≤ 21 := fun i hi => by
        have := hP1.2.2.1 i hi
        have := plan_row0 hP1 hi
        omega
      have hl0 : ∀ j, j < 5 → 0 ≤ vI σ1 (b + 2) j ∧ vI σ1 (b + 2) j ≤ 21 := fun j hj => by
        have := hP1.2.2.2.1 j hj
        have := plan_col0 hP1 hj
        omega
      have hlt := hl0 t ht
      obtain ⟨σ2, i0, e4, hi0, on0, pn0, C2⟩ := carry_loop (un := un) (lo := lo) (mi := mi) (bb := bb) B1 p1 hm1 hrk hs0 hl0 (plan_cost hP1) ht ⟨d1, by omega⟩ d3 5 0 FU t σ1 [] (by omega) (by unfold FU; omega) ht htf (onch_self _ _) (by simp) rfl (fun y hy => by cases hy)
        ⟨SMV.rf, hP1.1, fun i j hi hj => Or.inl (by rw [hfl1]), fun i hi => ⟨(Int.sub_zero _).symm, by rw [hfl1]; exact (Int.add_zero _).symm⟩, fun j hj => ⟨by dsimp only; omega, by rw [hfl1]; dsimp only; omega⟩, by rw [hfl1]; omega⟩ (fun i j hi hj _ _ => by rw [hfl1])
      have e4' : fX0_carryAlongPath b (nI t) δ σ1 = some (1, σ2) := e4
      rw [e4', bnd_s, if_neg (by decide)]
      obtain ⟨c1, c2, c3, c4, c5, c6⟩ := C2
      have hst2 := (d3 i0 on0).2.2 hi0 pn0
      have c4a : ∀ i, i < 5 → vI σ2 (b + 1) i = vI σ1 (b + 1) i - (if i = i0 then δ.toInt else 0) ∧ rowS (fl b σ2) i = rowS (fl b σ) i + (if i = i0 then δ.toInt else 0) := c4
      have c5a : ∀ j, j < 5 → vI σ2 (b + 2) j = vI σ1 (b + 2) j - (if j = t then δ.toInt else 0) ∧ colS (fl b σ2) j = colS (fl b σ) j + (if j = t then δ.toInt else 0) := c5
      have hP2 : PLAN b σ2 a bb u un lo mi := by
        refine ⟨c2, fun w hw hu => by rw [smv_vJ c1]; exact hP1.2.1 w hw hu, fun i hi => ?_, fun j hj => ?_, ?_⟩
        · obtain ⟨x1, x2⟩ := c4a i hi
          have := hst1 i hi
          have y := hP1.2.2.1 i hi
          refine ⟨by omega, ?_, y.2.2.1, y.2.2.2⟩
          by_cases e : i = i0
          · rw [e] at x1 ⊢
            rw [if_pos rfl] at x1
            omega
          · rw [if_neg e] at x1
            omega
        · obtain ⟨x1, x2⟩ := c5a j hj
          have := hla j hj
          have y := hP1.2.2.2.1 j hj
          refine ⟨by omega, ?_, y.2.2.1, y.2.2.2⟩
          by_cases e : j = t
          · rw [e] at x1 ⊢
            rw [if_pos rfl] at x1
            omega
          · rw [if_neg e] at x1
            omega
        · have := hP1.2.2.2.2
          rw [hfl1] at this
          omega
      obtain ⟨hC2, hDl⟩ := cert_aug (f' := fl b σ2) hC hcn hCm hfar hF0 B1 X1 ht (by have := hla t ht; omega) htf (fun j hj h _ => by rw [lab_j, lab_j]; exact t3 j hj (by have := hla j hj; omega)) c3
        (fun i hi => by
          obtain ⟨x1, x2⟩ := c4a i hi
          refine ⟨fun h => ?_, ?_⟩
          · rw [x2] at h
            split at h <;> omega
          · by_cases e : i = i0
            · exact Or.inr ⟨by rw [e]; exact on0, by rw [e]; exact pn0⟩
            · rw [if_neg e] at x2
              exact Or.inl (by omega))
        (fun j hj => by
          obtain ⟨x1, x2⟩ := c5a j hj
          refine ⟨fun h => ?_, ?_⟩
          · rw [x2] at h
            split at h <;> omega
          · by_cases e : j = t
            · exact Or.inr e
            · rw [if_neg e] at x2
              exact Or.inl (by omega))
      have hsum : sm 5 (fun j => vI σ2 (b + 2) j) = sm 5 (fun j => vI σ (b + 2) j) - δ.toInt := by
        rw [sm_congr (fun j hj => (c5a j hj).1), sm_sub, sm_single _ _ _ ht]
        rw [sm_congr (g := fun j => vI σ1 (b + 2) j) (h := fun j => vI σ (b + 2) j) (fun j hj => smp_vI s1 (by omega) (by omega) j)]
      obtain ⟨σ', p, q, w1, w2, w3, w4⟩ := ih (n + 1) (fu + 1) σ2 _ _ (by omega) (by omega) hP2 (smv_opx c1 (smp_opx s1 hO)) (by rw [hsum]; omega) hC2 (fun v hv => by
        have := nxt_ge (K := lab b σ1 (5 + t) - D) B1 (by omega) hv
        have := hφ v hv
        omega) (by rw [lab_j]; omega)
      refine ⟨σ', p, q, ?_, ((smp_smi s1).tr (smv_smi c1)).tr w2, w3, w4⟩
      rw [← w1, ← nI_1]
      rfl
theorem s_improve (hb : ki b = 3) {σ : Mem} (hP : PLAN b σ a bb u un lo mi) (hO : OPX b σ u) (h0 : ∀ w, w < 25 → fl b σ w = 0) (hs : sm 5 bb ≤ 100) :
    ∃ (σ' : Mem) (p q : Nat → Int), fX0_improve b σ = some (0, σ') ∧ SMI b σ σ' ∧ PLAN b σ' a bb u un lo mi ∧ Cert a bb u (cno un) (fl b σ') p q (2 ^ 25 * (lo + mi)) := by
  have hun : ∀ w, w < 25 → 0 ≤ un w ∧ un w ≤ 10000 := fun w hw => ⟨(hP.1.1 w hw).2.2.2.2.1, (hP.1.1 w hw).2.2.2.2.2.1⟩
  have hcol : ∀ j, j < 5 → colS (fl b σ) j = 0 := fun j hj => by
    unfold colS
    rw [sm_congr (h := fun _ => 0) (fun i hi => h0 (5 * i + j) (by omega)), sm_zero]
  have hrow : ∀ i, i < 5 → rowS (fl b σ) i = 0 := fun i hi => by
    unfold rowS
    rw [sm_congr (h := fun _ => 0) (fun j hj => h0 (5 * i + j) (by omega)), sm_zero]
  have hC : CertN a bb u (cno un) (fl b σ) (fun v => if v < 5 then 0 else -16777216) (-16777216) := by
    obtain ⟨c1, c2, c3, c4, c5, c6⟩ := cert_zero (a := a) (b := bb) (u := u) (c := cno un) (D0 := -16777216) (fun w hw => (cno_bd hun w hw).1)
    have hr0 : ∀ i, rowS (fun _ => 0) i = 0 := fun i => sm_zero 5
    have hc0 : ∀ i, colS (fun _ => 0) i = 0 := fun i => sm_zero 5
    refine ⟨fun i j hi hj h => c1 i j hi hj (by rw [h0 _ (by omega)] at h; exact h), fun i j hi hj h => absurd h (by rw [h0 _ (by omega)]; omega), fun i hi h => c3 i hi (by rw [hr0, ← hrow i hi]; exact h), fun i hi h => absurd h (by rw [hrow i hi]; omega), fun j hj h => c5 j hj (by rw [hc0, ← hcol j hj]; exact h), fun j hj h => absurd h (by rw [hcol j hj]; omega)⟩
  refine improve_loop hb 101 0 FU σ _ _ (by omega) (by unfold FU; omega) hP hO ?_ hC (fun v hv => by unfold Cmc; split <;> omega) (by have := hP.1.2.1; omega)
  rw [sm_congr (h := bb) (fun j hj => by have := (hP.2.2.2.1 j hj).1; rw [hcol j hj] at this; omega)]
  omega
end BEST
