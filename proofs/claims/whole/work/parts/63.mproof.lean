/-! The Model's proof, take, and by hand. -/
section MPROOF
variable {n m : Nat}
theorem mp_94 {σ0 : Mem} : ∀ (d j fu : Nat) (σ : Mem) (A : Int), j + d = m → d < fu → SMM σ0 σ → rI σ 35 0 = 0 → REL σ n m → INV σ n m →
    ∃ σ', fX3_proof_94 fu (oI (A + sm j (fun k => jPr σ0 n m k * vI σ0 6 k))) (nI j) σ = some (oI (A + sm m (fun k => jPr σ0 n m k * vI σ0 6 k)), σ') ∧ SMM σ0 σ' ∧ rI σ' 35 0 = 0 := by
  intro d
  induction d with
  | zero =>
    intro j fu σ A h1 h2 hs h0 hR hI
    obtain ⟨fu, rfl⟩ : ∃ q, fu = q + 1 := ⟨fu - 1, by omega⟩
    have h5 := hR.1.1
    have hj : j = m := by omega
    subst hj
    refine ⟨σ, ?_, hs, h0⟩
    show fX3_proof_94b _ _ _ _ = _
    unfold fX3_proof_94b
    rw [if_pos (le_nI hR.2.1.2 (by omega))]
  | succ d ih =>
    intro j fu σ A h1 h2 hs h0 hR hI
    obtain ⟨fu, rfl⟩ : ∃ q, fu = q + 1 := ⟨fu - 1, by omega⟩
    have h5 := hR.1.1
    have hj : j < m := by omega
    obtain ⟨σ1, e1, s1⟩ := m_priceJ hR hj
    rw [sd_jPr (smm_sd hs)] at e1
    have s01 := hs.tr (smt_smm s1)
    have R1 := smm_rel (smt_smm s1) hR
    have I1 := smm_inv (smt_smm s1) hI
    obtain ⟨σ', q1, q2, q3⟩ := ih (j + 1) fu σ1 A (by omega) (by omega) s01 (by rw [smt_thr s1]; exact h0) R1 I1
    refine ⟨σ', ?_, q2, q3⟩
    rw [← q1]
    show fX3_proof_94b _ _ _ _ = _
    unfold fX3_proof_94b ltI
    have e39 : rI σ1 39 j = oI (vI σ0 6 j) := by rw [oI_v, (R1.2.2.2.2.1 j hj).2, sd_vI (smm_sd s01) (by omega) (by omega)]
    rw [if_neg (not_le_nI hR.2.1.2 hj (by omega)), e1, bnd_s, inb_n (show j < 5 by omega) (by omega), grd_t, ix_n (n := j) (by omega), e39, oI_mul, oI_add, nI_1]
    congr 2
    show _ = A + (sm j (fun k => jPr σ0 n m k * vI σ0 6 k) + jPr σ0 n m j * vI σ0 6 j)
    omega
theorem mp_35 {σ0 : Mem} {i : Nat} (hi : i < n) (r9 : Int32 → Int32 → Mem → Option (Int32 × Mem)) : ∀ (d j fu : Nat) (σ : Mem) (A : Int), j + d = m → d < fu → SMM σ0 σ → rI σ 35 0 = 0 → REL σ n m → INV σ n m →
    ∃ σ', fX3_proof_35 r9 fu (oI (A - sm j (fun j => tcW σ0 n m i j))) (nI i) (nI j) σ = r9 (oI (A - sm m (fun j => tcW σ0 n m i j))) (nI (i + 1)) σ' ∧ SMM σ0 σ' ∧ rI σ' 35 0 = 0 ∧ REL σ' n m ∧ INV σ' n m := by
  intro d
  induction d with
  | zero =>
    intro j fu σ A h1 h2 hs h0 hR hI
    obtain ⟨fu, rfl⟩ : ∃ q, fu = q + 1 := ⟨fu - 1, by omega⟩
    have h5 := hR.1.1
    have hj : j = m := by omega
    subst hj
    refine ⟨σ, ?_, hs, h0, hR, hI⟩
    show fX3_proof_35b _ _ _ _ _ _ = _
    unfold fX3_proof_35b
    rw [if_pos (le_nI hR.2.1.2 (by omega)), nI_1]
  | succ d ih =>
    intro j fu σ A h1 h2 hs h0 hR hI
    obtain ⟨fu, rfl⟩ : ∃ q, fu = q + 1 := ⟨fu - 1, by omega⟩
    have h5 := hR.1.1
    have hj : j < m := by omega
    have hw : 5 * i + j < 25 := by omega
    have e41 : vI σ 41 (5 * i + j) = vI σ0 8 (5 * i + j) := by rw [(hR.2.2.2.2.2 _ hw).2.1, sd_vI (smm_sd hs) (by omega) (by omega)]
    have es : ∀ t : Int, t = tcW σ0 n m i j → A - sm j (fun j => tcW σ0 n m i j) - t = A - sm (j + 1) (fun j => tcW σ0 n m i j) := fun t ht => by
      show _ = A - (sm j (fun j => tcW σ0 n m i j) + tcW σ0 n m i j)
      omega
    have htc : tcW σ0 n m i j = tlW σ0 n m i j * max (vI σ0 8 (5 * i + j)) 0 := rfl
    by_cases h : vI σ0 8 (5 * i + j) ≤ 0
    · obtain ⟨σ', q1, q2⟩ := ih (j + 1) fu σ A (by omega) (by omega) hs h0 hR hI
      refine ⟨σ', ?_, q2⟩
      rw [← q1]
      show fX3_proof_35b _ _ _ _ _ _ = _
      unfold fX3_proof_35b fX3_proof_78 ltI
      rw [if_neg (not_le_nI hR.2.1.2 hj (by omega)), nI_way5, inb_n hw (by omega), grd_t, ix_n (n := 5 * i + j) (by omega), if_pos (by rw [leI, I_0]; show vI σ 41 _ ≤ 0; rw [e41]; exact h), nI_1]
      dsimp only
      have h00 : (0 : Int32) = oI 0 := rfl
      rw [h00, oI_sub, es 0 (by rw [htc, Int.max_eq_right h, Int.mul_zero])]
    · obtain ⟨σ1, e1, s1⟩ := m_tollOf hR hI hi hj
      rw [sd_tlW (smm_sd hs)] at e1
      have s01 := hs.tr (smt_smm s1)
      have R1 := smm_rel (smt_smm s1) hR
      have e41' : rI σ1 41 (5 * i + j) = oI (vI σ0 8 (5 * i + j)) := by rw [oI_v, (R1.2.2.2.2.2 _ hw).2.1, sd_vI (smm_sd s01) (by omega) (by omega)]
      obtain ⟨σ', q1, q2⟩ := ih (j + 1) fu σ1 A (by omega) (by omega) s01 (by rw [smt_thr s1]; exact h0) R1 (smm_inv (smt_smm s1) hI)
      refine ⟨σ', ?_, q2⟩
      rw [← q1]
      show fX3_proof_35b _ _ _ _ _ _ = _
      unfold fX3_proof_35b fX3_proof_78 ltI
      rw [if_neg (not_le_nI hR.2.1.2 hj (by omega)), nI_way5, inb_n hw (by omega), grd_t, ix_n (n := 5 * i + j) (by omega), if_neg (by rw [leI, I_0]; show ¬ vI σ 41 _ ≤ 0; rw [e41]; exact h), e1, bnd_s, grd_t]
      dsimp only
      rw [e41', oI_mul, oI_sub, es _ (by rw [htc, Int.max_eq_left (by omega)]), nI_1]
theorem mp_9 {σ0 : Mem} : ∀ (d i fu : Nat) (σ : Mem), i + d = n → d < fu → SMM σ0 σ → rI σ 35 0 = 0 → REL σ n m → INV σ n m →
    ∃ σ', fX3_proof_9 fu (oI (sm i (fun i => hPr σ0 n m i * vI σ0 3 i - sm m (fun j => tcW σ0 n m i j)))) (nI i) σ = some (oI (prf σ0 n m), σ') ∧ SMM σ0 σ' ∧ rI σ' 35 0 = 0 := by
  intro d
  induction d with
  | zero =>
    intro i fu σ h1 h2 hs h0 hR hI
    obtain ⟨fu, rfl⟩ : ∃ q, fu = q + 1 := ⟨fu - 1, by omega⟩
    have h5 := hR.1.1
    have hj : i = n := by omega
    subst hj
    obtain ⟨σ', q1, q2, q3⟩ := mp_94 (n := i) (m := m) (σ0 := σ0) m 0 FU σ (sm i (fun k => hPr σ0 i m k * vI σ0 3 k - sm m (fun j => tcW σ0 i m k j))) (by omega) (by unfold FU; omega) hs h0 hR hI
    refine ⟨σ', ?_, q2, q3⟩
    show fX3_proof_9b _ _ _ _ = _
    unfold fX3_proof_9b
    rw [if_pos (le_nI hR.2.1.1 (by omega))]
    have e0 : sm i (fun k => hPr σ0 i m k * vI σ0 3 k - sm m (fun j => tcW σ0 i m k j)) + sm 0 (fun k => jPr σ0 i m k * vI σ0 6 k) = sm i (fun k => hPr σ0 i m k * vI σ0 3 k - sm m (fun j => tcW σ0 i m k j)) := Int.add_zero _
    have e1 : sm i (fun k => hPr σ0 i m k * vI σ0 3 k - sm m (fun j => tcW σ0 i m k j)) + sm m (fun k => jPr σ0 i m k * vI σ0 6 k) = prf σ0 i m := by
      unfold prf
      rw [sm_sub]
      omega
    rw [e0, e1] at q1
    exact q1
  | succ d ih =>
    intro i fu σ h1 h2 hs h0 hR hI
    obtain ⟨fu, rfl⟩ : ∃ q, fu = q + 1 := ⟨fu - 1, by omega⟩
    have h5 := hR.1.1
    have hi : i < n := by omega
    obtain ⟨σ1, e1, s1⟩ := m_priceH hR hi
    rw [sd_hPr (smm_sd hs)] at e1
    have s01 := hs.tr (smt_smm s1)
    have R1 := smm_rel (smt_smm s1) hR
    have I1 := smm_inv (smt_smm s1) hI
    obtain ⟨σ2, w1, w2, w3, w4, w5⟩ := mp_35 (σ0 := σ0) hi (fX3_proof_9 fu) m 0 FU σ1 (sm i (fun i => hPr σ0 n m i * vI σ0 3 i - sm m (fun j => tcW σ0 n m i j)) + hPr σ0 n m i * vI σ0 3 i) (by omega) (by unfold FU; omega) s01 (by rw [smt_thr s1]; exact h0) R1 I1
    obtain ⟨σ', q1, q2, q3⟩ := ih (i + 1) fu σ2 (by omega) (by omega) w2 w3 w4 w5
    refine ⟨σ', ?_, q2, q3⟩
    have e0 : sm i (fun i => hPr σ0 n m i * vI σ0 3 i - sm m (fun j => tcW σ0 n m i j)) + hPr σ0 n m i * vI σ0 3 i - sm 0 (fun j => tcW σ0 n m i j) = sm i (fun i => hPr σ0 n m i * vI σ0 3 i - sm m (fun j => tcW σ0 n m i j)) + hPr σ0 n m i * vI σ0 3 i := Int.sub_zero _
    have e2 : sm i (fun i => hPr σ0 n m i * vI σ0 3 i - sm m (fun j => tcW σ0 n m i j)) + hPr σ0 n m i * vI σ0 3 i - sm m (fun j => tcW σ0 n m i j) = sm (i + 1) (fun i => hPr σ0 n m i * vI σ0 3 i - sm m (fun j => tcW σ0 n m i j)) := by
      show _ = sm i (fun i => hPr σ0 n m i * vI σ0 3 i - sm m (fun j => tcW σ0 n m i j)) + (hPr σ0 n m i * vI σ0 3 i - sm m (fun j => tcW σ0 n m i j))
      omega
    rw [e0, e2] at w1
    rw [← q1, ← w1]
    show fX3_proof_9b _ _ _ _ = _
    unfold fX3_proof_9b ltI
    have e37 : rI σ1 37 i = oI (vI σ0 3 i) := by rw [oI_v, (R1.2.2.2.1 i hi).2, sd_vI (smm_sd s01) (by omega) (by omega)]
    rw [if_neg (not_le_nI hR.2.1.1 hi (by omega)), e1, bnd_s, inb_n (show i < 5 by omega) (by omega), grd_t, ix_n (n := i) (by omega), e37, oI_mul, oI_add]
    rfl
theorem mt_proof {σ : Mem} (hR : REL σ n m) (hI : INV σ n m) : ∃ σ', fX3_proof σ = some (oI (prf σ n m), σ') ∧ SMM σ σ' ∧ rI σ' 35 0 = 0 := by
  have sd0 := smm_sd (w_smm0 (σ := σ) (v := 0))
  obtain ⟨σ', q1, q2, q3⟩ := mp_9 (n := n) (m := m) (σ0 := σ) n 0 FU (wI σ 35 0 0) (by omega) (by have := hR.1.1; unfold FU; omega) w_smm0 thr_w (w0_rel hR) (smm_inv w_smm0 hI)
  exact ⟨σ', q1, q2, q3⟩
end MPROOF
