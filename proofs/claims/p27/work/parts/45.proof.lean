/-! The prices' proof. -/
noncomputable def tcW (σ : Mem) (n m i j : Nat) : Int := tlW σ n m i j * max (vI σ 8 (5 * i + j)) 0
noncomputable def prf (σ : Mem) (n m : Nat) : Int := sm n (fun k => hPr σ n m k * vI σ 3 k) + sm m (fun k => jPr σ n m k * vI σ 6 k) - sm n (fun i => sm m (fun j => tcW σ n m i j))
section PROOF
variable {σ : Mem} {n m : Nat}
theorem not_le_nI {σ : Mem} {k i n j : Nat} (h : vI σ k i = n) (hj : j < n) (hn : n ≤ 1000) : ¬ rI σ k i ≤ nI j := by
  rw [leI, nI_t (by omega)]
  unfold vI at h
  omega
theorem le_nI {σ : Mem} {k i n : Nat} (h : vI σ k i = n) (hn : n ≤ 1000) : rI σ k i ≤ nI n := by
  rw [leI, nI_t (by omega)]
  unfold vI at h
  omega
theorem pr_115 (hD : DAT σ n m) (h11 : ∀ i, i < n → rI σ 11 i = oI (hPr σ n m i)) (h12 : ∀ j, j < m → rI σ 12 j = oI (jPr σ n m j)) (b11 : ∀ i, i < n → -200000000 ≤ hPr σ n m i ∧ hPr σ n m i ≤ 200000000) (b12 : ∀ i, i < m → -200000000 ≤ jPr σ n m i ∧ jPr σ n m i ≤ 200000000) {i : Nat} (hi : i < n) (r102 : Int32 → Int32 → Mem → Option (Int32 × Mem)) :
    ∀ (d j fu : Nat) (A : Int), j + d = m → d < fu → fX2_proof_115 r102 fu (oI (A - sm j (fun j => tcW σ n m i j))) (nI i) (nI j) σ = r102 (oI (A - sm m (fun j => tcW σ n m i j))) (nI (i + 1)) σ := by
  have h5 := hD.1
  intro d
  induction d with
  | zero =>
    intro j fu A h1 h2
    obtain ⟨fu, rfl⟩ : ∃ q, fu = q + 1 := ⟨fu - 1, by omega⟩
    have hj : j = m := by omega
    subst hj
    show fX2_proof_115b _ _ _ _ _ _ = _
    unfold fX2_proof_115b
    rw [if_pos (le_nI h5.2.2.1 (by omega)), nI_1]
  | succ d ih =>
    intro j fu A h1 h2
    obtain ⟨fu, rfl⟩ : ∃ q, fu = q + 1 := ⟨fu - 1, by omega⟩
    rw [← ih (j + 1) fu A (by omega) (by omega)]
    show fX2_proof_115b _ _ _ _ _ _ = _
    unfold fX2_proof_115b
    have hj : j < m := by omega
    rw [if_neg (not_le_nI h5.2.2.1 hj (by omega)), inb_n (show i < 5 by omega) (by omega), grd_t, inb_n (show j < 5 by omega) (by omega), grd_t, ix_n (n := i) (by omega), ix_n (n := j) (by omega), h11 i hi, h12 j hj, v_tollOf hD hi hj (b11 i hi) (b12 j hj), bnd_s, s_wayOf, bnd_s, inb_n (show 5 * i + j < 25 by omega) (by omega), grd_t, ix_n (n := 5 * i + j) (by omega)]
    unfold ltI
    dsimp only
    have e : mxI (rI σ 8 (5 * i + j)) 0 = oI (max (vI σ 8 (5 * i + j)) 0) := oI_e (by rw [mxI_t, I_0]; rfl)
    rw [e, oI_mul, oI_sub, nI_1]
    congr 2
    show _ = A - (sm j (fun j => tcW σ n m i j) + tcW σ n m i j)
    have : tcW σ n m i j = tlF (vI σ 8 (5 * i + j)) (hPr σ n m i) (jPr σ n m j) (unD σ i j) * max (vI σ 8 (5 * i + j)) 0 := rfl
    rw [this]
    omega
theorem pr_102 (hD : DAT σ n m) (h11 : ∀ i, i < n → rI σ 11 i = oI (hPr σ n m i)) (h12 : ∀ j, j < m → rI σ 12 j = oI (jPr σ n m j)) (b11 : ∀ i, i < n → -200000000 ≤ hPr σ n m i ∧ hPr σ n m i ≤ 200000000) (b12 : ∀ i, i < m → -200000000 ≤ jPr σ n m i ∧ jPr σ n m i ≤ 200000000) :
    ∀ (d i fu : Nat) (A : Int), i + d = n → d < fu → fX2_proof_102 fu (oI (A - sm i (fun i => sm m (fun j => tcW σ n m i j)))) (nI i) σ = some (oI (A - sm n (fun i => sm m (fun j => tcW σ n m i j))), σ) := by
  have h5 := hD.1
  intro d
  induction d with
  | zero =>
    intro i fu A h1 h2
    obtain ⟨fu, rfl⟩ : ∃ q, fu = q + 1 := ⟨fu - 1, by omega⟩
    have hj : i = n := by omega
    subst hj
    show fX2_proof_102b _ _ _ _ = _
    unfold fX2_proof_102b
    rw [if_pos (le_nI h5.1 (by omega))]
  | succ d ih =>
    intro i fu A h1 h2
    obtain ⟨fu, rfl⟩ : ∃ q, fu = q + 1 := ⟨fu - 1, by omega⟩
    rw [← ih (i + 1) fu A (by omega) (by omega)]
    show fX2_proof_102b _ _ _ _ = _
    unfold fX2_proof_102b
    have hi : i < n := by omega
    have key := pr_115 hD h11 h12 b11 b12 hi (fX2_proof_102 fu) m 0 FU (A - sm i (fun i => sm m (fun j => tcW σ n m i j))) (by omega) (by unfold FU; omega)
    rw [if_neg (not_le_nI h5.1 hi (by omega))]
    have e0 : A - sm i (fun i => sm m (fun j => tcW σ n m i j)) - sm 0 (fun j => tcW σ n m i j) = A - sm i (fun i => sm m (fun j => tcW σ n m i j)) := by
      show A - sm i (fun i => sm m (fun j => tcW σ n m i j)) - 0 = _
      omega
    rw [e0] at key
    have e1 : A - sm i (fun i => sm m (fun j => tcW σ n m i j)) - sm m (fun j => tcW σ n m i j) = A - sm (i + 1) (fun i => sm m (fun j => tcW σ n m i j)) := by
      show _ = A - (sm i (fun i => sm m (fun j => tcW σ n m i j)) + sm m (fun j => tcW σ n m i j))
      omega
    rw [e1] at key
    exact key
theorem pr_53 {σ0 : Mem} (b11 : ∀ i, i < n → -200000000 ≤ hPr σ0 n m i ∧ hPr σ0 n m i ≤ 200000000) :
    ∀ (d j fu : Nat) (σ : Mem) (A : Int), j + d = m → d < fu → INV σ n m → SR σ0 σ → (∀ i, i < n → rI σ 11 i = oI (hPr σ0 n m i)) → (∀ k, k < j → rI σ 12 k = oI (jPr σ0 n m k) ∧ -200000000 ≤ jPr σ0 n m k ∧ jPr σ0 n m k ≤ 200000000) →
    ∃ σ', fX2_proof_53 fu (oI (A + sm j (fun k => jPr σ0 n m k * vI σ0 6 k))) (nI j) σ = some (oI (A + sm m (fun k => jPr σ0 n m k * vI σ0 6 k) - sm n (fun i => sm m (fun j => tcW σ0 n m i j))), σ') ∧ SR σ0 σ' ∧ INV σ' n m := by
  intro d
  induction d with
  | zero =>
    intro j fu σ A h1 h2 hI hs h11 h12
    obtain ⟨fu, rfl⟩ : ∃ q, fu = q + 1 := ⟨fu - 1, by omega⟩
    have h5 := hI.1.1
    have hj : j = m := by omega
    subst hj
    have sd := sr_sd hs
    refine ⟨σ, ?_, hs, hI⟩
    show fX2_proof_53b _ _ _ _ = _
    unfold fX2_proof_53b
    rw [if_pos (le_nI h5.2.2.1 (by omega))]
    have key := pr_102 (A := A + sm j (fun k => jPr σ0 n j k * vI σ0 6 k)) hI.1 (fun i hi => by rw [sd_hPr sd]; exact h11 i hi) (fun k hk => by rw [sd_jPr sd]; exact (h12 k hk).1) (fun i hi => by rw [sd_hPr sd]; exact b11 i hi) (fun k hk => by rw [sd_jPr sd]; exact (h12 k hk).2) n 0 FU (by omega) (by unfold FU; omega)
    have et : ∀ i k, tcW σ n j i k = tcW σ0 n j i k := fun i k => by unfold tcW; rw [sd_tlW sd, sd_vI sd (by omega) (by omega)]
    simp only [et] at key
    have e0 : A + sm j (fun k => jPr σ0 n j k * vI σ0 6 k) - sm 0 (fun i => sm j (fun k => tcW σ0 n j i k)) = A + sm j (fun k => jPr σ0 n j k * vI σ0 6 k) := by
      show A + sm j (fun k => jPr σ0 n j k * vI σ0 6 k) - 0 = _
      omega
    rw [e0] at key
    exact key
  | succ d ih =>
    intro j fu σ A h1 h2 hI hs h11 h12
    obtain ⟨fu, rfl⟩ : ∃ q, fu = q + 1 := ⟨fu - 1, by omega⟩
    have h5 := hI.1.1
    have hj : j < m := by omega
    obtain ⟨σ1, e1, s1, I1, b1⟩ := v_holePrice hI hj
    rw [sd_jPr (sr_sd hs)] at e1 b1
    have s2 : SR σ0 (wI σ1 12 j (oI (jPr σ0 n m j))) := (hs.tr (sq_sr s1)).tr (w_sr (by omega))
    have I2 : INV (wI σ1 12 j (oI (jPr σ0 n m j))) n m := inv_w (by omega) I1
    obtain ⟨σ', q1, q2, q3⟩ := ih (j + 1) fu (wI σ1 12 j (oI (jPr σ0 n m j))) A (by omega) (by omega) I2 s2 (fun i hi => by
        rw [rI_w, if_neg (by omega)]
        have := h11 i hi
        unfold rI at this ⊢
        rw [(s1.1 11 (by omega) (by omega)).1]
        exact this) (fun k hk => by
        rw [rI_w]
        by_cases e : k = j
        · subst e; rw [if_pos ⟨rfl, rfl⟩]; exact ⟨rfl, b1⟩
        · rw [if_neg (fun q => e q.2)]
          have := h12 k (by omega)
          unfold rI at this ⊢
          rw [(s1.1 12 (by omega) (by omega)).1]
          exact this)
    refine ⟨σ', ?_, q2, q3⟩
    rw [← q1]
    show fX2_proof_53b _ _ _ _ = _
    unfold fX2_proof_53b
    rw [if_neg (not_le_nI h5.2.2.1 hj (by omega)), e1, bnd_s]
    have e6 : rI (wI σ1 12 j (oI (jPr σ0 n m j))) 6 j = oI (vI σ0 6 j) := by rw [oI_v, sd_vI (sr_sd s2) (by omega) (by omega)]
    have e12 : rI (wI σ1 12 j (oI (jPr σ0 n m j))) 12 j = oI (jPr σ0 n m j) := by rw [rI_w, if_pos ⟨rfl, rfl⟩]
    simp only [inb_n (show j < 5 by omega) (show 5 < 2147483648 by omega), grd_t, ix_n (show j < 2147483648 by omega), ltM, ltI]
    rw [e6, e12, oI_mul, oI_add, nI_1]
    congr 2
    show _ = A + (sm j (fun k => jPr σ0 n m k * vI σ0 6 k) + jPr σ0 n m j * vI σ0 6 j)
    omega
theorem pr_4 {σ0 : Mem} : ∀ (d j fu : Nat) (σ : Mem), j + d = n → d < fu → INV σ n m → SR σ0 σ → (∀ i, i < j → rI σ 11 i = oI (hPr σ0 n m i) ∧ -200000000 ≤ hPr σ0 n m i ∧ hPr σ0 n m i ≤ 200000000) →
    ∃ σ', fX2_proof_4 fu (oI (sm j (fun k => hPr σ0 n m k * vI σ0 3 k))) (nI j) σ = some (oI (prf σ0 n m), σ') ∧ SR σ0 σ' ∧ INV σ' n m := by
  intro d
  induction d with
  | zero =>
    intro j fu σ h1 h2 hI hs h11
    obtain ⟨fu, rfl⟩ : ∃ q, fu = q + 1 := ⟨fu - 1, by omega⟩
    have h5 := hI.1.1
    have hj : j = n := by omega
    subst hj
    obtain ⟨σ', q1, q2, q3⟩ := pr_53 (σ0 := σ0) (n := j) (m := m) (fun i hi => (h11 i hi).2) m 0 FU σ (sm j (fun k => hPr σ0 j m k * vI σ0 3 k)) (by omega) (by unfold FU; omega) hI hs (fun i hi => (h11 i hi).1) (fun k hk => absurd hk (by omega))
    refine ⟨σ', ?_, q2, q3⟩
    show fX2_proof_4b _ _ _ _ = _
    unfold fX2_proof_4b
    rw [if_pos (le_nI h5.1 (by omega))]
    have e0 : sm j (fun k => hPr σ0 j m k * vI σ0 3 k) + sm 0 (fun k => jPr σ0 j m k * vI σ0 6 k) = sm j (fun k => hPr σ0 j m k * vI σ0 3 k) := by
      show sm j (fun k => hPr σ0 j m k * vI σ0 3 k) + 0 = _
      omega
    rw [e0] at q1
    exact q1
  | succ d ih =>
    intro j fu σ h1 h2 hI hs h11
    obtain ⟨fu, rfl⟩ : ∃ q, fu = q + 1 := ⟨fu - 1, by omega⟩
    have h5 := hI.1.1
    have hj : j < n := by omega
    obtain ⟨σ1, e1, s1, I1, b1⟩ := v_heapPrice hI hj
    rw [sd_hPr (sr_sd hs)] at e1 b1
    have s2 : SR σ0 (wI σ1 11 j (oI (hPr σ0 n m j))) := (hs.tr (sq_sr s1)).tr (w_sr (by omega))
    have I2 : INV (wI σ1 11 j (oI (hPr σ0 n m j))) n m := inv_w (by omega) I1
    obtain ⟨σ', q1, q2, q3⟩ := ih (j + 1) fu (wI σ1 11 j (oI (hPr σ0 n m j))) (by omega) (by omega) I2 s2 (fun k hk => by
        rw [rI_w]
        by_cases e : k = j
        · subst e; rw [if_pos ⟨rfl, rfl⟩]; exact ⟨rfl, b1⟩
        · rw [if_neg (fun q => e q.2)]
          have := h11 k (by omega)
          unfold rI at this ⊢
          rw [(s1.1 11 (by omega) (by omega)).1]
          exact this)
    refine ⟨σ', ?_, q2, q3⟩
    rw [← q1]
    show fX2_proof_4b _ _ _ _ = _
    unfold fX2_proof_4b
    rw [if_neg (not_le_nI h5.1 hj (by omega)), e1, bnd_s]
    have e6 : rI (wI σ1 11 j (oI (hPr σ0 n m j))) 3 j = oI (vI σ0 3 j) := by rw [oI_v, sd_vI (sr_sd s2) (by omega) (by omega)]
    have e12 : rI (wI σ1 11 j (oI (hPr σ0 n m j))) 11 j = oI (hPr σ0 n m j) := by rw [rI_w, if_pos ⟨rfl, rfl⟩]
    simp only [inb_n (show j < 5 by omega) (show 5 < 2147483648 by omega), grd_t, ix_n (show j < 2147483648 by omega), ltM, ltI]
    rw [e6, e12, oI_mul, oI_add, nI_1]
    rfl
theorem v_proof (hI : INV σ n m) : ∃ σ', fX2_proof σ = some (oI (prf σ n m), σ') ∧ SR σ σ' ∧ INV σ' n m :=
  pr_4 n 0 FU σ (by omega) (by unfold FU; have := hI.1.1; omega) hI SR.rf (fun i h => absurd h (by omega))
end PROOF
