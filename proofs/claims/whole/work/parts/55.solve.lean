/-! The Model's least cost. -/
/-- only the plan and the labels differ -/
def SMS (σ σ' : Mem) : Prop := (∀ k, k ≠ 46 → k ≠ 47 → k ≠ 48 → σ'.1 k = σ.1 k) ∧ σ'.2 = σ.2
theorem SMS.rf {σ : Mem} : SMS σ σ := ⟨fun _ _ _ _ => rfl, rfl⟩
theorem SMS.tr {σ σ1 σ2 : Mem} (h1 : SMS σ σ1) (h2 : SMS σ1 σ2) : SMS σ σ2 := ⟨fun k a b c => (h2.1 k a b c).trans (h1.1 k a b c), h2.2.trans h1.2⟩
theorem sms_vI {σ σ' : Mem} (h : SMS σ σ') {k : Nat} (h1 : k ≠ 46) (h2 : k ≠ 47) (h3 : k ≠ 48) (i : Nat) : vI σ' k i = vI σ k i := by
  unfold vI rI; rw [h.1 k h1 h2 h3]
theorem sms_smm {σ σ' : Mem} (h : SMS σ σ') : SMM σ σ' := ⟨fun k h1 h2 => ⟨h.1 k (by omega) (by omega) (by omega), by rw [h.2]⟩, fun i _ => by unfold rI; rw [h.1 35 (by omega) (by omega) (by omega)]⟩
theorem sml_sms {σ σ' : Mem} (h : SML σ σ') : SMS σ σ' := ⟨fun k _ h1 h2 => h.1 k h1 h2, h.2⟩
/-- what is there, what is wanted, the most -/
def M0 (σ : Mem) (n m : Nat) (a bb u : Nat → Int) : Prop :=
  (∀ i, i < 5 → vI σ 43 i = a i ∧ 0 ≤ a i ∧ a i ≤ 21 ∧ (n ≤ i → a i = 0)) ∧ (∀ j, j < 5 → vI σ 44 j = bb j ∧ 0 ≤ bb j ∧ bb j ≤ 21 ∧ (m ≤ j → bb j = 0)) ∧
  ∀ w, w < 25 → 0 ≤ u w ∧ u w ≤ 40 ∧ (w / 5 < n ∧ w % 5 < m → vI σ 45 w = u w) ∧ (¬ (w / 5 < n ∧ w % 5 < m) → u w = 0)
theorem sms_m0 {σ σ' : Mem} {n m : Nat} {a bb u : Nat → Int} (h : SMS σ σ') (hM : M0 σ n m a bb u) : M0 σ' n m a bb u := by
  obtain ⟨h1, h2, h3⟩ := hM
  exact ⟨fun i hi => by rw [sms_vI h (by omega) (by omega) (by omega)]; exact h1 i hi, fun i hi => by rw [sms_vI h (by omega) (by omega) (by omega)]; exact h2 i hi, fun w hw => by rw [sms_vI h (by omega) (by omega) (by omega)]; exact h3 w hw⟩
theorem mm_of {σ : Mem} {n m : Nat} {a bb u f : Nat → Int} (hM : M0 σ n m a bb u) (hf : ∀ w, w < 25 → vI σ 46 w = f w) (hF : Fea a bb u f) : MM σ n m a bb u f :=
  ⟨hM.1, hM.2.1, fun w hw => ⟨hf w hw, (hM.2.2 w hw).2⟩, hF⟩
section SOLVE
variable {n m : Nat} {a bb u c f φ : Nat → Int} {D : Int}
theorem gnW_bd {σ : Mem} (hD : DAT σ n m) : ∀ w, w < 25 → -20000 ≤ gnW σ n m w ∧ gnW σ n m w ≤ 20000 := fun w hw => by
  have h1 := unW_bd hD w hw
  have h2 := hD.2.2.2.2.2.2.2.2
  unfold gnW
  omega
theorem m_carryOne {σ : Mem} (hR : REL σ n m) (h0 : M0 σ n m a bb u) (hf : ∀ w, w < 25 → vI σ 46 w = f w) (hF : Fea a bb u f) (hc : ∀ w, w < 25 → c w = gnW σ n m w ∧ -20000 ≤ c w ∧ c w ≤ 20000) (hC : CertN a bb u c f φ D) (hφ : ∀ v, v < 10 → -20000 ≤ φ v) (hD : D ≤ 0) :
    ∃ r σ', fX3_carryOne σ = some (r, σ') ∧ SMS σ σ' ∧ ((r = 1 ∧ ∃ φ' D', Fea a bb u (vI σ' 46) ∧ CertN a bb u c (vI σ' 46) φ' D' ∧ (∀ v, v < 10 → -20000 ≤ φ' v) ∧ D' ≤ 0 ∧ sm 5 (fun j => bb j - colS (vI σ' 46) j) + 1 = sm 5 (fun j => bb j - colS f j)) ∨ (r = 0 ∧ (∀ w, w < 25 → vI σ' 46 w = f w) ∧ ∃ p q, Cert a bb u c f p q 0)) := by
  have hM := mm_of h0 hf hF
  have h5 := hR.1.1
  have hcb : ∀ w, w < 25 → -20000 ≤ c w ∧ c w ≤ 20000 := fun w hw => (hc w hw).2
  have hP := pot_of_cert hC (by omega) hcb
  have hfar : (11 : Int) * 20000 < FRm := by unfold FRm; omega
  have hF0 : (0 : Int) < FRm := by unfold FRm; omega
  obtain ⟨σ1, e1, s1, B1, X1⟩ := m_labels hR hM hP hφ hc
  have R1 := smm_rel (sml_smm s1) hR
  have M1 := sml_mm s1 hM
  obtain ⟨r, e2, hN⟩ := m_best R1 M1 m 0 FU (-1) (by omega) (by unfold FU; omega) (Or.inl ⟨rfl, fun j h => absurd h (by omega)⟩)
  have e2' : fX3_carryOne_111 FU (-1) 0 σ1 = _ := e2
  rw [e1, e2']
  have hcol0 : ∀ j, j < 5 → 0 ≤ colS f j := fun j hj => sm_nonneg (fun i hi => (hF.1 _ (by omega)).1)
  have hoff : ∀ j, j < 5 → colS f j < bb j → j < m := fun j hj h => by
    rcases Nat.lt_or_ge j m with h1 | h1
    · exact h1
    · have := (h0.2.1 j hj).2.2.2 h1
      have := hcol0 j hj
      omega
  rcases hN with ⟨rfl, hnone⟩ | ⟨t, ht, rfl, t1, t2, t3⟩
  · rw [if_pos rfl]
    have hfin := cert_fin hC hcb (by omega) hfar hF0 hD B1.1 X1 (fun j hj h _ => hnone j (hoff j hj h) h)
    refine ⟨0, σ1, rfl, sml_sms s1, Or.inr ⟨rfl, fun w hw => by rw [sml_vI s1 (by omega) (by omega)]; exact hf w hw, _, _, hfin⟩⟩
  · rw [if_neg (nI_neg1 (by omega)), five_add]
    have htf : lbM σ1 (5 + t) < FRm := by omega
    obtain ⟨rk, hrk⟩ := B1.1.2.2.2.1
    have hf1 : ∀ w, w < 25 → vI σ1 46 w = f w := fun w hw => by rw [sml_vI s1 (by omega) (by omega)]; exact hf w hw
    obtain ⟨σ2, i0, e3, hi0, on0, pn0, C2⟩ := m_path (f := f) B1 (fun w hw => ⟨(hF.1 w hw).1, (hF.1 w hw).2, (h0.2.2 w hw).2.1⟩) hrk (show t < 5 by omega) (nI t) 5 0 FU t σ1 [] (by omega) (by unfold FU; omega) (by omega) htf (onch_self _ _) (by simp) rfl (fun y hy => by cases hy)
      ⟨⟨fun _ _ => rfl, rfl⟩, fun w hw => by rw [hf1 w hw]; exact hF.1 w hw, fun i j hi hj => Or.inl (hf1 _ (by omega)), fun i hi => by dsimp only; rw [row_congr hf1 hi]; omega, fun j hj => by dsimp only; rw [col_congr hf1 hj]; omega⟩ (fun i j hi hj _ _ => hf1 _ (by omega))
    have e3' : fX3_carryOne_204 (nI t) (nI (5 + t)) σ1 = _ := e3
    rw [e3']
    obtain ⟨⟨c1, c1'⟩, c2, c3, c4, c5⟩ := C2
    have c4a : ∀ i, i < 5 → rowS (vI σ2 46) i = rowS f i + (if i = i0 then 1 else 0) := c4
    have c5a : ∀ j, j < 5 → colS (vI σ2 46) j = colS f j + (if j = t then 1 else 0) := c5
    have hsrc : rowS f i0 < a i0 := by
      obtain ⟨k, hk⟩ := on0
      have h1 := (chain_low hP B1.1 k (5 + t) i0 (by omega) hk).2 htf
      exact (B1.1.2.2.1 i0 (by omega) h1.1 pn0).1.2
    obtain ⟨hC2, hDl⟩ := cert_aug (f' := vI σ2 46) hC hcb (by omega) hfar hF0 B1.1 X1 (show t < 5 by omega) t1 htf (fun j hj h _ => t3 j (hoff j hj h) h) c3
      (fun i hi => by
        have x2 := c4a i hi
        refine ⟨fun h => ?_, ?_⟩
        · rw [x2] at h
          split at h <;> omega
        · by_cases e : i = i0
          · exact Or.inr ⟨by rw [e]; exact on0, by rw [e]; exact pn0⟩
          · rw [if_neg e] at x2
            exact Or.inl (by omega))
      (fun j hj => by
        have x2 := c5a j hj
        refine ⟨fun h => ?_, ?_⟩
        · rw [x2] at h
          split at h <;> omega
        · by_cases e : j = t
          · exact Or.inr e
          · rw [if_neg e] at x2
            exact Or.inl (by omega))
    refine ⟨1, σ2, ?_, (sml_sms s1).tr ⟨fun k h1 _ _ => c1 k h1, c1'⟩, Or.inl ⟨rfl, _, _, ⟨c2, fun i hi => ?_, fun j hj => ?_⟩, hC2, fun v hv => ?_, by omega, ?_⟩⟩
    · unfold fX3_carryOne_276 fX3_carryOne_286
      rw [if_neg (nI_neg1 (by omega))]
      rfl
    · rw [c4a i hi]
      have := hF.2.1 i hi
      by_cases e : i = i0
      · subst e; rw [if_pos rfl]; omega
      · rw [if_neg e]; omega
    · rw [c5a j hj]
      have := hF.2.2 j hj
      by_cases e : j = t
      · subst e; rw [if_pos rfl]; omega
      · rw [if_neg e]; omega
    · have := nxt_ge (K := lbM σ1 (5 + t) - D) B1.1 (by omega) hv
      have := hφ v hv
      omega
    · rw [sm_congr (h := fun j => (bb j - colS f j) - (if j = t then 1 else 0)) (fun j hj => by rw [c5a j hj]; omega), sm_sub, sm_single _ _ _ (show t < 5 by omega)]
      omega
theorem m_more {σ0 : Mem} : ∀ (d fu : Nat) (σ : Mem) (f φ : Nat → Int) (D : Int), sm 5 (fun j => bb j - colS f j) < (d : Int) → d + 1 < fu → SMS σ0 σ → REL σ n m → M0 σ n m a bb u → (∀ w, w < 25 → vI σ 46 w = f w) → Fea a bb u f → (∀ w, w < 25 → c w = gnW σ n m w ∧ -20000 ≤ c w ∧ c w ≤ 20000) → CertN a bb u c f φ D → (∀ v, v < 10 → -20000 ≤ φ v) → D ≤ 0 →
    ∃ σ' f' p q, fX3_solve_23 fu 1 σ = fX3_solve_39 FU 0 0 σ' ∧ SMS σ0 σ' ∧ (∀ w, w < 25 → vI σ' 46 w = f' w) ∧ Fea a bb u f' ∧ Cert a bb u c f' p q 0 := by
  intro d
  induction d with
  | zero =>
    intro fu σ f φ D h1 h2 hs hR h0 hf hF hc hC hφ hD
    exfalso
    have : 0 ≤ sm 5 (fun j => bb j - colS f j) := sm_nonneg (fun j hj => by have := hF.2.2 j hj; omega)
    omega
  | succ d ih =>
    intro fu σ f φ D h1 h2 hs hR h0 hf hF hc hC hφ hD
    obtain ⟨fu, rfl⟩ : ∃ q, fu = q + 2 := ⟨fu - 2, by omega⟩
    obtain ⟨r, σ1, e1, s1, h⟩ := m_carryOne hR h0 hf hF hc hC hφ hD
    have hdef : fX3_solve_23 (fu + 2) 1 σ = fX3_solve_23 (fu + 1) r σ1 := by
      show fX3_solve_23b _ _ _ = _
      unfold fX3_solve_23b
      rw [if_neg (by decide), e1, bnd_s]
    rw [hdef]
    rcases h with ⟨rfl, φ', D', g1, g2, g3, g4, g5⟩ | ⟨rfl, g1, p, q, g2⟩
    · exact ih (fu + 1) σ1 (vI σ1 46) φ' D' (by omega) (by omega) (hs.tr s1) (smm_rel (sms_smm s1) hR) (sms_m0 s1 h0) (fun _ _ => rfl) g1 (fun w hw => by rw [gnW_sd (smm_sd (sms_smm s1))]; exact hc w hw) g2 g3 g4
    · refine ⟨σ1, f, p, q, ?_, hs.tr s1, g1, hF, g2⟩
      show fX3_solve_23b _ _ _ = _
      unfold fX3_solve_23b
      rw [if_pos rfl]
theorem sv_90 {σ : Mem} (hR : REL σ n m) (hf : ∀ w, w < 25 → vI σ 46 w = f w ∧ 0 ≤ f w ∧ (¬ (w / 5 < n ∧ w % 5 < m) → f w = 0)) : ∀ (d w fu : Nat) (A : Int), w + d = 25 → d < fu → fX3_solve_90 fu (oI (A + sm w (fun w => f w * unW σ n m w))) (nI w) σ = some (oI (A + sm 25 (fun w => f w * unW σ n m w)), σ) := by
  intro d
  induction d with
  | zero =>
    intro w fu A h1 h2
    obtain ⟨fu, rfl⟩ : ∃ q, fu = q + 1 := ⟨fu - 1, by omega⟩
    have hw : w = 25 := by omega
    subst hw
    show fX3_solve_90b _ _ _ _ = _
    unfold fX3_solve_90b
    rw [if_pos (by decide)]
  | succ d ih =>
    intro w fu A h1 h2
    obtain ⟨fu, rfl⟩ : ∃ q, fu = q + 1 := ⟨fu - 1, by omega⟩
    have hw : w < 25 := by omega
    obtain ⟨q1, q2, q3⟩ := hf w hw
    rw [← ih (w + 1) fu A (by omega) (by omega)]
    show fX3_solve_90b _ _ _ _ = _
    unfold fX3_solve_90b fX3_solve_127 ltI
    rw [if_neg (by rw [leI, nI_t (by omega), I_25]; omega), inb_n (show w < 25 by omega) (by omega), grd_t, grd_t, ix_n (n := w) (by omega)]
    have es : A + sm (w + 1) (fun w => f w * unW σ n m w) = A + sm w (fun w => f w * unW σ n m w) + f w * unW σ n m w := by
      show A + (sm w (fun w => f w * unW σ n m w) + f w * unW σ n m w) = _
      omega
    by_cases h0 : f w ≤ 0
    · have hz : f w = 0 := by omega
      rw [if_pos (by rw [leI, I_0]; unfold vI at q1; omega), es, hz, Int.zero_mul, Int.add_zero, nI_1]
      have : (0 : Int32) = oI 0 := rfl
      rw [this, oI_add, Int.add_zero]
    · rw [if_neg (by rw [leI, I_0]; unfold vI at q1; omega)]
      have hop : w / 5 < n ∧ w % 5 < m := by
        refine Classical.byContradiction fun h => ?_
        have := q3 h
        omega
      have eu : unW σ n m w = unD σ (w / 5) (w % 5) := if_pos hop
      rw [(nI_div5' hw).2, (nI_div5' hw).1, m_unitOf hR hop.1 hop.2, bnd_s, oI_v, q1, oI_mul, oI_add, es, eu, nI_1]
theorem sv_39 {σ : Mem} (hR : REL σ n m) (h0 : M0 σ n m a bb u) (hf : ∀ w, w < 25 → vI σ 46 w = f w ∧ 0 ≤ f w ∧ (¬ (w / 5 < n ∧ w % 5 < m) → f w = 0)) : ∀ (d k fu : Nat), k + d = 5 → d < fu → fX3_solve_39 fu (oI (sm k (fun k => vI σ 0 12 * (a k - rowS f k) + vI σ 0 13 * (bb k - colS f k)))) (nI k) σ = some (oI (sm 5 (fun k => vI σ 0 12 * (a k - rowS f k) + vI σ 0 13 * (bb k - colS f k)) + sm 25 (fun w => f w * unW σ n m w)), σ) := by
  obtain ⟨-, -, e12, e13⟩ := hR.2.2.1
  intro d
  induction d with
  | zero =>
    intro k fu h1 h2
    obtain ⟨fu, rfl⟩ : ∃ q, fu = q + 1 := ⟨fu - 1, by omega⟩
    have hw : k = 5 := by omega
    subst hw
    show fX3_solve_39b _ _ _ _ = _
    unfold fX3_solve_39b
    rw [if_pos (by decide)]
    have key := sv_90 hR hf 25 0 FU (sm 5 (fun k => vI σ 0 12 * (a k - rowS f k) + vI σ 0 13 * (bb k - colS f k))) (by omega) (by unfold FU; omega)
    have ez : sm 5 (fun k => vI σ 0 12 * (a k - rowS f k) + vI σ 0 13 * (bb k - colS f k)) + sm 0 (fun w => f w * unW σ n m w) = sm 5 (fun k => vI σ 0 12 * (a k - rowS f k) + vI σ 0 13 * (bb k - colS f k)) := Int.add_zero _
    rw [ez] at key
    exact key
  | succ d ih =>
    intro k fu h1 h2
    obtain ⟨fu, rfl⟩ : ∃ q, fu = q + 1 := ⟨fu - 1, by omega⟩
    have hk : k < 5 := by omega
    have hf' : ∀ w, w < 25 → vI σ 46 w = f w := fun w hw => (hf w hw).1
    rw [← ih (k + 1) fu (by omega) (by omega)]
    show fX3_solve_39b _ _ _ _ = _
    unfold fX3_solve_39b ltI
    rw [if_neg (by rw [leI, nI_t (by omega), I_5]; omega), inb_n (show k < 5 by omega) (by omega), grd_t, m_given hk, bnd_s, grd_t, m_got hk, bnd_s, ix_n (n := k) (by omega), row_congr hf' hk, col_congr hf' hk, oI_v, oI_v, oI_v, oI_v, e12, e13, (h0.1 k hk).1, (h0.2.1 k hk).1, oI_sub, oI_mul, oI_sub, oI_mul, oI_add, oI_add, nI_1]
    rfl
theorem sm25_tot (g : Nat → Int) : sm 25 g = tot g := by
  simp only [tot, sm]
  simp only [Nat.mul_zero, Nat.mul_one, Nat.zero_add, Nat.add_zero, Nat.reduceMul, Nat.reduceAdd]
  omega
theorem cst_eq {un : Nat → Int} {lo mi : Int} : sm 5 (fun k => lo * (a k - rowS f k) + mi * (bb k - colS f k)) + sm 25 (fun w => f w * un w) = cst a bb un lo mi f := by
  have e1 : sm 5 (rowS f) = tot f := rfl
  have e2 : sm 5 (colS f) = tot f := (sm_swap 5 5 (fun j i => f (5 * i + j)))
  have e3 : tot (fun w => (un w - lo - mi) * f w) = tot (fun w => f w * un w) - lo * tot f - mi * tot f := by
    unfold tot
    rw [← sm_mul, ← sm_mul, ← sm_sub, ← sm_sub]
    refine sm_congr (fun i _ => ?_)
    rw [← sm_mul, ← sm_mul, ← sm_sub, ← sm_sub]
    refine sm_congr (fun j _ => ?_)
    show (un (5 * i + j) - lo - mi) * f (5 * i + j) = f (5 * i + j) * un (5 * i + j) - lo * f (5 * i + j) - mi * f (5 * i + j)
    rw [Int.sub_mul, Int.sub_mul, Int.mul_comm (un _) (f _)]
  unfold cst
  rw [e3, sm25_tot, sm_add, sm_mul, sm_mul, sm_sub, sm_sub]
  have e1' : sm 5 (fun k => rowS f k) = tot f := e1
  have e2' : sm 5 (fun k => colS f k) = tot f := e2
  rw [e1', e2', Int.mul_sub, Int.mul_sub]
  have ea : sm 5 (fun k => a k) = sm 5 a := rfl
  have eb : sm 5 (fun k => bb k) = sm 5 bb := rfl
  rw [ea, eb]
  omega
theorem lst_of_cert {σ : Mem} {p q : Nat → Int} (hF : Fea a bb u f) (hc : ∀ w, w < 25 → c w = gnW σ n m w) (hC : Cert a bb u c f p q 0) : Lst a bb u (unW σ n m) (vI σ 0 12) (vI σ 0 13) (cst a bb (unW σ n m) (vI σ 0 12) (vI σ 0 13) f) := by
  refine ⟨⟨f, hF, rfl⟩, fun g hg => ?_⟩
  have h := cert_opt hF hg hC
  have e : ∀ g : Nat → Int, tot (fun w => (c w - 0) * g w) = tot (fun w => (unW σ n m w - vI σ 0 12 - vI σ 0 13) * g w) := fun g => by
    unfold tot
    refine sm_congr (fun i hi => sm_congr (fun j hj => ?_))
    show (c (5 * i + j) - 0) * g (5 * i + j) = (unW σ n m (5 * i + j) - vI σ 0 12 - vI σ 0 13) * g (5 * i + j)
    rw [hc _ (by omega), Int.sub_zero]
    rfl
  rw [e, e] at h
  unfold cst
  omega
theorem zero_loop {σ0 : Mem} : ∀ (d w fu : Nat) (σ : Mem), w + d = 25 → d < fu → SMS σ0 σ → (∀ k, k < w → vI σ 46 k = 0) → ∃ σ', fX3_solve_2 fu (nI w) σ = fX3_solve_23 FU 1 σ' ∧ SMS σ0 σ' ∧ ∀ k, k < 25 → vI σ' 46 k = 0 := by
  intro d
  induction d with
  | zero =>
    intro w fu σ h1 h2 hs hI
    obtain ⟨fu, rfl⟩ : ∃ q, fu = q + 1 := ⟨fu - 1, by omega⟩
    have hw : w = 25 := by omega
    subst hw
    refine ⟨σ, ?_, hs, hI⟩
    show fX3_solve_2b _ _ _ = _
    unfold fX3_solve_2b
    rw [if_pos (by decide)]
  | succ d ih =>
    intro w fu σ h1 h2 hs hI
    obtain ⟨fu, rfl⟩ : ∃ q, fu = q + 1 := ⟨fu - 1, by omega⟩
    obtain ⟨σ', q1, q2, q3⟩ := ih (w + 1) fu (wI σ 46 w 0) (by omega) (by omega) (hs.tr ⟨fun k h1 _ _ => (wI_ne σ w 0 h1).1, rfl⟩) (fun k hk => by
      rw [vI_w]
      by_cases e : k = w
      · rw [if_pos ⟨rfl, e⟩]; exact I_0
      · rw [if_neg (fun q => e q.2)]; exact hI k (by omega))
    refine ⟨σ', ?_, q2, q3⟩
    rw [← q1]
    show fX3_solve_2b _ _ _ = _
    unfold fX3_solve_2b ltM
    rw [if_neg (by rw [leI, nI_t (by omega), I_25]; omega), inb_n (show w < 25 by omega) (by omega), grd_t, ix_n (n := w) (by omega), nI_1]
theorem m_solve {σ : Mem} (hR : REL σ n m) (h0 : M0 σ n m a bb u) : ∃ σ', fX3_solve σ = some (oI (LV a bb u (unW σ n m) (vI σ 0 12) (vI σ 0 13)), σ') ∧ SMS σ σ' ∧ Lst a bb u (unW σ n m) (vI σ 0 12) (vI σ 0 13) (LV a bb u (unW σ n m) (vI σ 0 12) (vI σ 0 13)) := by
  obtain ⟨σ1, e1, s1, z1⟩ := zero_loop (σ0 := σ) 25 0 FU σ (by omega) (by unfold FU; omega) SMS.rf (fun k h => absurd h (by omega))
  have R1 := smm_rel (sms_smm s1) hR
  have M1 := sms_m0 s1 h0
  have sd1 := smm_sd (sms_smm s1)
  have hr0 : ∀ i, rowS (fun _ => 0) i = 0 := fun i => sm_zero 5
  have hc0 : ∀ i, colS (fun _ => 0) i = 0 := fun i => sm_zero 5
  have hF0 : Fea a bb u (fun _ => 0) := ⟨fun w hw => ⟨Int.le_refl _, (h0.2.2 w hw).1⟩, fun i hi => by rw [hr0]; exact (h0.1 i hi).2.1, fun i hi => by rw [hc0]; exact (h0.2.1 i hi).2.1⟩
  have gb := gnW_bd hR.1
  have hC := cert_zero (a := a) (b := bb) (u := u) (c := gnW σ n m) (D0 := -20000) (fun w hw => (gb w hw).1)
  have hb := sm_bd (a := bb) (M := 21) (fun j hj => ⟨(h0.2.1 j hj).2.1, (h0.2.1 j hj).2.2.1⟩)
  obtain ⟨σ2, f', p, q, e2, s2, f1, f2, C2⟩ := m_more (σ0 := σ) (c := gnW σ n m) 200 FU σ1 (fun _ => 0) _ (-20000) (by
    rw [sm_congr (h := bb) (fun j hj => by rw [hc0]; omega)]
    omega) (by unfold FU; omega) s1 R1 M1 z1 hF0 (fun w hw => ⟨by rw [gnW_sd sd1], gb w hw⟩) hC (fun v hv => by split <;> omega) (by omega)
  have R2 := smm_rel (sms_smm s2) hR
  have M2 := sms_m0 s2 h0
  have sd2 := smm_sd (sms_smm s2)
  have hff : ∀ w, w < 25 → vI σ2 46 w = f' w ∧ 0 ≤ f' w ∧ (¬ (w / 5 < n ∧ w % 5 < m) → f' w = 0) := fun w hw => ⟨f1 w hw, (f2.1 w hw).1, fun h => by have := (h0.2.2 w hw).2.2.2 h; have := f2.1 w hw; omega⟩
  have key := sv_39 R2 M2 hff 5 0 FU (by omega) (by unfold FU; omega)
  rw [sd_unW sd2, sd_v0 sd2 (show 12 ≠ 14 by omega), sd_v0 sd2 (show 13 ≠ 14 by omega), cst_eq] at key
  have hL := lst_of_cert (σ := σ) (n := n) (m := m) f2 (fun w _ => rfl) C2
  have hv := lv_of hL
  refine ⟨σ2, ?_, s2, by rw [← hv]; exact hL⟩
  rw [← hv, ← key]
  show fX3_solve_2 FU (nI 0) σ = _
  rw [e1, e2]
  rfl
end SOLVE
