/-! The Model's least, prices, tolls, proof. -/
theorem fea_iff {a bb u u' : Nat → Int} (hb : ∀ j, j < 5 → bb j ≤ 20) (h : ∀ w, w < 25 → u w = u' w ∨ (20 ≤ u w ∧ 20 ≤ u' w)) : ∀ f, Fea a bb u f ↔ Fea a bb u' f := by
  have key : ∀ v v' : Nat → Int, (∀ w, w < 25 → v w = v' w ∨ (20 ≤ v w ∧ 20 ≤ v' w)) → ∀ f, Fea a bb v f → Fea a bb v' f := by
    intro v v' hv f hf
    refine ⟨fun w hw => ?_, hf.2.1, hf.2.2⟩
    have h1 := fea_bd hf w hw
    have h2 := hb (w % 5) (by omega)
    have h3 := hf.1 w hw
    unfold BD at h1
    have := hv w hw
    omega
  exact fun f => ⟨key u u' h f, key u' u (fun w hw => by have := h w hw; omega) f⟩
theorem lv_fea {a bb u u' un : Nat → Int} {lo mi : Int} (h : ∀ f, Fea a bb u f ↔ Fea a bb u' f) : LV a bb u un lo mi = LV a bb u' un lo mi := by
  have e : ∀ c, Lst a bb u un lo mi c ↔ Lst a bb u' un lo mi c := fun c => by
    unfold Lst
    simp only [h]
  unfold LV
  congr 1
  funext c
  exact propext (e c)
theorem lf_fea {a bb u u' un : Nat → Int} {lo mi : Int} (h : ∀ f, Fea a bb u f ↔ Fea a bb u' f) : LF a bb u un lo mi = LF a bb u' un lo mi := by
  have e : ∀ c, Lex a bb u un lo mi c ↔ Lex a bb u' un lo mi c := fun c => by
    unfold Lex
    simp only [h]
  unfold LF
  congr 1
  funext c
  exact propext (e c)
/-- the most of a way, as the Model has it -/
def uM (σ : Mem) (n m w : Nat) : Int := if w / 5 < n ∧ w % 5 < m then (if vI σ 8 w = -1 then 40 else vI σ 8 w) else 0
theorem uM_uW {σ : Mem} {n m : Nat} : ∀ w, uM σ n m w = uW σ n m w ∨ (20 ≤ uM σ n m w ∧ 20 ≤ uW σ n m w) := fun w => by
  unfold uM uW
  split
  · split
    · omega
    · omega
  · omega
theorem uM_bd {σ : Mem} {n m : Nat} (hD : DAT σ n m) : ∀ w, w < 25 → 0 ≤ uM σ n m w ∧ uM σ n m w ≤ 40 := fun w hw => by
  unfold uM
  have := hD.2.2.2.1 w hw
  split
  · split <;> omega
  · omega
theorem sd_uM {σ σ' : Mem} (h : SD σ σ') {n m : Nat} : uM σ' n m = uM σ n m := by
  funext w; unfold uM; rw [sd_vI h (by omega) (by omega)]
section LEAST
variable {σ : Mem} {n m : Nat}
/-- only has, wants, most differ -/
def SMH (σ σ' : Mem) : Prop := (∀ k, ¬ (43 ≤ k ∧ k ≤ 45) → σ'.1 k = σ.1 k) ∧ σ'.2 = σ.2
theorem SMH.rf : SMH σ σ := ⟨fun _ _ => rfl, rfl⟩
theorem SMH.tr {σ1 σ2 : Mem} (h1 : SMH σ σ1) (h2 : SMH σ1 σ2) : SMH σ σ2 := ⟨fun k a => (h2.1 k a).trans (h1.1 k a), h2.2.trans h1.2⟩
theorem smh_smm {σ σ' : Mem} (h : SMH σ σ') : SMM σ σ' := ⟨fun k h1 h2 => ⟨h.1 k (by omega), by rw [h.2]⟩, fun i _ => by unfold rI; rw [h.1 35 (by omega)]⟩
theorem smh_w {k i : Nat} {v : Int32} (h : 43 ≤ k ∧ k ≤ 45) : SMH σ (wI σ k i v) := ⟨fun k' h' => (wI_ne σ i v (by omega)).1, rfl⟩
theorem lo_63 {σ0 : Mem} (hR0 : REL σ0 n m) : ∀ (d w fu : Nat) (σ : Mem), w + d = 25 → d < fu → SMH σ0 σ → (∀ i, i < 5 → vI σ 43 i = aW σ0 n i ∧ vI σ 44 i = bW σ0 m i) → (∀ k, k < w → k / 5 < n ∧ k % 5 < m → vI σ 45 k = uM σ0 n m k) → ∃ σ', fX3_layOut_63 fu (nI w) σ = some (0, σ') ∧ SMH σ0 σ' ∧ (∀ i, i < 5 → vI σ' 43 i = aW σ0 n i ∧ vI σ' 44 i = bW σ0 m i) ∧ ∀ k, k < 25 → k / 5 < n ∧ k % 5 < m → vI σ' 45 k = uM σ0 n m k := by
  intro d
  induction d with
  | zero =>
    intro w fu σ h1 h2 hs hA hI
    obtain ⟨fu, rfl⟩ : ∃ q, fu = q + 1 := ⟨fu - 1, by omega⟩
    have hw : w = 25 := by omega
    subst hw
    refine ⟨σ, ?_, hs, hA, hI⟩
    show fX3_layOut_63b _ _ _ = _
    unfold fX3_layOut_63b
    rw [if_pos (by decide)]
  | succ d ih =>
    intro w fu σ h1 h2 hs hA hI
    obtain ⟨fu, rfl⟩ : ∃ q, fu = q + 1 := ⟨fu - 1, by omega⟩
    have hw : w < 25 := by omega
    have e41 : vI σ 41 w = vI σ0 8 w := by
      have : vI σ 41 w = vI σ0 41 w := by unfold vI rI; rw [hs.1 41 (by omega)]
      rw [this]
      exact (hR0.2.2.2.2.2 w hw).2.1
    have key : ∀ x : Int32, (w / 5 < n ∧ w % 5 < m → x.toInt = uM σ0 n m w) → ∃ σ', fX3_layOut_95 (fX3_layOut_63 fu) (nI w) x (nI w) σ = some (0, σ') ∧ SMH σ0 σ' ∧ (∀ i, i < 5 → vI σ' 43 i = aW σ0 n i ∧ vI σ' 44 i = bW σ0 m i) ∧ ∀ k, k < 25 → k / 5 < n ∧ k % 5 < m → vI σ' 45 k = uM σ0 n m k := by
      intro x hx
      obtain ⟨σ', q1, q2, q3, q4⟩ := ih (w + 1) fu (wI σ 45 w x) (by omega) (by omega) (hs.tr (smh_w (by omega))) (fun i hi => by rw [vI_wne (by omega), vI_wne (by omega)]; exact hA i hi) (fun k hk ho => by
        rw [vI_w]
        by_cases e : k = w
        · subst e; rw [if_pos ⟨rfl, rfl⟩]; exact hx ho
        · rw [if_neg (fun q => e q.2)]; exact hI k (by omega) ho)
      refine ⟨σ', ?_, q2, q3, q4⟩
      rw [← q1]
      unfold fX3_layOut_95 ltM
      rw [inb_n (show w < 25 by omega) (by omega), grd_t, ix_n (n := w) (by omega), nI_1]
    show ∃ σ', fX3_layOut_63b _ _ _ = _ ∧ _
    unfold fX3_layOut_63b
    rw [if_neg (by rw [leI, nI_t (by omega), I_25]; omega), inb_n (show w < 25 by omega) (by omega), grd_t, grd_t, ix_n (n := w) (by omega)]
    by_cases h : vI σ0 8 w = -1
    · rw [if_pos ((vIe I_m1).mpr (by rw [e41]; exact h))]
      exact key _ (fun ho => by
        unfold uM
        rw [if_pos ho, if_pos h]
        decide)
    · rw [if_neg (fun e => h (by rw [← e41]; exact (vIe I_m1).mp e))]
      exact key _ (fun ho => by
        unfold uM
        rw [if_pos ho, if_neg h]
        exact e41)
theorem lo_2 {σ0 : Mem} (hR0 : REL σ0 n m) : ∀ (d k fu : Nat) (σ : Mem), k + d = 5 → d < fu → SMH σ0 σ → (∀ i, i < k → vI σ 43 i = aW σ0 n i ∧ vI σ 44 i = bW σ0 m i) → ∃ σ', fX3_layOut_2 fu (nI k) σ = some (0, σ') ∧ SMH σ0 σ' ∧ (∀ i, i < 5 → vI σ' 43 i = aW σ0 n i ∧ vI σ' 44 i = bW σ0 m i) ∧ ∀ k, k < 25 → k / 5 < n ∧ k % 5 < m → vI σ' 45 k = uM σ0 n m k := by
  have h5 := hR0.1.1
  intro d
  induction d with
  | zero =>
    intro k fu σ h1 h2 hs hA
    obtain ⟨fu, rfl⟩ : ∃ q, fu = q + 1 := ⟨fu - 1, by omega⟩
    have hw : k = 5 := by omega
    subst hw
    obtain ⟨σ', q1, q2, q3, q4⟩ := lo_63 hR0 25 0 FU σ (by omega) (by unfold FU; omega) hs hA (fun k h => absurd h (by omega))
    refine ⟨σ', ?_, q2, q3, q4⟩
    rw [← q1]
    show fX3_layOut_2b _ _ _ = _
    unfold fX3_layOut_2b
    rw [if_pos (by decide)]
    rfl
  | succ d ih =>
    intro k fu σ h1 h2 hs hA
    obtain ⟨fu, rfl⟩ : ∃ q, fu = q + 1 := ⟨fu - 1, by omega⟩
    have hk : k < 5 := by omega
    have hsv : ∀ c, ¬ (43 ≤ c ∧ c ≤ 45) → ∀ i, vI σ c i = vI σ0 c i := fun c hc i => by unfold vI rI; rw [hs.1 c hc]
    have k54 : ∀ (τ : Mem) (x : Int32), SMH σ0 τ → (∀ i, i < k → vI τ 43 i = aW σ0 n i ∧ vI τ 44 i = bW σ0 m i) → vI τ 43 k = aW σ0 n k → x.toInt = bW σ0 m k → ∃ σ', fX3_layOut_54 (fX3_layOut_2 fu) (nI k) x (nI k) τ = some (0, σ') ∧ SMH σ0 σ' ∧ (∀ i, i < 5 → vI σ' 43 i = aW σ0 n i ∧ vI σ' 44 i = bW σ0 m i) ∧ ∀ k, k < 25 → k / 5 < n ∧ k % 5 < m → vI σ' 45 k = uM σ0 n m k := by
      intro τ x ht hA' ha hx
      obtain ⟨σ', q1, q2, q3, q4⟩ := ih (k + 1) fu (wI τ 44 k x) (by omega) (by omega) (ht.tr (smh_w (by omega))) (fun i hi => by
        rw [vI_wne (by omega), vI_w]
        by_cases e : i = k
        · subst e; rw [if_pos ⟨rfl, rfl⟩]; exact ⟨ha, hx⟩
        · rw [if_neg (fun q => e q.2)]; exact hA' i (by omega))
      refine ⟨σ', ?_, q2, q3, q4⟩
      rw [← q1]
      unfold fX3_layOut_54 ltM
      rw [inb_n (show k < 5 by omega) (by omega), grd_t, ix_n (n := k) (by omega), nI_1]
    have k30 : ∀ x : Int32, x.toInt = aW σ0 n k → ∃ σ', fX3_layOut_30 (fX3_layOut_2 fu) (nI k) x (nI k) σ = some (0, σ') ∧ SMH σ0 σ' ∧ (∀ i, i < 5 → vI σ' 43 i = aW σ0 n i ∧ vI σ' 44 i = bW σ0 m i) ∧ ∀ k, k < 25 → k / 5 < n ∧ k % 5 < m → vI σ' 45 k = uM σ0 n m k := by
      intro x hx
      have ht : SMH σ0 (wI σ 43 k x) := hs.tr (smh_w (by omega))
      have hA' : ∀ i, i < k → vI (wI σ 43 k x) 43 i = aW σ0 n i ∧ vI (wI σ 43 k x) 44 i = bW σ0 m i := fun i hi => by
        rw [vI_w, if_neg (by omega), vI_wne (by omega)]; exact hA i hi
      have ha : vI (wI σ 43 k x) 43 k = aW σ0 n k := by rw [vI_w, if_pos ⟨rfl, rfl⟩]; exact hx
      unfold fX3_layOut_30 ltM
      rw [inb_n (show k < 5 by omega) (by omega), grd_t, ix_n (n := k) (by omega)]
      dsimp only
      have e352 : vI (wI σ 43 k x) 35 2 = m := by rw [vI_wne (by omega), hsv 35 (by omega)]; exact hR0.2.1.2
      by_cases h : k < m
      · rw [if_neg (not_le_nI e352 h (by omega)), grd_t]
        refine k54 _ _ ht hA' ha ?_
        show vI (wI σ 43 k x) 39 k = _
        rw [vI_wne (by omega), hsv 39 (by omega), (hR0.2.2.2.2.1 k h).2]
        unfold bW
        rw [if_pos h]
      · have hle : rI (wI σ 43 k x) 35 2 ≤ nI k := by
          rw [leI, nI_t (by omega)]
          have : (rI (wI σ 43 k x) 35 2).toInt = m := e352
          omega
        rw [if_pos hle]
        refine k54 _ _ ht hA' ha ?_
        unfold bW
        rw [if_neg h]
        exact I_0
    show ∃ σ', fX3_layOut_2b _ _ _ = _ ∧ _
    unfold fX3_layOut_2b
    have e351 : vI σ 35 1 = n := by rw [hsv 35 (by omega)]; exact hR0.2.1.1
    rw [if_neg (by rw [leI, nI_t (by omega), I_5]; omega)]
    by_cases h : k < n
    · rw [if_neg (not_le_nI e351 h (by omega)), inb_n (show k < 5 by omega) (by omega), grd_t, ix_n (n := k) (by omega)]
      refine k30 _ ?_
      show vI σ 37 k = _
      rw [hsv 37 (by omega), (hR0.2.2.2.1 k h).2]
      unfold aW
      rw [if_pos h]
    · have hle : rI σ 35 1 ≤ nI k := by
        rw [leI, nI_t (by omega)]
        have : (rI σ 35 1).toInt = n := e351
        omega
      rw [if_pos hle]
      refine k30 _ ?_
      unfold aW
      rw [if_neg h]
      exact I_0
theorem m_layOut (hR : REL σ n m) : ∃ σ', fX3_layOut σ = some (0, σ') ∧ SMH σ σ' ∧ M0 σ' n m (aW σ n) (bW σ m) (uM σ n m) := by
  obtain ⟨σ', q1, q2, q3, q4⟩ := lo_2 hR 5 0 FU σ (by omega) (by unfold FU; omega) SMH.rf (fun i h => absurd h (by omega))
  refine ⟨σ', q1, q2, fun i hi => ⟨(q3 i hi).1, ?_⟩, fun i hi => ⟨(q3 i hi).2, ?_⟩, fun w hw => ⟨(uM_bd hR.1 w hw).1, (uM_bd hR.1 w hw).2, q4 w hw, fun h => if_neg h⟩⟩
  · have := aW_bd hR.1 i hi
    exact ⟨by omega, by omega, fun h => if_neg (by omega)⟩
  · have := bW_bd hR.1 i hi
    exact ⟨by omega, by omega, fun h => if_neg (by omega)⟩
theorem lv_M (hD : DAT σ n m) : LV (aW σ n) (bW σ m) (uM σ n m) (unW σ n m) (vI σ 0 12) (vI σ 0 13) = lv σ n m := lv_fea (fea_iff (fun j hj => (bW_bd hD j hj).2) (fun w _ => uM_uW w))
theorem m_leastOf (hR : REL σ n m) : ∃ σ', fX3_leastOf σ = some (oI (lv σ n m), σ') ∧ SMM σ σ' ∧ REL σ' n m ∧ M0 σ' n m (aW σ n) (bW σ m) (uM σ n m) ∧ σ'.1 35 = σ.1 35 ∧ σ'.1 49 = σ.1 49 := by
  obtain ⟨σ1, e1, s1, M1⟩ := m_layOut hR
  have R1 := smm_rel (smh_smm s1) hR
  have sd1 := smm_sd (smh_smm s1)
  obtain ⟨σ2, e2, s2, -⟩ := m_solve R1 M1
  rw [sd_unW sd1, sd_v0 sd1 (show 12 ≠ 14 by omega), sd_v0 sd1 (show 13 ≠ 14 by omega), lv_M hR.1] at e2
  have s12 := (smh_smm s1).tr (sms_smm s2)
  refine ⟨σ2, ?_, s12, smm_rel s12 hR, sms_m0 s2 M1, ?_, ?_⟩
  · unfold fX3_leastOf fX3_leastOf_e
    rw [e1, bnd_s, e2, bnd_s]
  · rw [s2.1 35 (by omega) (by omega) (by omega), s1.1 35 (by omega)]
  · rw [s2.1 49 (by omega) (by omega) (by omega), s1.1 49 (by omega)]
theorem m_least (hR : REL σ n m) : ∃ σ', fX3_least σ = some (oI (lv σ n m), σ') ∧ SMM σ σ' ∧ rI σ' 35 0 = 0 := by
  have R0 := smm_rel (w_smm0 (σ := σ) (v := 0)) hR
  obtain ⟨σ1, e1, s1, -, -, h35, -⟩ := m_leastOf R0
  rw [sd_lv (smm_sd w_smm0)] at e1
  refine ⟨σ1, ?_, w_smm0.tr s1, ?_⟩
  · unfold fX3_least fX3_least_e ltM
    dsimp only
    rw [e1, bnd_s]
  · unfold rI
    rw [h35]
    show rI (wI σ 35 0 0) 35 0 = 0
    rw [rI_w, if_pos ⟨rfl, rfl⟩]
end LEAST
