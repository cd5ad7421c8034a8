/-! One call of the class and one of the Model: equal answers, equal throws, the relation stays. -/
def WLD (σ : Mem) : Prop := ∃ n m, REL σ n m ∧ HND σ ∧ INV σ n m
/-- a law's helper: the answer is written out, a throw is told by a number -/
def wrp (t : Nat → Option Int32) (F : Option (Sum Int32 Nat × Mem)) : Option (Int32 × Mem) := match F with
  | none => none
  | some (.inl v, σ) => some (0, wJ σ 50 0 v.toInt64)
  | some (.inr e, σ) => (t e).bind (fun k => some (k, σ))
def tt (a b : Nat) (e : Nat) : Option Int32 := if e = a then some 1 else if b < 9 ∧ e = b then some 2 else none
def STP (F : Option (Int32 × Mem)) (M : Mem → Option (Int32 × Mem)) : Prop := ∃ k σ1 b σ2, F = some (k, σ1) ∧ M σ1 = some (b, σ2) ∧ rI σ2 35 0 = k ∧ (k = 0 → rJ σ2 50 0 = b.toInt64) ∧ WLD σ2
def STQ (F : Option (Int32 × Mem)) (M : Mem → Option (Int32 × Mem)) : Prop := ∃ b σ1 σ2, F = some (b, σ1) ∧ M σ1 = some (b, σ2) ∧ WLD σ2
/-- what the class's calls leave -/
def CFR (σ σ' : Mem) : Prop := (∀ k, 1 ≤ k → k ≤ 9 ∨ (35 ≤ k ∧ k < 50) → σ'.1 k = σ.1 k) ∧ ∀ i, i ≠ 14 → rI σ' 0 i = rI σ 0 i
theorem CFR.rf {σ : Mem} : CFR σ σ := ⟨fun _ _ _ => rfl, fun _ _ => rfl⟩
theorem CFR.tr {σ σ1 σ2 : Mem} (h1 : CFR σ σ1) (h2 : CFR σ1 σ2) : CFR σ σ2 := ⟨fun k a c => (h2.1 k a c).trans (h1.1 k a c), fun i a => (h2.2 i a).trans (h1.2 i a)⟩
theorem sr_cfr {σ σ' : Mem} (h : SR σ σ') : CFR σ σ' := ⟨fun k h1 h2 => (h.1 k h1 (by omega)).1, h.2⟩
theorem sq_cfr {σ σ' : Mem} (h : SQ σ σ') : CFR σ σ' := sr_cfr (sq_sr h)
theorem s10_cfr {σ σ' : Mem} (h : S10 σ σ') : CFR σ σ' := ⟨fun k h1 h2 => h.1 k (by omega), fun i _ => s10_rI h (by omega) i⟩
theorem cfr_sd {σ σ' : Mem} (h : CFR σ σ') : SD σ σ' := ⟨fun k h1 h2 => h.1 k h1 (by omega), h.2⟩
theorem cfr_50 {σ : Mem} {i : Nat} {v : Int64} : CFR σ (wJ σ 50 i v) := ⟨fun _ _ _ => rfl, fun _ _ => rfl⟩
theorem cfr_vI {σ σ' : Mem} (h : CFR σ σ') {k : Nat} (h1 : 1 ≤ k) (h2 : k ≤ 9 ∨ (35 ≤ k ∧ k < 50)) (i : Nat) : vI σ' k i = vI σ k i := by
  unfold vI rI; rw [h.1 k h1 h2]
theorem rel_of {σ σ' : Mem} {n m : Nat} (h : ∀ k, 1 ≤ k → k ≤ 8 ∨ (35 ≤ k ∧ k < 42) → σ'.1 k = σ.1 k) (h0 : ∀ i, i ≠ 14 → rI σ' 0 i = rI σ 0 i) (hD : DAT σ' n m) (hR : REL σ n m) : REL σ' n m := by
  obtain ⟨h1, ⟨h2, h3⟩, ⟨h4, h5, h6, h7⟩, h8, h9, h10⟩ := hR
  have e : ∀ k, 1 ≤ k → k ≤ 8 ∨ (35 ≤ k ∧ k < 42) → ∀ i, vI σ' k i = vI σ k i := fun k a c i => by unfold vI rI; rw [h k a c]
  have e0 : ∀ i, i ≠ 14 → vI σ' 0 i = vI σ 0 i := fun i hi => by unfold vI; rw [h0 i hi]
  refine ⟨hD, ⟨by rw [e 35 (by omega) (by omega)]; exact h2, by rw [e 35 (by omega) (by omega)]; exact h3⟩, ⟨?_, ?_, ?_, ?_⟩, fun i hi => ?_, fun j hj => ?_, fun w hw => ?_⟩
  · rw [e 35 (by omega) (by omega), e0 10 (by omega)]; exact h4
  · rw [e 35 (by omega) (by omega), e0 11 (by omega)]; exact h5
  · rw [e 35 (by omega) (by omega), e0 12 (by omega)]; exact h6
  · rw [e 35 (by omega) (by omega), e0 13 (by omega)]; exact h7
  · rw [e 36 (by omega) (by omega), e 37 (by omega) (by omega), e 2 (by omega) (by omega), e 3 (by omega) (by omega)]; exact h8 i hi
  · rw [e 38 (by omega) (by omega), e 39 (by omega) (by omega), e 5 (by omega) (by omega), e 6 (by omega) (by omega)]; exact h9 j hj
  · rw [e 40 (by omega) (by omega), e 41 (by omega) (by omega), e 7 (by omega) (by omega), e 8 (by omega) (by omega)]; exact h10 w hw
theorem cfr_rel {σ σ' : Mem} {n m : Nat} (h : CFR σ σ') (hR : REL σ n m) : REL σ' n m := rel_of (fun k h1 h2 => h.1 k h1 (by omega)) h.2 (sd_dat (cfr_sd h) hR.1) hR
theorem cfr_hnd {σ σ' : Mem} (h : CFR σ σ') (hH : HND σ) : HND σ' := fun w hw => by
  rw [cfr_vI h (by omega) (by omega), cfr_vI h (by omega) (by omega)]
  exact hH w hw
theorem inv_50 {σ : Mem} {n m i : Nat} {v : Int64} (hI : INV σ n m) : INV (wJ σ 50 i v) n m := by
  have sd := cfr_sd (cfr_50 (σ := σ) (i := i) (v := v))
  refine ⟨sd_dat sd hI.1, ?_⟩
  rw [show vI (wJ σ 50 i v) 0 14 = vI σ 0 14 from rfl, sd_aW sd, sd_bW sd, sd_uW sd, sd_unW sd, sd_v0 sd (by omega), sd_v0 sd (by omega)]
  rcases hI.2 with h0 | ⟨h1, hB⟩
  · exact Or.inl h0
  · exact Or.inr ⟨h1, plan_eq (fun k a c => wJ_ne σ i v (by omega)) hB⟩
theorem rJ_50 {σ : Mem} {v : Int64} : rJ (wJ σ 50 0 v) 50 0 = v := by
  unfold rJ wJ
  simp [vp_updL]
theorem smm_50 {σ σ' : Mem} (h : SMM σ σ') : rJ σ' 50 0 = rJ σ 50 0 := by
  unfold rJ
  rw [(h.1 50 (by omega) (by omega)).2]
section STEP
variable {σ : Mem} {n m : Nat}
theorem stp_no {t : Nat → Option Int32} {F : Option (Sum Int32 Nat × Mem)} {M : Mem → Option (Int32 × Mem)} {b : Int32} {e : Nat} {k : Int32} (hR : REL σ n m) (hH : HND σ) (hI : INV σ n m) (ht : t e = some k) (hk : k ≠ 0) (hF : F = some (Sum.inr e, σ)) (hM : M σ = some (b, wI σ 35 0 k)) : STP (wrp t F) M := by
  refine ⟨k, σ, b, wI σ 35 0 k, ?_, hM, thr_w, fun h0 => absurd h0 hk, n, m, w0_rel hR, smm_hnd w_smm0 hH, smm_inv w_smm0 hI⟩
  rw [hF]
  show (t e).bind (fun k => some (k, σ)) = _
  rw [ht]
  rfl
theorem stp_ok {t : Nat → Option Int32} {F : Option (Sum Int32 Nat × Mem)} {M : Mem → Option (Int32 × Mem)} {E : Int} {σ' : Mem} (hR : REL σ n m) (hH : HND σ) (hF : F = some (Sum.inl (oI E), σ')) (hc : CFR σ σ') (hI1 : INV σ' n m)
    (hM : ∀ σ', CFR σ σ' → REL σ' n m → HND σ' → INV σ' n m → ∃ σ2, M σ' = some (oI E, σ2) ∧ SMM σ' σ2 ∧ rI σ2 35 0 = 0) : STP (wrp t F) M := by
  have hc2 := hc.tr (cfr_50 (i := 0) (v := (oI E).toInt64))
  have hR2 := cfr_rel hc2 hR
  have hH2 := cfr_hnd hc2 hH
  have hI2 := inv_50 (i := 0) (v := (oI E).toInt64) hI1
  obtain ⟨σ2, h1, h2, h3⟩ := hM _ hc2 hR2 hH2 hI2
  refine ⟨0, wJ σ' 50 0 (oI E).toInt64, oI E, σ2, by rw [hF]; rfl, h1, h3, fun _ => ?_, n, m, smm_rel h2 hR2, smm_hnd h2 hH2, smm_inv h2 hI2⟩
  rw [smm_50 h2, rJ_50]
/-- a call that changes nothing that the law sees -/
theorem stp_pure {P : Prop} {t : Nat → Option Int32} {F : Option (Sum Int32 Nat × Mem)} {M : Mem → Option (Int32 × Mem)} {E : Int} {e : Nat} {k : Int32} (hR : REL σ n m) (hH : HND σ) (hI : INV σ n m) (ht : t e = some k) (hk : k ≠ 0)
    (hF : (¬ P ∧ F = some (Sum.inr e, σ)) ∨ (P ∧ ∃ σ', F = some (Sum.inl (oI E), σ') ∧ CFR σ σ' ∧ INV σ' n m))
    (hM : ∀ σ', CFR σ σ' → REL σ' n m → HND σ' → INV σ' n m → (¬ P ∧ M σ' = some (0, wI σ' 35 0 k)) ∨ (P ∧ ∃ σ2, M σ' = some (oI E, σ2) ∧ SMM σ' σ2 ∧ rI σ2 35 0 = 0)) : STP (wrp t F) M := by
  rcases hF with ⟨hP, hF⟩ | ⟨hP, σ', hF, hc, hI1⟩
  · rcases hM σ CFR.rf hR hH hI with ⟨-, h⟩ | ⟨h, -⟩
    · exact stp_no hR hH hI ht hk hF h
    · exact absurd h hP
  · refine stp_ok hR hH hF hc hI1 (fun σ1 h1 h2 h3 h4 => ?_)
    rcases hM σ1 h1 h2 h3 h4 with ⟨h, -⟩ | ⟨-, h⟩
    · exact absurd hP h
    · exact h
theorem stq_pure {F : Option (Int32 × Mem)} {M : Mem → Option (Int32 × Mem)} {E : Int} (hR : REL σ n m) (hH : HND σ) (hF : ∃ σ', F = some (oI E, σ') ∧ CFR σ σ' ∧ INV σ' n m)
    (hM : ∀ σ', CFR σ σ' → REL σ' n m → HND σ' → INV σ' n m → ∃ σ2, M σ' = some (oI E, σ2) ∧ SMM σ' σ2 ∧ rI σ2 35 0 = 0) : STQ F M := by
  obtain ⟨σ', hF, hc, hI1⟩ := hF
  have hR1 := cfr_rel hc hR
  have hH1 := cfr_hnd hc hH
  obtain ⟨σ2, h1, h2, -⟩ := hM σ' hc hR1 hH1 hI1
  exact ⟨oI E, σ', σ2, hF, h1, n, m, smm_rel h2 hR1, smm_hnd h2 hH1, smm_inv h2 hI1⟩
theorem st_least (h : WLD σ) : STQ (fX2_least σ) fX3_least := by
  obtain ⟨n, m, hR, hH, hI⟩ := h
  obtain ⟨σ', e1, s1, I1⟩ := v_least hI
  exact stq_pure hR hH ⟨σ', e1, sq_cfr s1, I1⟩ (fun σ' hc hR hH hI => by
    have := m_least hR
    rw [sd_lv (cfr_sd hc)] at this
    exact this)
theorem st_carried {x y : Int32} (h : WLD σ) : STP (wrp (tt 0 9) (fX2_carried x y σ)) (fX3_carried x y) := by
  obtain ⟨n, m, hR, hH, hI⟩ := h
  refine stp_pure hR hH hI (P := okW n m x y) (e := 0) (k := 1) rfl n10 ((v_carried hI).imp id (fun ⟨a, σ', b, c, d⟩ => ⟨a, σ', b, sq_cfr c, d⟩)) (fun σ' hc hR hH hI => ?_)
  have := mt_carried (x := x) (y := y) hR hI
  rw [sd_lf (cfr_sd hc)] at this
  exact this
theorem st_left {v x : Int32} (h : WLD σ) : STP (wrp (tt 0 9) (fX2_left v x σ)) (fX3_left v x) := by
  obtain ⟨n, m, hR, hH, hI⟩ := h
  refine stp_pure hR hH hI (P := okN n m v x) (e := 0) (k := 1) rfl n10 ((v_left hI).imp id (fun ⟨a, σ', b, c, d⟩ => ⟨a, σ', b, sq_cfr c, d⟩)) (fun σ' hc hR hH hI => ?_)
  have := mt_left (v := v) (x := x) hR hI
  rw [sd_lf (cfr_sd hc), sd_aW (cfr_sd hc), sd_bW (cfr_sd hc)] at this
  exact this
theorem sd_woF {σ σ' : Mem} (h : SD σ σ') {w : Nat} : woF σ' n m w = woF σ n m w := by
  unfold woF
  rw [sd_lv h, sd_aW h, sd_bW h, sd_uW h, sd_unW h, sd_v0 h (by omega), sd_v0 h (by omega)]
theorem st_without {x y : Int32} (h : WLD σ) : STP (wrp (tt 0 9) (fX2_without x y σ)) (fX3_without x y) := by
  obtain ⟨n, m, hR, hH, hI⟩ := h
  refine stp_pure hR hH hI (P := okW n m x y) (e := 0) (k := 1) rfl n10 ((v_without hI).imp id (fun ⟨a, σ', b, c, d⟩ => ⟨a, σ', b, sq_cfr c, d⟩)) (fun σ' hc hR hH hI => ?_)
  have := mt_without (x := x) (y := y) hR hI
  rw [sd_woF (cfr_sd hc)] at this
  exact this
theorem st_price {v x : Int32} (hv : v = 0 ∨ v = 1) (h : WLD σ) : STP (wrp (tt 0 9) (fX2_price v x σ)) (fX3_price v x) := by
  obtain ⟨n, m, hR, hH, hI⟩ := h
  refine stp_pure hR hH hI (P := okN n m v x) (e := 0) (k := 1) rfl n10 ((v_price hI).imp id (fun ⟨a, σ', b, c, d⟩ => ⟨a, σ', b, sq_cfr c, d⟩)) (fun σ' hc hR hH hI => ?_)
  have := mt_price (v := v) (x := x) hv hR
  rw [sd_hPr (cfr_sd hc), sd_jPr (cfr_sd hc)] at this
  exact this
theorem st_leastAnew (h : WLD σ) : STP (wrp (tt 2 9) (fX2_leastAnew σ)) fX3_leastAnew := by
  obtain ⟨n, m, hR, hH, hI⟩ := h
  refine stp_pure hR hH hI (P := trF σ n m ≤ 20000) (e := 2) (k := 1) rfl n10 ((v_leastAnew hI).imp (fun ⟨a, b⟩ => ⟨by omega, b⟩) (fun ⟨a, σ', b, c, d⟩ => ⟨a, σ', b, sq_cfr c, d⟩)) (fun σ' hc hR hH hI => ?_)
  have := mt_leastAnew hR
  have sd := cfr_sd hc
  have et : trF σ' n m = trF σ n m := by unfold trF; rw [sd_aW sd, sd_bW sd, sd_uW sd]
  rw [sd_lv sd, et] at this
  exact this.imp (fun ⟨a, b⟩ => ⟨by omega, b⟩) id
theorem st_unit {x y : Int32} (h : WLD σ) : STP (wrp (tt 0 9) (fX2_unit x y σ)) (fX3_unit x y) := by
  obtain ⟨n, m, hR, hH, hI⟩ := h
  refine stp_pure hR hH hI (P := okW n m x y) (E := unD σ (ix x) (ix y)) (e := 0) (k := 1) rfl n10 ((s_unit hR.1).imp id (fun ⟨a, z, b, c⟩ => ⟨a, σ, by rw [b, ← c, oI_t], CFR.rf, hI⟩)) (fun σ' hc hR hH hI => ?_)
  have := mt_unit (x := x) (y := y) hR
  rw [sd_unD (cfr_sd hc)] at this
  exact this.imp id (fun ⟨a, b⟩ => ⟨a, _, b, w_smm0, thr_w⟩)
theorem st_toll {x y : Int32} (h : WLD σ) : STP (wrp (tt 0 9) (fX2_toll x y σ)) (fX3_toll x y) := by
  obtain ⟨n, m, hR, hH, hI⟩ := h
  refine stp_pure hR hH hI (P := okW n m x y) (e := 0) (k := 1) rfl n10 ((v_toll hI).imp id (fun ⟨a, σ', b, c, d⟩ => ⟨a, σ', b, sq_cfr c, d⟩)) (fun σ' hc hR hH hI => ?_)
  have := mt_toll (x := x) (y := y) hR hI
  rw [sd_tlW (cfr_sd hc)] at this
  exact this
theorem sd_prf {σ σ' : Mem} (h : SD σ σ') : prf σ' n m = prf σ n m := by
  unfold prf tcW
  simp only [sd_hPr h, sd_jPr h, sd_tlW h, sd_vI h (show 1 ≤ 3 by omega) (show 3 ≤ 9 by omega), sd_vI h (show 1 ≤ 6 by omega) (show 6 ≤ 9 by omega), sd_vI h (show 1 ≤ 8 by omega) (show 8 ≤ 9 by omega)]
theorem st_proof (h : WLD σ) : STQ (fX2_proof σ) fX3_proof := by
  obtain ⟨n, m, hR, hH, hI⟩ := h
  obtain ⟨σ', e1, s1, I1⟩ := v_proof hI
  exact stq_pure hR hH ⟨σ', e1, sr_cfr s1, I1⟩ (fun σ' hc hR hH hI => by
    have := mt_proof hR hI
    rw [sd_prf (cfr_sd hc)] at this
    exact this)
theorem st_whyNot (h : WLD σ) : STQ (fX2_whyNot σ) fX3_whyNot := by
  obtain ⟨n, m, hR, hH, hI⟩ := h
  obtain ⟨z, σ', hz, e1, s1, I1⟩ := v_whyNot hI
  exact stq_pure hR hH ⟨σ', e1, sq_cfr s1, I1⟩ (fun σ' hc hR hH hI => by
    obtain ⟨z', σ2, hz', e2, s2, t2⟩ := mt_whyNot hR hH hI
    rw [sd_hcs (cfr_sd hc), sd_lv (cfr_sd hc), fbh_uni (sd_fbh (cfr_sd hc) hz') hz] at e2
    exact ⟨σ2, e2, s2, t2⟩)
theorem st_handCost (h : WLD σ) : STP (wrp (tt 2 9) (fX2_handCost σ)) fX3_handCost := by
  obtain ⟨n, m, hR, hH, hI⟩ := h
  obtain ⟨z, hz, e1⟩ := v_handCost hR.1
  refine stp_pure hR hH hI (P := z = 0) (E := hcs σ n m) (e := 2) (k := 1) rfl n10 ?_ (fun σ' hc hR hH hI => ?_)
  · by_cases h : z = 0
    · exact Or.inr ⟨h, σ, by rw [e1, if_pos h], CFR.rf, hI⟩
    · exact Or.inl ⟨h, by rw [e1, if_neg h]⟩
  · obtain ⟨z', hz', e2⟩ := mt_handCost hR hH
    rw [sd_hcs (cfr_sd hc), fbh_uni (sd_fbh (cfr_sd hc) hz') hz] at e2
    by_cases h : z = 0
    · rw [if_pos h] at e2
      exact Or.inr ⟨h, _, e2, w_smm0, thr_w⟩
    · rw [if_neg h] at e2
      exact Or.inl ⟨h, e2⟩
theorem st_middle (h : WLD σ) : STP (wrp (tt 2 9) (fX2_middle σ)) fX3_middle := by
  obtain ⟨n, m, hR, hH, hI⟩ := h
  rcases v_middle hR.1 with ⟨h0, e1⟩ | ⟨h0, z, e1, hz⟩
  · rcases mt_middle hR with ⟨-, e2⟩ | ⟨h1, -⟩
    · exact stp_no hR hH hI (e := 2) (k := 1) rfl n10 e1 e2
    · exact absurd h0 h1
  · refine stp_ok hR hH e1 CFR.rf hI (fun σ' hc hR hH hI => ?_)
    rcases mt_middle hR with ⟨h1, -⟩ | ⟨-, z', e2, hz'⟩
    · exact absurd h1 h0
    · rw [sd_alF (cfr_sd hc)] at hz'
      rw [mid_uni hz' hz] at e2
      exact ⟨_, e2, w_smm0, thr_w⟩
theorem cfr_abF {σ σ' : Mem} (h : CFR σ σ') {v : Int32} {i : Nat} {w : Int} (hw : 0 ≤ w ∧ w ≤ 2) : abF σ' n m v i w = abF σ n m v i w := by
  have sd := cfr_sd h
  unfold abF hfr hto sdOf
  simp only [sd_vI sd (show 1 ≤ 9 by omega) (show 9 ≤ 9 by omega)]
  by_cases h2 : w = 2
  · rw [if_pos h2, if_pos h2]
  · rw [if_neg h2, if_neg h2, sd_vI sd (by split <;> omega) (by split <;> omega)]
theorem st_about {v x y : Int32} (h : WLD σ) : STP (wrp (tt 0 1) (fX2_about v x y σ)) (fX3_about v x y) := by
  obtain ⟨n, m, hR, hH, hI⟩ := h
  have e1 := v_about (v := v) (x := x) (y := y) hR.1
  have e2 := mt_about (v := v) (x := x) (y := y) hR hH
  by_cases h1 : 0 ≤ x.toInt ∧ x.toInt < szOf n m v
  · rw [if_neg (fun q => q h1)] at e1 e2
    by_cases h2 : 0 ≤ y.toInt ∧ y.toInt ≤ 2
    · rw [if_neg (fun q => q h2)] at e1 e2
      refine stp_ok hR hH e1 CFR.rf hI (fun σ' hc hR hH hI => ?_)
      have e3 := mt_about (v := v) (x := x) (y := y) hR hH
      rw [if_neg (fun q => q h1), if_neg (fun q => q h2), cfr_abF hc h2] at e3
      exact ⟨_, e3, w_smm0, thr_w⟩
    · rw [if_pos h2] at e1 e2
      exact stp_no hR hH hI (e := 1) (k := 2) rfl n20 e1 e2
  · rw [if_pos h1] at e1 e2
    exact stp_no hR hH hI (e := 0) (k := 1) rfl n10 e1 e2
theorem cfr_coF {σ σ' : Mem} (h : CFR σ σ') {w : Int} (hw : 0 ≤ w ∧ w ≤ 6) : coF σ' n m w = coF σ n m w := by
  have sd := cfr_sd h
  unfold coF
  rw [sd_lf sd]
  by_cases h6 : w = 6
  · subst h6
    have k1 : ¬ (6 : Int) = 0 := by omega
    have k2 : ¬ (6 : Int) = 1 := by omega
    rw [if_neg k1, if_neg k1, if_neg k2, if_neg k2, if_pos rfl, if_pos rfl]
  · rw [sd_v0 sd (show w.toNat + 8 ≠ 14 by omega)]
theorem st_count {x : Int32} (h : WLD σ) : STP (wrp (tt 1 9) (fX2_count x σ)) (fX3_count x) := by
  obtain ⟨n, m, hR, hH, hI⟩ := h
  refine stp_pure hR hH hI (P := 0 ≤ x.toInt ∧ x.toInt ≤ 6) (e := 1) (k := 1) rfl n10 ((v_count hI).imp id (fun ⟨a, σ', b, c, d⟩ => ⟨a, σ', b, sq_cfr c, d⟩)) (fun σ' hc hR hH hI => ?_)
  rcases mt_count (x := x) hR hI with h | ⟨h, q⟩
  · exact Or.inl h
  · rw [cfr_coF hc h] at q
    exact Or.inr ⟨h, q⟩
theorem st_order (h : WLD σ) : STP (wrp (tt 2 9) (fX2_order σ)) fX3_order := by
  obtain ⟨n, m, hR, hH, hI⟩ := h
  refine stp_pure hR hH hI (P := CGO σ) (e := 2) (k := 1) rfl n10 ((v_order hI).imp id (fun ⟨a, σ', b, c, d⟩ => ⟨a, σ', b, s10_cfr c, d⟩)) (fun σ' hc hR hH hI => ?_)
  have sd := cfr_sd hc
  have ev : ∀ k, 1 ≤ k → k ≤ 9 → ∀ i, vI σ' k i = vI σ k i := fun k h1 h2 i => sd_vI sd h1 h2 i
  have hcg : CGO σ' ↔ CGO σ := by
    unfold CGO
    rw [sd_v0 sd (show 10 ≠ 14 by omega)]
    simp only [ev 3 (by omega) (by omega), ev 6 (by omega) (by omega), ev 7 (by omega) (by omega), ev 8 (by omega) (by omega)]
  have hor : orF σ' n m = orF σ n m := by
    unfold orF surH surJ
    simp only [sd_v0 sd (show 10 ≠ 14 by omega), sd_v0 sd (show 11 ≠ 14 by omega), ev 2 (by omega) (by omega), ev 3 (by omega) (by omega), ev 5 (by omega) (by omega), ev 6 (by omega) (by omega)]
  rcases mt_order hR with ⟨h, q⟩ | ⟨h, q⟩
  · exact Or.inl ⟨fun z => h (hcg.mpr z), q⟩
  · rw [hor] at q
    exact Or.inr ⟨hcg.mp h, _, q, w_smm0, thr_w⟩
end STEP
