/-! The Model: the least cost by trying all plans. -/
section MANEW2
variable {σ : Mem} {n m : Nat}
def RB (σ : Mem) (n m : Nat) : Nat → Int := fun w => BD (aW σ n) (bW σ m) (uW σ n m) (24 - w)
def RV (f : Nat → Int) : Nat → Int := fun w => f (24 - w)
theorem rv_bd {f : Nat → Int} (h : ∀ w, w < 25 → 0 ≤ f w ∧ f w ≤ BD (aW σ n) (bW σ m) (uW σ n m) w) : ∀ w, w < 25 → 0 ≤ RV f w ∧ RV f w ≤ RB σ n m w := fun w hw => h (24 - w) (by omega)
theorem m_goOn {f : Nat → Int} (hR : REL σ n m) (hf : ∀ w, w < 25 → vI σ 46 w = f w ∧ 0 ≤ f w ∧ f w ≤ BD (aW σ n) (bW σ m) (uW σ n m) w) : 
    ∃ (r : Int32) (σ' : Mem), fX3_goOn σ = some (r, σ') ∧ S46 σ σ' ∧ ((r = 1 ∧ ∃ f' : Nat → Int, (∀ w, w < 25 → vI σ' 46 w = f' w ∧ 0 ≤ f' w ∧ f' w ≤ BD (aW σ n) (bW σ m) (uW σ n m) w) ∧ VX (RB σ n m) (RV f) 25 < VX (RB σ n m) (RV f') 25 ∧
      ∀ g, Fea (aW σ n) (bW σ m) (uW σ n m) g → VX (RB σ n m) (RV f) 25 < VX (RB σ n m) (RV g) 25 → VX (RB σ n m) (RV g) 25 ≤ VX (RB σ n m) (RV f') 25 → ∀ w, w < 25 → g w = f' w) ∨
      (r = 0 ∧ ∀ g, Fea (aW σ n) (bW σ m) (uW σ n m) g → VX (RB σ n m) (RV g) 25 ≤ VX (RB σ n m) (RV f) 25)) := by
  have hb := bd_nn hR.1
  have hfb := rv_bd (σ := σ) (n := n) (m := m) (f := f) (fun w hw => (hf w hw).2)
  obtain ⟨r, σ', e1, s1, h⟩ := go_loop (σ0 := σ) hR hf 25 0 FU σ (by omega) (by unfold FU; omega) S46.rf (fun k hk => by rw [if_neg (by omega), (hf k hk).1]) (fun k hk => absurd hk (by omega))
  refine ⟨r, σ', e1, s1, ?_⟩
  rcases h with ⟨h0, w0, hw0, h1, h2, h3⟩ | ⟨h0, h1⟩
  · have hf' : ∀ w, w < 25 → vI σ' 46 w = vI σ' 46 w ∧ 0 ≤ vI σ' 46 w ∧ vI σ' 46 w ≤ BD (aW σ n) (bW σ m) (uW σ n m) w := fun w hw => by
      refine ⟨rfl, ?_⟩
      rw [h3 w hw]
      have q1 := hb w hw
      have q2 := hf w hw
      by_cases c1 : w < w0
      · rw [if_pos c1]; omega
      · rw [if_neg c1]
        by_cases c2 : w = w0
        · rw [if_pos c2]; subst c2; omega
        · rw [if_neg c2]; omega
    have hfb' := rv_bd (σ := σ) (n := n) (m := m) (f := vI σ' 46) (fun w hw => (hf' w hw).2)
    have k1 : ∀ k, k < 24 - w0 → RV (vI σ' 46) k = RV f k := fun k hk => by
      show vI σ' 46 (24 - k) = f (24 - k)
      rw [h3 _ (by omega), if_neg (by omega), if_neg (by omega)]
    have k2 : RV (vI σ' 46) (24 - w0) = RV f (24 - w0) + 1 := by
      show vI σ' 46 (24 - (24 - w0)) = f (24 - (24 - w0)) + 1
      rw [show 24 - (24 - w0) = w0 by omega, h3 _ hw0, if_neg (by omega), if_pos rfl]
    refine Or.inl ⟨h0, vI σ' 46, hf', vx_first (w0 := 24 - w0) k1 (by omega) 25 (by omega) hfb hfb', fun g hg hlt hle w hw => ?_⟩
    have hgb := rv_bd (σ := σ) (n := n) (m := m) (fea_bd hg)
    rcases vx_next (q := 24 - w0) (by omega) hfb hfb' hgb k1 k2 (fun k hk hk' => by
      show vI σ' 46 (24 - k) = 0
      rw [h3 _ (by omega), if_pos (by omega)]) (fun k hk hk' => h1 (24 - k) (by omega)) hlt with z | z
    · have := z (24 - w) (by omega)
      unfold RV at this
      rw [show 24 - (24 - w) = w by omega] at this
      exact this
    · omega
  · refine Or.inr ⟨h0, fun g hg => ?_⟩
    have hgb := rv_bd (σ := σ) (n := n) (m := m) (fea_bd hg)
    rcases first_diff (f := RV f) (g := RV g) 25 with z | ⟨w1, z1, z2, z3⟩
    · rw [vx_congr 25 z]; exact Int.le_refl _
    · have q1 := (hgb w1 z1).2
      have q2 : RV f w1 = RB σ n m w1 := h1 (24 - w1) (by omega)
      exact Int.le_of_lt (vx_first (w0 := w1) (fun k hk => (z2 k hk).symm) (by omega) 25 z1 hgb hfb)
theorem rb_px (hD : DAT σ n m) : PXB (RB σ n m) 25 = trF σ n m := px_rev 25
theorem s46_dat {σ σ' : Mem} (h : S46 σ σ') : SD σ σ' := smm_sd (s46_smm h)
theorem c1_nn {R : Nat → Int} (hD : DAT σ n m) (hR : ∀ w, w < 25 → 0 ≤ R w ∧ R w ≤ BD (aW σ n) (bW σ m) (uW σ n m) w) (ho : okR σ R n m) : 0 ≤ c1F σ R n m n + c2F σ R n m := by
  have h5 := hD.1
  have h8 := hD.2.2.2.2.2.2.2.2
  have e1 : 0 ≤ c1F σ R n m n := sm_nonneg (fun i hi => by
    have q1 : 0 ≤ sm m (fun j => R (5 * i + j) * unD σ i j) := sm_nonneg (fun j hj => Int.mul_nonneg (hR _ (by omega)).1 (unD_bd hD hi hj).1)
    have q2 : 0 ≤ vI σ 0 12 * (vI σ 3 i - rfr R m i) := Int.mul_nonneg h8.1 (by have := ho.1 i hi; omega)
    omega)
  have e2 : 0 ≤ c2F σ R n m := sm_nonneg (fun j hj => Int.mul_nonneg h8.2.2.1 (by have := ho.2 j hj; omega))
  omega
theorem an_loop {σ0 : Mem} (hR0 : REL σ0 n m) (htr : trF σ0 n m ≤ 20000) : ∀ (d fu : Nat) (σ : Mem) (f : Nat → Int) (Bst : Int), d < fu → S46 σ0 σ → (∀ w, w < 25 → vI σ 46 w = f w ∧ 0 ≤ f w ∧ f w ≤ BD (aW σ0 n) (bW σ0 m) (uW σ0 n m) w) → 20000 ≤ VX (RB σ0 n m) (RV f) 25 + d →
    (0 ≤ Bst ∧ Bst ≤ 100000000) → (∃ g, Fea (aW σ0 n) (bW σ0 m) (uW σ0 n m) g ∧ cst (aW σ0 n) (bW σ0 m) (unW σ0 n m) (vI σ0 0 12) (vI σ0 0 13) g = Bst) →
    (∀ g, Fea (aW σ0 n) (bW σ0 m) (uW σ0 n m) g → VX (RB σ0 n m) (RV g) 25 ≤ VX (RB σ0 n m) (RV f) 25 → Bst ≤ cst (aW σ0 n) (bW σ0 m) (unW σ0 n m) (vI σ0 0 12) (vI σ0 0 13) g) →
    ∃ σ', fX3_leastAnew_88 (fX3_leastAnew_60 fu) (oI Bst) σ = some (oI (lv σ0 n m), σ') ∧ S46 σ0 σ' := by
  have hD := hR0.1
  intro d
  induction d with
  | zero =>
    intro fu σ f Bst h1 hs hf h2 hb hex hall
    have := vx_bd (B := RB σ0 n m) (f := RV f) 25 (rv_bd (fun w hw => (hf w hw).2))
    rw [rb_px hD] at this
    omega
  | succ d ih =>
    intro fu σ f Bst h1 hs hf h2 hb hex hall
    obtain ⟨fu, rfl⟩ : ∃ q, fu = q + 1 := ⟨fu - 1, by omega⟩
    have hR := smm_rel (s46_smm hs) hR0
    have sd := s46_dat hs
    have hBe : BD (aW σ n) (bW σ m) (uW σ n m) = BD (aW σ0 n) (bW σ0 m) (uW σ0 n m) := by rw [sd_aW sd, sd_bW sd, sd_uW sd]
    have hRBe : RB σ n m = RB σ0 n m := by unfold RB; rw [hBe]
    obtain ⟨r, σ1, e1, s1, hr⟩ := m_goOn hR (f := f) (fun w hw => by rw [hBe]; exact hf w hw)
    rw [hBe, hRBe, sd_aW sd, sd_bW sd, sd_uW sd] at hr
    have hs1 := hs.tr s1
    unfold fX3_leastAnew_88
    rw [e1, bnd_s]
    rcases hr with ⟨rfl, f', q1, q2, q3⟩ | ⟨rfl, q1⟩
    · have hR1 := smm_rel (s46_smm hs1) hR0
      have sd1 := s46_dat hs1
      have hBe1 : BD (aW σ1 n) (bW σ1 m) (uW σ1 n m) = BD (aW σ0 n) (bW σ0 m) (uW σ0 n m) := by rw [sd_aW sd1, sd_bW sd1, sd_uW sd1]
      have hbd := bd_nn hD
      have hrow : ∀ w, w < 25 → 0 ≤ f' w ∧ f' w ≤ BD (aW σ1 n) (bW σ1 m) (uW σ1 n m) w := fun w hw => by rw [hBe1]; exact (q1 w hw).2
      have hfe := row_fea hR1.1 hrow
      have hco := row_cost hR1.1 hrow
      rw [sd_aW sd1, sd_bW sd1, sd_uW sd1] at hfe
      rw [sd_aW sd1, sd_bW sd1, sd_unW sd1, sd_v0 sd1 (by omega), sd_v0 sd1 (by omega)] at hco
      have hdef : ∀ r60, fX3_leastAnew_60b r60 (oI Bst) 1 σ1 = bnd (fX3_costOf 46 σ1) fun u1 σ2 => if u1 = (-1 : Int32) then (fX3_leastAnew_87 r60 (oI Bst) σ2) else (if (oI Bst) ≤ u1 then (fX3_leastAnew_87 r60 (oI Bst) σ2) else (fX3_leastAnew_88 r60 u1 σ2)) := fun r60 => by
        unfold fX3_leastAnew_60b
        rw [if_neg (by decide)]
      show ∃ σ', fX3_leastAnew_60b (fX3_leastAnew_60 fu) (oI Bst) 1 σ1 = _ ∧ _
      rw [hdef]
      have hskip : (¬ Fea (aW σ0 n) (bW σ0 m) (uW σ0 n m) f' ∨ Bst ≤ cst (aW σ0 n) (bW σ0 m) (unW σ0 n m) (vI σ0 0 12) (vI σ0 0 13) f') → ∃ σ', fX3_leastAnew_88 (fX3_leastAnew_60 fu) (oI Bst) σ1 = some (oI (lv σ0 n m), σ') ∧ S46 σ0 σ' := fun hc => ih fu σ1 f' Bst (by omega) hs1 q1 (by omega) hb hex (fun g hg hle => by
        rcases Int.lt_or_le (VX (RB σ0 n m) (RV f) 25) (VX (RB σ0 n m) (RV g) 25) with z | z
        · have hsame := q3 g hg z hle
          rcases hc with c | c
          · exfalso
            refine c ?_
            have hfs : ∀ i, i < 5 → rowS f' i = rowS g i := fun i hi => sm_congr (fun j hj => (hsame _ (by omega)).symm)
            have hcs : ∀ j, j < 5 → colS f' j = colS g j := fun j hj => sm_congr (fun i hi => (hsame _ (by omega)).symm)
            exact ⟨fun w hw => by rw [← hsame w hw]; exact hg.1 w hw, fun i hi => by rw [hfs i hi]; exact hg.2.1 i hi, fun j hj => by rw [hcs j hj]; exact hg.2.2 j hj⟩
          · rw [cst_congr hsame]; exact c
        · exact hall g hg z)
      rcases m_costOf (σ := σ1) (R := f') (v := 46) rfl (fun w hw => by have := q1 w hw; have := hbd w hw; omega) hR1 with ⟨g1, g2⟩ | ⟨g1, g2⟩
      · rw [g2, bnd_s, hco]
        have hnn := c1_nn hR1.1 hrow g1
        rw [hco] at hnn
        have hFe := hfe.mpr g1
        have hcb := cst_bd (lo := vI σ0 0 12) (mi := vI σ0 0 13) (un := unW σ0 n m) hD.2.2.2.2.2.2.2.2 (aW_bd hD) (bW_bd hD) (fun w hw => (uW_bd hD w hw).2) (unW_bd hD) hFe
        rw [if_neg (fun q => by
          have := congrArg Int32.toInt q
          rw [oI_to (by unfold inR; omega), I_m1] at this
          omega)]
        have ele : oI Bst ≤ oI (cst (aW σ0 n) (bW σ0 m) (unW σ0 n m) (vI σ0 0 12) (vI σ0 0 13) f') ↔ Bst ≤ cst (aW σ0 n) (bW σ0 m) (unW σ0 n m) (vI σ0 0 12) (vI σ0 0 13) f' := by
          rw [leI, oI_to (by unfold inR; omega), oI_to (by unfold inR; omega)]
        by_cases hle : Bst ≤ cst (aW σ0 n) (bW σ0 m) (unW σ0 n m) (vI σ0 0 12) (vI σ0 0 13) f'
        · rw [if_pos (ele.mpr hle)]
          exact hskip (Or.inr hle)
        · rw [if_neg (fun q => hle (ele.mp q))]
          refine ih fu σ1 f' _ (by omega) hs1 q1 (by omega) (by omega) ⟨f', hFe, rfl⟩ (fun g hg hle' => ?_)
          rcases Int.lt_or_le (VX (RB σ0 n m) (RV f) 25) (VX (RB σ0 n m) (RV g) 25) with z | z
          · have hsame := q3 g hg z hle'
            rw [cst_congr hsame]
            exact Int.le_refl _
          · have := hall g hg z
            omega
      · rw [g2, bnd_s, if_pos rfl]
        exact hskip (Or.inl (fun q => g1 (hfe.mp q)))
    · obtain ⟨fu, rfl⟩ : ∃ q, fu = q + 1 := ⟨fu - 1, by omega⟩ 
      refine ⟨σ1, ?_, hs1⟩
      show fX3_leastAnew_60b _ _ _ _ = _
      unfold fX3_leastAnew_60b
      rw [if_pos rfl, lv_of (c := Bst) ⟨hex, fun g hg => hall g hg (q1 g hg)⟩]
      rfl
theorem za_loop {σ0 : Mem} (P : Option (Int32 × Mem) → Prop) (hP : ∀ σ, S46 σ0 σ → (∀ w, w < 25 → vI σ 46 w = 0) → P (bnd (fX3_costOf 46 σ) fun u1 σ2 => bnd (fX3_goOn σ2) fun u3 σ4 => fX3_leastAnew_60 FU u1 u3 σ4)) : ∀ (d w fu : Nat) (σ : Mem), w + d = 25 → d < fu → S46 σ0 σ → (∀ k, k < w → vI σ 46 k = 0) → P (fX3_leastAnew_27 fu (nI w) σ) := by
  intro d
  induction d with
  | zero =>
    intro w fu σ h1 h2 hs hI
    obtain ⟨fu, rfl⟩ : ∃ q, fu = q + 1 := ⟨fu - 1, by omega⟩
    have hw : w = 25 := by omega
    subst hw
    have h := hP σ hs hI
    have e : fX3_leastAnew_27 (fu + 1) (nI 25) σ = (bnd (fX3_costOf 46 σ) fun u1 σ2 => bnd (fX3_goOn σ2) fun u3 σ4 => fX3_leastAnew_60 FU u1 u3 σ4) := by
      show fX3_leastAnew_27b _ _ _ = _
      unfold fX3_leastAnew_27b
      rw [if_pos (by decide)]
    rw [e]
    exact h
  | succ d ih =>
    intro w fu σ h1 h2 hs hI
    obtain ⟨fu, rfl⟩ : ∃ q, fu = q + 1 := ⟨fu - 1, by omega⟩
    have hw : w < 25 := by omega
    have e : fX3_leastAnew_27 (fu + 1) (nI w) σ = fX3_leastAnew_27 fu (nI (w + 1)) (wI σ 46 w 0) := by
      show fX3_leastAnew_27b _ _ _ = _
      unfold fX3_leastAnew_27b ltM
      rw [if_neg (by rw [leI, nI_t (by omega), I_25]; omega), inb_n hw (by omega), grd_t, ix_n (n := w) (by omega), nI_1]
    rw [e]
    refine ih (w + 1) fu _ (by omega) (by omega) (hs.tr ⟨fun k hk => (wI_ne σ w 0 hk).1, rfl⟩) (fun k hk => ?_)
    rw [vI_w]
    by_cases c : k = w
    · rw [if_pos ⟨rfl, c⟩]; exact I_0
    · rw [if_neg (fun q => c q.2)]; exact hI k (by omega)
theorem mt_leastAnew (hR : REL σ n m) : (20000 < trF σ n m ∧ fX3_leastAnew σ = some (0, wI σ 35 0 1)) ∨ (trF σ n m ≤ 20000 ∧ ∃ σ', fX3_leastAnew σ = some (oI (lv σ n m), σ') ∧ SMM σ σ' ∧ rI σ' 35 0 = 0) := by
  have hD := hR.1
  obtain ⟨v, e1, hv⟩ := m_tries hR
  unfold fX3_leastAnew fX3_leastAnew_e fX3_leastAnew_17
  rw [e1, bnd_s]
  by_cases htr : trF σ n m ≤ 20000
  · rw [if_pos (by rw [lg_cmp_le, Int64.le_iff_toInt_le, J_20000]; exact hv.mpr htr), m_goesWell, bnd_s, if_pos rfl, if_neg n10]
    have sd0 := smm_sd (w_smm0 (σ := σ) (v := 0))
    have hR0 := w0_rel (x := 0) hR
    have hmain := za_loop (σ0 := wI σ 35 0 0) (fun o => ∃ σ', o = some (oI (lv σ n m), σ') ∧ S46 (wI σ 35 0 0) σ') (fun σ1 hs hz => by
      have hR1 := smm_rel (s46_smm hs) hR0
      have sd1 := s46_dat hs
      have hbd := bd_nn hR1.1
      have hbd0 := bd_nn hR0.1
      have hrow : ∀ w, w < 25 → 0 ≤ (fun _ => (0 : Int)) w ∧ (fun _ => (0 : Int)) w ≤ BD (aW σ1 n) (bW σ1 m) (uW σ1 n m) w := fun w hw => ⟨Int.le_refl _, (hbd w hw).1⟩
      have h5 := hR1.1.1
      have hok : okR σ1 (fun _ => 0) n m := ⟨fun i hi => by
          have := hR1.1.2.1 i hi
          unfold rfr
          rw [sm_zero]
          omega, fun j hj => by
          have := hR1.1.2.2.1 j hj
          unfold rto
          rw [sm_zero]
          omega⟩
      have hFe := (row_fea hR1.1 hrow).mpr hok
      have hco := row_cost hR1.1 hrow
      have hnn := c1_nn hR1.1 hrow hok
      rw [sd_aW sd1, sd_bW sd1, sd_uW sd1] at hFe
      rw [sd_aW sd1, sd_bW sd1, sd_unW sd1, sd_v0 sd1 (by omega), sd_v0 sd1 (by omega)] at hco
      rw [hco] at hnn
      have hcb := cst_bd (lo := vI (wI σ 35 0 0) 0 12) (mi := vI (wI σ 35 0 0) 0 13) (un := unW (wI σ 35 0 0) n m) hR0.1.2.2.2.2.2.2.2.2 (aW_bd hR0.1) (bW_bd hR0.1) (fun w hw => (uW_bd hR0.1 w hw).2) (unW_bd hR0.1) hFe
      rcases m_costOf (σ := σ1) (R := fun _ => 0) (v := 46) rfl (fun w hw => by rw [hz w hw]; omega) hR1 with ⟨g1, g2⟩ | ⟨g1, g2⟩
      · rw [g2, bnd_s, hco]
        have htr0 : trF (wI σ 35 0 0) n m ≤ 20000 := by
          unfold trF
          rw [sd_aW sd0, sd_bW sd0, sd_uW sd0]
          exact htr
        obtain ⟨σ', w1, w2⟩ := an_loop hR0 htr0 20000 FU σ1 (fun _ => 0) _ (by unfold FU; omega) hs (fun w hw => ⟨hz w hw, Int.le_refl _, (hbd0 w hw).1⟩) (by
          have := vx_bd (B := RB (wI σ 35 0 0) n m) (f := RV (fun _ => 0)) 25 (rv_bd (fun w hw => ⟨Int.le_refl _, (hbd0 w hw).1⟩))
          omega) ⟨hnn, hcb.2⟩ ⟨_, hFe, rfl⟩ (fun g hg hle => by
          have hgb := rv_bd (σ := wI σ 35 0 0) (n := n) (m := m) (fea_bd hg)
          have hzb := rv_bd (σ := wI σ 35 0 0) (n := n) (m := m) (f := fun _ => 0) (fun w hw => ⟨Int.le_refl _, (hbd0 w hw).1⟩)
          have hsame : ∀ w, w < 25 → g w = (fun _ => (0 : Int)) w := by
            rcases first_diff (f := RV (fun _ => 0)) (g := RV g) 25 with z | ⟨w1, z1, z2, z3⟩
            · intro w hw
              have := z (24 - w) (by omega)
              unfold RV at this
              rw [show 24 - (24 - w) = w by omega] at this
              exact this
            · exfalso
              have q1 := (hgb w1 z1).1
              have q2 : RV (fun _ => (0 : Int)) w1 = 0 := rfl
              have := vx_first (B := RB (wI σ 35 0 0) n m) (w0 := w1) z2 (by omega) 25 z1 hzb hgb
              omega
          rw [cst_congr hsame]
          exact Int.le_refl _)
        rw [sd_lv sd0] at w1
        exact ⟨σ', w1, w2⟩
      · exact absurd hok g1) 25 0 FU (wI σ 35 0 0) (by omega) (by unfold FU; omega) S46.rf (fun k hk => absurd hk (by omega))
    obtain ⟨σ', w1, w2⟩ := hmain
    refine Or.inr ⟨htr, σ', w1, w_smm0.tr (s46_smm w2), ?_⟩
    unfold rI
    rw [w2.1 35 (by omega)]
    exact thr_w
  · rw [if_neg (by rw [lg_cmp_le, Int64.le_iff_toInt_le, J_20000]; exact fun q => htr (hv.mp q)), m_goesWell, bnd_s, if_neg n10, if_pos z00]
    exact Or.inl ⟨by omega, rfl⟩
end MANEW2
