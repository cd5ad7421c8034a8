/-! The least cost by trying all plans. -/
section ANEW2
variable {a bb u un : Nat → Int} {lo mi : Int}
theorem ln_loop (hB : ∀ w, w < 25 → 0 ≤ BD a bb u w) (hpx : PXB (BD a bb u) 25 ≤ 20000) : ∀ (d k fu : Nat) (σ : Mem) (Bst : Int), k + d = 20000 → d < fu → PLAN 24 σ a bb u un lo mi → OPX 24 σ u → (-100000000 ≤ Bst ∧ Bst ≤ 100000000) → (k : Int) ≤ VX (BD a bb u) (fl 24 σ) 25 + 1 →
    (∃ g, Fea a bb u g ∧ cst a bb un lo mi g = Bst) → (∀ g, Fea a bb u g → VX (BD a bb u) g 25 ≤ VX (BD a bb u) (fl 24 σ) 25 → Bst ≤ cst a bb un lo mi g) →
    ∃ σ' c, fX2_leastAnew_35 fu (oI Bst) (nI k) σ = some (Sum.inl (oI c), σ') ∧ SMI 24 σ σ' ∧ Lst a bb u un lo mi c := by
  intro d
  induction d with
  | zero =>
    intro k fu σ Bst h1 h2 hP hO hb hk hex hall
    obtain ⟨fu, rfl⟩ : ∃ q, fu = q + 1 := ⟨fu - 1, by omega⟩
    have hk2 : k = 20000 := by omega
    subst hk2
    refine ⟨σ, Bst, ?_, SMI.rf, hex, fun g hg => hall g hg ?_⟩
    · show fX2_leastAnew_35b _ _ _ _ = _
      unfold fX2_leastAnew_35b
      rw [if_pos (by decide)]
      rfl
    · have := (vx_bd (B := BD a bb u) (f := g) 25 (fea_bd hg)).2
      omega
  | succ d ih =>
    intro k fu σ Bst h1 h2 hP hO hb hk hex hall
    obtain ⟨fu, rfl⟩ : ∃ q, fu = q + 1 := ⟨fu - 1, by omega⟩
    have hf := fea_bd (plan_fea hP)
    obtain ⟨r, σ1, e1, s1, P1, O1, hr⟩ := s_turn hP hO
    have hdef : fX2_leastAnew_35 (fu + 1) (oI Bst) (nI k) σ = if r = 0 then some (Sum.inl (oI Bst), σ1) else fX2_leastAnew_35 fu (mnI (oI Bst) (rI σ1 24 4)) (nI (k + 1)) σ1 := by
      show fX2_leastAnew_35b _ _ _ _ = _
      unfold fX2_leastAnew_35b fX2_leastAnew_70 ltI
      rw [if_neg (by rw [leI, nI_t (by omega)]; have : ((20000 : Int32)).toInt = 20000 := by decide
                     omega), e1, bnd_s, nI_1]
    rw [hdef]
    rcases hr with ⟨rfl, w, hw, g1, g2, g3, hN⟩ | ⟨rfl, hN⟩
    · rw [if_neg (by decide)]
      have hf1 := fea_bd (plan_fea P1)
      have hlt : VX (BD a bb u) (fl 24 σ) 25 < VX (BD a bb u) (fl 24 σ1) 25 := vx_first g1 (by omega) 25 hw hf hf1
      have hc1 := plan_cost P1
      have hcost : vI σ1 24 4 = cst a bb un lo mi (fl 24 σ1) := P1.2.2.2.2
      have hmn : mnI (oI Bst) (rI σ1 24 4) = oI (min Bst (vI σ1 24 4)) := oI_e (by rw [mnI_t, oI_to (by unfold inR; omega)]; rfl)
      rw [hmn]
      obtain ⟨σ', c, w1, w2, w3⟩ := ih (k + 1) fu σ1 (min Bst (vI σ1 24 4)) (by omega) (by omega) P1 O1 (by omega) (by omega) (by
        rcases Int.le_total Bst (vI σ1 24 4) with h | h
        · rw [Int.min_eq_left h]; exact hex
        · rw [Int.min_eq_right h]; exact ⟨fl 24 σ1, plan_fea P1, hcost.symm⟩) (fun g hg hle => by
        rcases Int.lt_or_le (VX (BD a bb u) (fl 24 σ) 25) (VX (BD a bb u) g 25) with h | h
        · have hgb := fea_bd hg
          have hsame : ∀ k, k < 25 → g k = fl 24 σ1 k := by
            rcases first_diff (f := fl 24 σ) (g := g) 25 with h3 | ⟨w1, h3, h4, h5⟩
            · exfalso
              rw [vx_congr 25 h3] at h
              omega
            · have h6 : fl 24 σ w1 < g w1 := by
                rcases Int.lt_or_le (fl 24 σ w1) (g w1) with q | q
                · exact q
                · exfalso
                  have := vx_first (B := BD a bb u) (f := g) (g := fl 24 σ) (w0 := w1) (fun k hk => (h4 k hk).symm) (by omega) 25 h3 hgb hf
                  omega
              rcases Nat.lt_trichotomy w1 w with q | q | q
              · exfalso
                have := vx_first (B := BD a bb u) (f := fl 24 σ1) (g := g) (w0 := w1) (fun k hk => by rw [h4 k hk, g1 k (by omega)]) (by rw [g1 w1 q]; exact h6) 25 h3 hf1 hgb
                omega
              · subst q
                rcases first_diff (f := fl 24 σ1) (g := g) 25 with h7 | ⟨w2, h7, h8, h9⟩
                · exact h7
                · exfalso
                  have h10 : fl 24 σ1 w2 < g w2 := by
                    rcases Nat.lt_trichotomy w2 w1 with z | z | z
                    · exact absurd (by rw [h4 w2 z, g1 w2 z]) h9
                    · subst z; omega
                    · have := g3 w2 z h7
                      have := (hgb w2 h7).1
                      omega
                  have := vx_first (B := BD a bb u) (f := fl 24 σ1) (g := g) h8 h10 25 h7 hf1 hgb
                  omega
              · exfalso
                have := hN g hg w1 (by omega) h3 h4
                omega
          rw [cst_congr hsame, ← hcost]
          omega
        · have := hall g hg h
          omega)
      exact ⟨σ', c, w1, s1.tr w2, w3⟩
    · rw [if_pos rfl]
      refine ⟨σ1, Bst, rfl, s1, hex, fun g hg => hall g hg ?_⟩
      rcases first_diff (f := fl 24 σ) (g := g) 25 with h3 | ⟨w1, h3, h4, h5⟩
      · rw [vx_congr 25 h3]; exact Int.le_refl _
      · have := hN g hg w1 (by omega) h3 h4
        have := vx_first (B := BD a bb u) (f := g) (g := fl 24 σ) (w0 := w1) (fun k hk => (h4 k hk).symm) (by omega) 25 h3 (fea_bd hg) hf
        omega
end ANEW2
section TRIES
variable {σ : Mem} {n m : Nat}
/-- the number of rows of numbers within all ways' bounds -/
def trF (σ : Mem) (n m : Nat) : Int := PXB (BD (aW σ n) (bW σ m) (uW σ n m)) 25
theorem bd_nn (hD : DAT σ n m) : ∀ w, w < 25 → 0 ≤ BD (aW σ n) (bW σ m) (uW σ n m) w ∧ BD (aW σ n) (bW σ m) (uW σ n m) w ≤ 20 := fun w hw => by
  have h1 := aW_bd hD (w / 5) (by omega)
  have h2 := bW_bd hD (w % 5) (by omega)
  have h3 := uW_bd hD w hw
  unfold BD
  omega
theorem bd_off (hD : DAT σ n m) {w : Nat} (hw : w < 25) (h : ¬ (w / 5 < n ∧ w % 5 < m)) : BD (aW σ n) (bW σ m) (uW σ n m) w = 0 := by
  have h1 := aW_bd hD (w / 5) (by omega)
  have h2 := bW_bd hD (w % 5) (by omega)
  have h3 : uW σ n m w = 0 := if_neg h
  unfold BD
  omega
theorem bd_on (hD : DAT σ n m) {i j : Nat} (hi : i < n) (hj : j < m) : BD (aW σ n) (bW σ m) (uW σ n m) (5 * i + j) = if vI σ 8 (5 * i + j) = -1 then min (vI σ 3 i) (vI σ 6 j) else min (min (vI σ 3 i) (vI σ 6 j)) (vI σ 8 (5 * i + j)) := by
  have h5 := hD.1
  have h1 := hD.2.1 i hi
  have h2 := hD.2.2.1 j hj
  unfold BD aW bW uW
  rw [show (5 * i + j) / 5 = i by omega, show (5 * i + j) % 5 = j by omega, if_pos hi, if_pos hj, if_pos ⟨hi, hj⟩]
  split <;> omega
theorem px_skip (hD : DAT σ n m) : ∀ (d k : Nat), k + d ≤ 25 → (∀ w, k ≤ w → w < k + d → ¬ (w / 5 < n ∧ w % 5 < m)) → PXB (BD (aW σ n) (bW σ m) (uW σ n m)) (k + d) = PXB (BD (aW σ n) (bW σ m) (uW σ n m)) k := by
  intro d
  induction d with
  | zero => intro k _ _; rfl
  | succ d ih =>
    intro k h1 h2
    show PXB _ (k + d) * (BD _ _ _ (k + d) + 1) = _
    rw [bd_off hD (by omega) (h2 (k + d) (by omega) (by omega)), ih k (by omega) (fun w h3 h4 => h2 w h3 (by omega))]
    omega
theorem px_some (hD : DAT σ n m) {k : Nat} (hk : k ≤ 25) : 1 ≤ PXB (BD (aW σ n) (bW σ m) (uW σ n m)) k ∧ PXB (BD (aW σ n) (bW σ m) (uW σ n m)) k ≤ trF σ n m := by
  refine ⟨px_pos k (fun w hw => (bd_nn hD w (by omega)).1), ?_⟩
  have := px_mono (B := BD (aW σ n) (bW σ m) (uW σ n m)) (25 - k) k (fun w hw => (bd_nn hD w (by omega)).1)
  rw [show k + (25 - k) = 25 by omega] at this
  exact this
theorem tr_17 (hD : DAT σ n m) {i : Nat} (hi : i < n) (r4 : Int32 → Int32 → Mem → Option (Int32 × Mem)) : ∀ (d j fu : Nat), j + d = m → d < fu → PXB (BD (aW σ n) (bW σ m) (uW σ n m)) (5 * i + j) ≤ 20000 →
    (20000 < trF σ n m ∧ fX2_isTooMuchToTry_17 r4 fu (oI (PXB (BD (aW σ n) (bW σ m) (uW σ n m)) (5 * i + j))) (nI i) (nI j) σ = some (1, σ)) ∨
    (PXB (BD (aW σ n) (bW σ m) (uW σ n m)) (5 * (i + 1)) ≤ 20000 ∧ fX2_isTooMuchToTry_17 r4 fu (oI (PXB (BD (aW σ n) (bW σ m) (uW σ n m)) (5 * i + j))) (nI i) (nI j) σ = r4 (oI (PXB (BD (aW σ n) (bW σ m) (uW σ n m)) (5 * (i + 1)))) (nI (i + 1)) σ) := by
  have h5 := hD.1
  intro d
  induction d with
  | zero =>
    intro j fu h1 h2 hle
    obtain ⟨fu, rfl⟩ : ∃ q, fu = q + 1 := ⟨fu - 1, by omega⟩
    have hj : j = m := by omega
    subst hj
    have e := px_skip hD (5 - j) (5 * i + j) (by omega) (fun w h3 h4 h6 => by omega)
    rw [show 5 * i + j + (5 - j) = 5 * (i + 1) by omega] at e
    rw [e]
    refine Or.inr ⟨hle, ?_⟩
    show fX2_isTooMuchToTry_17b _ _ _ _ _ _ = _
    unfold fX2_isTooMuchToTry_17b
    rw [if_pos (le_nI h5.2.2.1 (by omega)), nI_1]
  | succ d ih =>
    intro j fu h1 h2 hle
    obtain ⟨fu, rfl⟩ : ∃ q, fu = q + 1 := ⟨fu - 1, by omega⟩
    have hj : j < m := by omega
    have hb := bd_nn hD (5 * i + j) (by omega)
    have hp := px_some hD (k := 5 * i + j) (by omega)
    have hp2 := px_some hD (k := 5 * i + j + 1) (by omega)
    have hst : PXB (BD (aW σ n) (bW σ m) (uW σ n m)) (5 * i + j + 1) = PXB (BD (aW σ n) (bW σ m) (uW σ n m)) (5 * i + j) * (BD (aW σ n) (bW σ m) (uW σ n m) (5 * i + j) + 1) := rfl
    have hm := mul_bd (x := PXB (BD (aW σ n) (bW σ m) (uW σ n m)) (5 * i + j)) (y := BD (aW σ n) (bW σ m) (uW σ n m) (5 * i + j) + 1) (X := 20000) (Y := 21) (by omega) (by omega)
    rw [← hst] at hm
    have hdef : fX2_isTooMuchToTry_17 r4 (fu + 1) (oI (PXB (BD (aW σ n) (bW σ m) (uW σ n m)) (5 * i + j))) (nI i) (nI j) σ = if oI (PXB (BD (aW σ n) (bW σ m) (uW σ n m)) (5 * i + j + 1)) ≤ 20000 then fX2_isTooMuchToTry_17 r4 fu (oI (PXB (BD (aW σ n) (bW σ m) (uW σ n m)) (5 * i + j + 1))) (nI i) (nI (j + 1)) σ else some (1, σ) := by
      show fX2_isTooMuchToTry_17b _ _ _ _ _ _ = _
      unfold fX2_isTooMuchToTry_17b fX2_isTooMuchToTry_82 ltI
      rw [if_neg (not_le_nI h5.2.2.1 hj (by omega)), s_wayOf]
      simp only [inb_n (show i < 5 by omega) (show 5 < 2147483648 by omega), inb_n (show j < 5 by omega) (show 5 < 2147483648 by omega), grd_t, bnd_s, inb_n (show 5 * i + j < 25 by omega) (show 25 < 2147483648 by omega), ix_n (show i < 2147483648 by omega), ix_n (show j < 2147483648 by omega), ix_n (show 5 * i + j < 2147483648 by omega)]
      have h11 : (1 : Int32) = oI 1 := rfl
      have hon := bd_on hD hi hj
      have e1 : mnI (rI σ 3 i) (rI σ 6 j) = oI (min (vI σ 3 i) (vI σ 6 j)) := oI_e (by rw [mnI_t]; rfl)
      have q1 := hD.2.1 i hi
      have q2 := hD.2.2.1 j hj
      by_cases h8 : vI σ 8 (5 * i + j) = -1
      · rw [if_pos h8] at hon
        rw [if_pos ((vIe I_m1).mpr h8), e1, h11, oI_add, oI_mul, ← hon, ← hst, ← h11, nI_1]
        rfl
      · rw [if_neg h8] at hon
        have e2 : mnI (oI (min (vI σ 3 i) (vI σ 6 j))) (rI σ 8 (5 * i + j)) = oI (min (min (vI σ 3 i) (vI σ 6 j)) (vI σ 8 (5 * i + j))) := oI_e (by rw [mnI_t, oI_to (by unfold inR; omega)]; rfl)
        rw [if_neg (fun e => h8 ((vIe I_m1).mp e)), e1, e2, h11, oI_add, oI_mul, ← hon, ← hst, ← h11, nI_1]
        rfl
    have ele : oI (PXB (BD (aW σ n) (bW σ m) (uW σ n m)) (5 * i + j + 1)) ≤ 20000 ↔ PXB (BD (aW σ n) (bW σ m) (uW σ n m)) (5 * i + j + 1) ≤ 20000 := by
      rw [leI, oI_to (by unfold inR; omega)]
      have : ((20000 : Int32)).toInt = 20000 := by decide
      rw [this]
    rw [hdef]
    by_cases hh : PXB (BD (aW σ n) (bW σ m) (uW σ n m)) (5 * i + j + 1) ≤ 20000
    · rw [if_pos (ele.mpr hh)]
      exact ih (j + 1) fu (by omega) (by omega) hh
    · rw [if_neg (fun q => hh (ele.mp q))]
      exact Or.inl ⟨by omega, rfl⟩
theorem tr_4 (hD : DAT σ n m) : ∀ (d i fu : Nat), i + d = n → d < fu → PXB (BD (aW σ n) (bW σ m) (uW σ n m)) (5 * i) ≤ 20000 →
    (20000 < trF σ n m ∧ fX2_isTooMuchToTry_4 fu (oI (PXB (BD (aW σ n) (bW σ m) (uW σ n m)) (5 * i))) (nI i) σ = some (1, σ)) ∨ (trF σ n m ≤ 20000 ∧ fX2_isTooMuchToTry_4 fu (oI (PXB (BD (aW σ n) (bW σ m) (uW σ n m)) (5 * i))) (nI i) σ = some (0, σ)) := by
  have h5 := hD.1
  intro d
  induction d with
  | zero =>
    intro i fu h1 h2 hle
    obtain ⟨fu, rfl⟩ : ∃ q, fu = q + 1 := ⟨fu - 1, by omega⟩
    have hj : i = n := by omega
    subst hj
    have e := px_skip hD (25 - 5 * i) (5 * i) (by omega) (fun w h3 h4 h6 => by omega)
    rw [show 5 * i + (25 - 5 * i) = 25 by omega] at e
    refine Or.inr ⟨by unfold trF; rw [e]; exact hle, ?_⟩
    show fX2_isTooMuchToTry_4b _ _ _ _ = _
    unfold fX2_isTooMuchToTry_4b
    rw [if_pos (le_nI h5.1 (by omega))]
    rfl
  | succ d ih =>
    intro i fu h1 h2 hle
    obtain ⟨fu, rfl⟩ : ∃ q, fu = q + 1 := ⟨fu - 1, by omega⟩
    have hi : i < n := by omega
    have hdef : fX2_isTooMuchToTry_4 (fu + 1) (oI (PXB (BD (aW σ n) (bW σ m) (uW σ n m)) (5 * i))) (nI i) σ = fX2_isTooMuchToTry_17 (fX2_isTooMuchToTry_4 fu) FU (oI (PXB (BD (aW σ n) (bW σ m) (uW σ n m)) (5 * i + 0))) (nI i) (nI 0) σ := by
      show fX2_isTooMuchToTry_4b _ _ _ _ = _
      unfold fX2_isTooMuchToTry_4b
      rw [if_neg (not_le_nI h5.1 hi (by omega))]
      rfl
    rw [hdef]
    rcases tr_17 hD hi (fX2_isTooMuchToTry_4 fu) m 0 FU (by omega) (by unfold FU; omega) hle with h | ⟨h3, h4⟩
    · exact Or.inl h
    · rw [h4]
      exact ih (i + 1) fu (by omega) (by omega) h3
theorem s_tooMuch (hD : DAT σ n m) : (20000 < trF σ n m ∧ fX2_isTooMuchToTry σ = some (1, σ)) ∨ (trF σ n m ≤ 20000 ∧ fX2_isTooMuchToTry σ = some (0, σ)) := tr_4 hD n 0 FU (by omega) (by have := hD.1; unfold FU; omega) (by show (1 : Int) ≤ 20000; omega)
theorem v_leastAnew (hI : INV σ n m) : (20000 < trF σ n m ∧ fX2_leastAnew σ = some (Sum.inr 2, σ)) ∨ (trF σ n m ≤ 20000 ∧ ∃ σ', fX2_leastAnew σ = some (Sum.inl (oI (lv σ n m)), σ') ∧ SQ σ σ' ∧ INV σ' n m) := by
  have hD := hI.1
  unfold fX2_leastAnew fX2_leastAnew_e ltI
  rcases s_tooMuch hD with ⟨h, e⟩ | ⟨h, e⟩
  · rw [e, bnd_s, if_neg (by decide)]
    exact Or.inl ⟨h, rfl⟩
  · rw [e, bnd_s, if_pos rfl]
    obtain ⟨σ1, e1, s1, L1⟩ := s_layOut (b := 24) rfl hD
    have P1 := lay_plan L1 hD.2.2.2.2.2.2.2.2 (fun i hi => by have := aW_bd hD i hi; omega) (fun i hi => by have := bW_bd hD i hi; omega) (uW_bd hD) (unW_bd hD)
    have hc := plan_cost P1
    have hcost : vI σ1 24 4 = cst (aW σ n) (bW σ m) (unW σ n m) (vI σ 0 12) (vI σ 0 13) (fl 24 σ1) := P1.2.2.2.2
    have hb := bd_nn hD
    have hv0 : VX (BD (aW σ n) (bW σ m) (uW σ n m)) (fl 24 σ1) 25 = 0 := by
      have : ∀ k, k ≤ 25 → VX (BD (aW σ n) (bW σ m) (uW σ n m)) (fl 24 σ1) k = 0 := by
        intro k
        induction k with
        | zero => intro _; rfl
        | succ k ih =>
          intro hk
          simp only [VX]
          rw [ih (by omega), L1.2.2.1 k (by omega)]
          omega
      exact this 25 (by omega)
    obtain ⟨σ', c, w1, w2, w3⟩ := ln_loop (un := unW σ n m) (lo := vI σ 0 12) (mi := vI σ 0 13) (fun w hw => (hb w hw).1) h 19999 1 FU σ1 (vI σ1 24 4) (by omega) (by unfold FU; omega) P1 L1.2.2.2.2.2.2.2 hc (by rw [hv0]; omega) ⟨fl 24 σ1, plan_fea P1, hcost.symm⟩ (fun g hg hle => by
      have hgb := fea_bd hg
      have hsame : ∀ k, k < 25 → g k = fl 24 σ1 k := by
        rcases first_diff (f := fl 24 σ1) (g := g) 25 with h7 | ⟨w2, h7, h8, h9⟩
        · exact h7
        · exfalso
          have h10 : fl 24 σ1 w2 < g w2 := by
            have := L1.2.2.1 w2 h7
            have := (hgb w2 h7).1
            omega
          have := vx_first (B := BD (aW σ n) (bW σ m) (uW σ n m)) (f := fl 24 σ1) (g := g) h8 h10 25 h7 (fea_bd (plan_fea P1)) hgb
          omega
      rw [cst_congr hsame, ← hcost]
      exact Int.le_refl _)
    have s2 := s1.tr w2
    rw [lv_of w3] at w1
    refine Or.inr ⟨h, σ', ?_, smi_sq s2 rfl, inv_24 s2 hI⟩
    rw [e1, bnd_s]
    rw [oI_v]
    exact w1
end TRIES
