/-! The Model's findPlan, all ways. -/
section FIND3
variable {n m : Nat} {σ : Mem} {f : Nat → Int}
theorem lst_bd {a bb u un : Nat → Int} {lo mi c : Int} (hlm : 0 ≤ lo ∧ lo ≤ 10000 ∧ 0 ≤ mi ∧ mi ≤ 10000) (ha : ∀ i, i < 5 → a i ≤ 21) (hb : ∀ j, j < 5 → bb j ≤ 21) (hu : ∀ w, w < 25 → u w ≤ 40) (hun : ∀ w, w < 25 → 0 ≤ un w ∧ un w ≤ 10000) (h : Lst a bb u un lo mi c) : -100000000 ≤ c ∧ c ≤ 100000000 := by
  obtain ⟨⟨g, g1, g2⟩, -⟩ := h
  have ha' : ∀ i, i < 5 → 0 ≤ a i ∧ a i ≤ 21 := fun i hi => by
    have h1 := g1.2.1 i hi
    have h2 : 0 ≤ rowS g i := sm_nonneg (fun j hj => (g1.1 _ (by omega)).1)
    have := ha i hi
    omega
  have hb' : ∀ i, i < 5 → 0 ≤ bb i ∧ bb i ≤ 21 := fun i hi => by
    have h1 := g1.2.2 i hi
    have h2 : 0 ≤ colS g i := sm_nonneg (fun j hj => (g1.1 _ (by omega)).1)
    have := hb i hi
    omega
  have s1 := sm_bd ha'
  have s2 := sm_bd hb'
  have m1 := mul_bd (X := 10000) (Y := 105) ⟨hlm.1, hlm.2.1⟩ ⟨s1.1, by omega⟩
  have m2 := mul_bd (X := 10000) (Y := 105) ⟨hlm.2.2.1, hlm.2.2.2⟩ ⟨s2.1, by omega⟩
  have t := tot_bd (κ := fun w => un w - lo - mi) (g := g) (A := 20000) (B := 40) (by omega) (by omega) (fun w hw => by have := hun w hw; omega) (fun w hw => by have := g1.1 w hw; have := hu w hw; omega)
  rw [← g2]
  unfold cst
  omega
theorem msk_bd (hF : Fea (aW σ n) (bW σ m) (uM σ n m) f) (hD : DAT σ n m) (w : Nat) : (∀ k, k < 25 → 0 ≤ msk w f k ∧ msk w f k ≤ 40) ∧ (∀ i, i < 5 → 0 ≤ rowS (msk w f) i ∧ rowS (msk w f) i ≤ aW σ n i) ∧ ∀ j, j < 5 → 0 ≤ colS (msk w f) j ∧ colS (msk w f) j ≤ bW σ m j := by
  have h1 : ∀ k, k < 25 → 0 ≤ msk w f k ∧ msk w f k ≤ f k := fun k hk => by
    have := (hF.1 k hk).1
    unfold msk
    split <;> omega
  refine ⟨fun k hk => ?_, fun i hi => ⟨sm_nonneg (fun j hj => (h1 _ (by omega)).1), ?_⟩, fun j hj => ⟨sm_nonneg (fun i hi => (h1 _ (by omega)).1), ?_⟩⟩
  · have := h1 k hk
    have := hF.1 k hk
    have := uM_bd hD k hk
    omega
  · have : rowS (msk w f) i ≤ rowS f i := sm_le (fun j hj => (h1 _ (by omega)).2)
    have := hF.2.1 i hi
    omega
  · have : colS (msk w f) j ≤ colS f j := sm_le (fun i hi => (h1 _ (by omega)).2)
    have := hF.2.2 j hj
    omega
def dueF (σ : Mem) (n m : Nat) (f : Nat → Int) (w : Nat) : Int := cst (aW σ n) (bW σ m) (unW σ n m) (vI σ 0 12) (vI σ 0 13) f - tot (fun k => unW σ n m k * msk w f k)
theorem due_bd (hL : Lex (aW σ n) (bW σ m) (uM σ n m) (unW σ n m) (vI σ 0 12) (vI σ 0 13) f) (hD : DAT σ n m) (w : Nat) : inR (dueF σ n m f w) := by
  have h1 := lst_bd hD.2.2.2.2.2.2.2.2 (fun i hi => by have := aW_bd hD i hi; omega) (fun i hi => by have := bW_bd hD i hi; omega) (fun w hw => (uM_bd hD w hw).2) (unW_bd hD) (lex_lst hL)
  have h2 := tot_bd (κ := unW σ n m) (g := msk w f) (A := 10000) (B := 40) (by omega) (by omega) (fun w hw => by have := unW_bd hD w hw; omega) (msk_bd hL.1 hD w).1
  unfold dueF inR
  omega
theorem msk_succ (w : Nat) : msk (w + 1) f = fun k => msk w f k + (if k = w then f w else 0) := by
  funext k
  unfold msk
  by_cases h : k = w
  · subst h; rw [if_pos (by omega), if_neg (by omega), if_pos rfl]; omega
  · rw [if_neg h]
    by_cases h2 : k < w
    · rw [if_pos (by omega), if_pos h2]; omega
    · rw [if_neg (by omega), if_neg h2]; omega
theorem due_succ {w : Nat} (hw : w < 25) : dueF σ n m f (w + 1) = dueF σ n m f w - f w * unW σ n m w := by
  have e : 5 * (w / 5) + w % 5 = w := by omega
  have q := tot_upd (κ := unW σ n m) (g := msk w f) (x := f w) (i := w / 5) (h := w % 5) (by omega) (by omega)
  rw [e, Int.mul_comm (unW σ n m w) (f w)] at q
  have q2 : tot (fun k => unW σ n m k * msk (w + 1) f k) = tot (fun k => unW σ n m k * if k = w then msk w f k + f w else msk w f k) := tot_congr (fun k _ => by
    rw [msk_succ]
    dsimp only
    by_cases h : k = w
    · rw [if_pos h, if_pos h]
    · rw [if_neg h, if_neg h]; simp)
  unfold dueF
  rw [q2, q]
  omega
theorem m_fp (hL : Lex (aW σ n) (bW σ m) (uM σ n m) (unW σ n m) (vI σ 0 12) (vI σ 0 13) f) (hD0 : DAT σ n m) : ∀ (d w fu : Nat) (τ : Mem), w + d = 25 → d < fu → SMF σ τ → REL τ n m → FPL σ n m f w τ →
    ∃ τ', fX3_findPlan_7 fu (oI (dueF σ n m f w)) (nI w) τ = some (0, τ') ∧ SMF σ τ' ∧ FPL σ n m f 25 τ' := by
  intro d
  induction d with
  | zero =>
    intro w fu τ h1 h2 hs hR hP
    obtain ⟨fu, rfl⟩ : ∃ q, fu = q + 1 := ⟨fu - 1, by omega⟩
    have hw : w = 25 := by omega
    subst hw
    refine ⟨τ, ?_, hs, hP⟩
    show fX3_findPlan_7b _ _ _ _ = _
    unfold fX3_findPlan_7b
    rw [if_pos (by decide)]
  | succ d ih =>
    intro w fu τ h1 h2 hs hR hP
    obtain ⟨fu, rfl⟩ : ∃ q, fu = q + 1 := ⟨fu - 1, by omega⟩
    have hw : w < 25 := by omega
    have hF := hL.1
    have hfw := hF.1 w hw
    have hub := uM_bd hD0 w hw
    have hle := msk_le hF hw
    have hmb := msk_bd hF hD0 w
    have ha := aW_bd hD0 (w / 5) (by omega)
    have hb := bW_bd hD0 (w % 5) (by omega)
    -- what stands after the way is set
    have h94 : ∀ (v5 : Int32) (τ1 : Mem), SMF σ τ1 → REL τ1 n m → FPL σ n m f w τ1 → ((v5 = 0 ∧ f w = 0) ∨ (v5 = 1 ∧ w / 5 < n ∧ w % 5 < m)) → ∃ τ', fX3_findPlan_94 (fX3_findPlan_7 fu) (oI (dueF σ n m f w)) (nI w) (nI (w / 5)) (nI (w % 5)) v5 (oI (f w)) τ1 = some (0, τ') ∧ SMF σ τ' ∧ FPL σ n m f 25 τ' := by
      intro v5 τ1 s1 R1 P1 hv5
      have hA : vI τ1 43 (w / 5) = aW σ n (w / 5) - rowS (msk w f) (w / 5) ∧ True := ⟨(P1.1.1 (w / 5) (by omega)).1, trivial⟩
      have hB : vI τ1 44 (w % 5) = bW σ m (w % 5) - colS (msk w f) (w % 5) ∧ True := ⟨(P1.1.2.1 (w % 5) (by omega)).1, trivial⟩
      have b1 := hmb.2.1 (w / 5) (by omega)
      have b2 := hmb.2.2 (w % 5) (by omega)
      have s4 : SMF τ1 (wI (wI (wI (wI τ1 49 w (oI (f w))) 43 (w / 5) (oI (aW σ n (w / 5) - rowS (msk w f) (w / 5) - f w))) 44 (w % 5) (oI (bW σ m (w % 5) - colS (msk w f) (w % 5) - f w))) 45 w 0) := (((smf_w (by omega)).tr (smf_w (by omega))).tr (smf_w (by omega))).tr (smf_w (by omega))
      have R4 := smm_rel (smf_smm s4) R1
      have P4 : FPL σ n m f (w + 1) (wI (wI (wI (wI τ1 49 w (oI (f w))) 43 (w / 5) (oI (aW σ n (w / 5) - rowS (msk w f) (w / 5) - f w))) 44 (w % 5) (oI (bW σ m (w % 5) - colS (msk w f) (w % 5) - f w))) 45 w 0) := by
        have hmb1 := msk_bd hF hD0 (w + 1)
        refine ⟨⟨fun i hi => ?_, fun j hj => ?_, fun k hk => ?_⟩, fun k hk => ?_⟩
        · have q : vI τ1 43 i = aW σ n i - rowS (msk w f) i ∧ True := ⟨(P1.1.1 i hi).1, trivial⟩
          have q1 := hmb1.2.1 i hi
          have q2 := aW_bd hD0 i hi
          refine ⟨?_, by dsimp only; omega, by dsimp only; omega, fun h => ?_⟩
          · show _ = aW σ n i - rowS (msk (w + 1) f) i
            rw [msk_succ, row_x hw _ _ hi, vI_wne (by omega), vI_wne (by omega), vI_w]
            by_cases e : i = w / 5
            · rw [if_pos ⟨rfl, e⟩, if_pos e, oI_to (by unfold inR; omega), e]
              omega
            · rw [if_neg (fun z => e z.2), if_neg e, vI_wne (by omega), q.1]
              omega
          · have : aW σ n i = 0 := if_neg (by omega)
            dsimp only
            omega
        · have q : vI τ1 44 j = bW σ m j - colS (msk w f) j ∧ True := ⟨(P1.1.2.1 j hj).1, trivial⟩
          have q1 := hmb1.2.2 j hj
          have q2 := bW_bd hD0 j hj
          refine ⟨?_, by dsimp only; omega, by dsimp only; omega, fun h => ?_⟩
          · show _ = bW σ m j - colS (msk (w + 1) f) j
            rw [msk_succ, col_x hw _ _ hj, vI_wne (by omega), vI_w]
            by_cases e : j = w % 5
            · rw [if_pos ⟨rfl, e⟩, if_pos e, oI_to (by unfold inR; omega), e]
              omega
            · rw [if_neg (fun z => e z.2), if_neg e, vI_wne (by omega), vI_wne (by omega), q.1]
              omega
          · have : bW σ m j = 0 := if_neg (by omega)
            dsimp only
            omega
        · have q := P1.1.2.2 k hk
          have qq : nmk (w + 1) (uM σ n m) k = if k = w then 0 else nmk w (uM σ n m) k := (congrFun nmk_step k).symm
          rw [qq, vI_w]
          by_cases e : k = w
          · rw [if_pos e, if_pos ⟨rfl, e⟩]
            exact ⟨by omega, by omega, fun _ => I_0, fun _ => rfl⟩
          · rw [if_neg e, if_neg (fun z => e z.2), vI_wne (by omega), vI_wne (by omega), vI_wne (by omega)]
            exact q
        · rw [vI_wne (by omega), vI_wne (by omega), vI_wne (by omega), vI_w]
          by_cases e : k = w
          · rw [if_pos ⟨rfl, e⟩, oI_to (by unfold inR; omega), e]
          · rw [if_neg (fun z => e z.2)]
            exact P1.2 k (by omega)
      obtain ⟨τ', w1, w2, w3⟩ := ih (w + 1) fu _ (by omega) (by omega) (s1.tr s4) R4 P4
      refine ⟨τ', ?_, w2, w3⟩
      rw [← w1]
      unfold fX3_findPlan_94 fX3_findPlan_152 ltM ltI
      simp only [inb_n (show w / 5 < 5 by omega) (show 5 < 2147483648 by omega), inb_n (show w % 5 < 5 by omega) (show 5 < 2147483648 by omega), inb_n hw (show 25 < 2147483648 by omega), grd_t, ix_n (show w < 2147483648 by omega), ix_n (show w / 5 < 2147483648 by omega), ix_n (show w % 5 < 2147483648 by omega)]
      have q1 : rI (wI τ1 49 w (oI (f w))) 43 (w / 5) - oI (f w) = oI (aW σ n (w / 5) - rowS (msk w f) (w / 5) - f w) := by rw [oI_v, vI_wne (by omega), hA.1, oI_sub]
      rw [q1]
      have q2 : rI (wI (wI τ1 49 w (oI (f w))) 43 (w / 5) (oI (aW σ n (w / 5) - rowS (msk w f) (w / 5) - f w))) 44 (w % 5) - oI (f w) = oI (bW σ m (w % 5) - colS (msk w f) (w % 5) - f w) := by rw [oI_v, vI_wne (by omega), vI_wne (by omega), hB.1, oI_sub]
      rw [q2, due_succ hw, nI_1]
      rcases hv5 with ⟨rfl, h0⟩ | ⟨rfl, hi, hj⟩
      · have hz : oI (dueF σ n m f w) - 0 = oI (dueF σ n m f w - f w * unW σ n m w) := by
          have h00 : (0 : Int32) = oI 0 := rfl
          rw [h0, Int.zero_mul, h00, oI_sub]
        rw [if_pos rfl, hz]
      · have e9 := m_unitOf R4 hi hj
        have sd := smm_sd (smf_smm (s1.tr s4))
        rw [sd_unD sd] at e9
        have hun : unW σ n m w = unD σ (w / 5) (w % 5) := if_pos ⟨hi, hj⟩
        rw [if_neg (by decide), e9, bnd_s, oI_mul, oI_sub, hun]
    show ∃ τ', fX3_findPlan_7b _ _ _ _ = _ ∧ _
    unfold fX3_findPlan_7b fX3_findPlan_65 ltI
    dsimp only
    rw [if_neg (by rw [leI, nI_t (by omega), I_25]; omega), (nI_div5' hw).2, (nI_div5' hw).1, m_isWay hR, bnd_s, nI_t (by omega), nI_t (by omega)]
    by_cases hop : w / 5 < n ∧ w % 5 < m
    · rw [if_pos (show (0 ≤ ((w / 5 : Nat) : Int) ∧ ((w / 5 : Nat) : Int) < n) ∧ 0 ≤ ((w % 5 : Nat) : Int) ∧ ((w % 5 : Nat) : Int) < m by omega), if_neg (show ¬ (1 : Int32) = 0 by decide)]
      have hA : vI τ 43 (w / 5) = aW σ n (w / 5) - rowS (msk w f) (w / 5) ∧ True := ⟨(hP.1.1 (w / 5) (by omega)).1, trivial⟩
      have hB : vI τ 44 (w % 5) = bW σ m (w % 5) - colS (msk w f) (w % 5) ∧ True := ⟨(hP.1.2.1 (w % 5) (by omega)).1, trivial⟩
      have hU := (hP.1.2.2 w hw).2.2.1 hop
      have hUn : nmk w (uM σ n m) w = uM σ n m w := if_neg (by omega)
      rw [hUn] at hU
      have b1 := hmb.2.1 (w / 5) (by omega)
      have b2 := hmb.2.2 (w % 5) (by omega)
      rw [inb_n hw (by omega), grd_t, inb_n (show w / 5 < 5 by omega) (by omega), grd_t, inb_n (show w % 5 < 5 by omega) (by omega), grd_t, ix_n (n := w) (by omega), ix_n (n := w / 5) (by omega), ix_n (n := w % 5) (by omega), oI_v τ 43, oI_v τ 44, hA.1, hB.1, m_lesserI (by unfold inR; omega) (by unfold inR; omega), bnd_s, oI_v τ 45, hU, m_lesserI (by unfold inR; omega) (by unfold inR; omega), bnd_s]
      obtain ⟨τ', w1, w2, w3, w4⟩ := m_while hL hw hop.1 hop.2 (dueF σ n m f w) rfl hD0 (fun L x hx0 hx1 hLL => by
        have h1 := lst_bd hD0.2.2.2.2.2.2.2.2 (fun i hi => by
          have := aW_bd hD0 i hi
          have := hmb.2.1 i hi
          split <;> omega) (fun i hi => by
          have := bW_bd hD0 i hi
          have := hmb.2.2 i hi
          split <;> omega) (fun k hk => by
          have := uM_bd hD0 k hk
          unfold nmk
          split
          · omega
          · split <;> omega) (unW_bd hD0) hLL
        have h2 := mul_bd (x := x) (y := unW σ n m w) (X := 40) (Y := 10000) ⟨hx0, hx1⟩ (unW_bd hD0 w hw)
        unfold inR
        omega) (due_bd hL hD0 w) (fX3_findPlan_7 fu) (min (uM σ n m w) (min (aW σ n (w / 5) - rowS (msk w f) (w / 5)) (bW σ m (w % 5) - colS (msk w f) (w % 5))) - f w).toNat FU (min (uM σ n m w) (min (aW σ n (w / 5) - rowS (msk w f) (w / 5)) (bW σ m (w % 5) - colS (msk w f) (w % 5)))) τ (by omega) (by unfold FU; omega) hs hR hP (by omega) (by omega) (by omega)
      rw [w1]
      exact h94 1 τ' w2 w3 w4 (Or.inr ⟨rfl, hop.1, hop.2⟩)
    · have hz : f w = 0 := by
        have : uM σ n m w = 0 := if_neg hop
        omega
      rw [if_neg (show ¬ ((0 ≤ ((w / 5 : Nat) : Int) ∧ ((w / 5 : Nat) : Int) < n) ∧ 0 ≤ ((w % 5 : Nat) : Int) ∧ ((w % 5 : Nat) : Int) < m) by omega), if_pos rfl]
      have e67 : fX3_findPlan_67 (fX3_findPlan_7 fu) FU (oI (dueF σ n m f w)) (nI w) (nI (w / 5)) (nI (w % 5)) 0 0 τ = fX3_findPlan_94 (fX3_findPlan_7 fu) (oI (dueF σ n m f w)) (nI w) (nI (w / 5)) (nI (w % 5)) 0 0 τ := by
        obtain ⟨q, hq⟩ : ∃ q, FU = q + 1 := ⟨FU - 1, by unfold FU; omega⟩
        rw [hq]
        show fX3_findPlan_67b _ _ _ _ _ _ _ _ _ = _
        unfold fX3_findPlan_67b
        rw [if_pos rfl]
      rw [e67]
      have h := h94 0 τ hs hR hP (Or.inl ⟨rfl, hz⟩)
      rw [hz] at h
      exact h
theorem m_leastT (hR : REL σ n m) : ∃ σ', fX3_leastOf σ = some (oI (lv σ n m), σ') ∧ SMT σ σ' ∧ M0 σ' n m (aW σ n) (bW σ m) (uM σ n m) := by
  obtain ⟨σ1, e1, s1, M1⟩ := m_layOut hR
  have R1 := smm_rel (smh_smm s1) hR
  have sd1 := smm_sd (smh_smm s1)
  obtain ⟨σ2, e2, s2, -⟩ := m_solve R1 M1
  rw [sd_unW sd1, sd_v0 sd1 (show 12 ≠ 14 by omega), sd_v0 sd1 (show 13 ≠ 14 by omega), lv_M hR.1] at e2
  refine ⟨σ2, ?_, (smh_smt s1).tr (sms_smt s2), sms_m0 s2 M1⟩
  unfold fX3_leastOf fX3_leastOf_e
  rw [e1, bnd_s, e2, bnd_s]
theorem m_findPlan (hR : REL σ n m) (hI : INV σ n m) : ∃ σ', fX3_findPlan σ = some (0, σ') ∧ SMF σ σ' ∧ (∀ w, w < 25 → vI σ' 49 w = lf σ n m w) ∧ (∀ i, i < 5 → vI σ' 43 i = aW σ n i - rowS (lf σ n m) i) ∧ ∀ j, j < 5 → vI σ' 44 j = bW σ m j - colS (lf σ n m) j := by
  have hL := lex_ex hI
  obtain ⟨σ1, e1, s1, M1⟩ := m_leastT hR
  have R1 := smm_rel (smt_smm s1) hR
  have s1f := smt_smf s1
  have hmz : ∀ k, msk 0 (lf σ n m) k = 0 := fun k => if_neg (by omega)
  have hr0 : ∀ i, rowS (msk 0 (lf σ n m)) i = 0 := fun i => by
    unfold rowS
    rw [sm_congr (h := fun _ => 0) (fun j _ => hmz _), sm_zero]
  have hc0 : ∀ i, colS (msk 0 (lf σ n m)) i = 0 := fun i => by
    unfold colS
    rw [sm_congr (h := fun _ => 0) (fun j _ => hmz _), sm_zero]
  have hdue : dueF σ n m (lf σ n m) 0 = lv σ n m := by
    unfold dueF
    have e : tot (fun k => unW σ n m k * msk 0 (lf σ n m) k) = 0 := by
      rw [tot_congr (h := fun _ => 0) (fun k _ => by rw [hmz]; simp)]
      unfold tot
      rw [sm_congr (h := fun _ => 0) (fun i _ => sm_zero 5), sm_zero]
    rw [e, lv_of (lex_lst hL), lv_M hR.1]
    omega
  obtain ⟨σ2, e2, s2, P2⟩ := m_fp hL hR.1 25 0 FU σ1 (by omega) (by unfold FU; omega) s1f R1 ⟨⟨fun i hi => by
      have := M1.1 i hi
      dsimp only
      rw [hr0, Int.sub_zero]
      exact this, fun j hj => by
      have := M1.2.1 j hj
      dsimp only
      rw [hc0, Int.sub_zero]
      exact this, fun k hk => by
      have : nmk 0 (uM σ n m) k = uM σ n m k := if_neg (by omega)
      rw [this]
      exact M1.2.2 k hk⟩, fun k hk => absurd hk (by omega)⟩
  have hm25 : ∀ k, k < 25 → msk 25 (lf σ n m) k = lf σ n m k := fun k hk => if_pos hk
  refine ⟨σ2, ?_, s2, P2.2, fun i hi => ?_, fun j hj => ?_⟩
  · unfold fX3_findPlan fX3_findPlan_e
    rw [e1, bnd_s, ← hdue]
    exact e2
  · have h : vI σ2 43 i = aW σ n i - rowS (msk 25 (lf σ n m)) i := (P2.1.1 i hi).1
    rw [h, row_congr hm25 hi]
  · have h : vI σ2 44 j = bW σ m j - colS (msk 25 (lf σ n m)) j := (P2.1.2.1 j hj).1
    rw [h, col_congr hm25 hj]
end FIND3
