/-! One unit more, in the Model. -/
def sumL (σ : Mem) : Int := sm 10 (lbM σ)
theorem less_sum {σ σ' : Mem} (h : LESS σ σ') : sumL σ' + 1 ≤ sumL σ := by
  obtain ⟨h1, v, hv, h2⟩ := h
  have h3 := sm_le (n := 10) (g := fun x => lbM σ' x + (if x = v then 1 else 0)) (h := lbM σ) (fun x hx => by
    have := h1 x hx
    split
    · rename_i e; subst e; omega
    · omega)
  rw [sm_add, sm_single _ _ _ hv] at h3
  exact h3
section RELAX
variable {n m : Nat} {a bb u c f φ : Nat → Int}
/-- the ways ahead of w are relaxed -/
def RLX (u c f : Nat → Int) (k : Nat) (σ : Mem) : Prop := ∀ w, w < k → (f w < u w → lbM σ (w / 5) < FRm → lbM σ (5 + w % 5) ≤ lbM σ (w / 5) + c w) ∧ (0 < f w → lbM σ (5 + w % 5) < FRm → lbM σ (w / 5) ≤ lbM σ (5 + w % 5) - c w)
theorem rlx_fix {σ : Mem} (h : RLX u c f 25 σ) : Fix (Arc u c f) FRm (lbM σ) := by
  intro x y l hA hx
  rcases hA with ⟨i, j, hi, hj, rfl, rfl, hf, rfl⟩ | ⟨i, j, hi, hj, rfl, rfl, hf, rfl⟩
  · have := (h (5 * x + j) (by omega)).1
    rw [show (5 * x + j) / 5 = x by omega, show (5 * x + j) % 5 = j by omega] at this
    exact this hf hx
  · have := (h (5 * y + j) (by omega)).2
    rw [show (5 * y + j) / 5 = y by omega, show (5 * y + j) % 5 = j by omega] at this
    have := this hf hx
    omega
theorem gnW_sd {σ σ' : Mem} (h : SD σ σ') (w : Nat) : gnW σ' n m w = gnW σ n m w := by
  unfold gnW
  rw [sd_unW h, sd_v0 h (by omega), sd_v0 h (by omega)]
theorem m_pass {σ0 : Mem} (hP : Pot (Arc u c f) (Src a f) φ 20000) (hφ : ∀ v, v < 10 → -20000 ≤ φ v) (hc : ∀ w, w < 25 → c w = gnW σ0 n m w ∧ -20000 ≤ c w ∧ c w ≤ 20000) (r66 : Int32 → Mem → Option (Int32 × Mem)) : ∀ (d w fu : Nat) (v1 : Int32) (σ : Mem), w + d = 25 → d < fu → SML σ0 σ → REL σ n m → MM σ n m a bb u f → BFm a u c f φ σ → ((v1 = 0 ∧ σ = σ0 ∧ RLX u c f w σ) ∨ (v1 = 1 ∧ LESS σ0 σ)) →
    ∃ (v1' : Int32) (σ' : Mem), fX3_carryOne_74 r66 fu v1 (nI w) σ = r66 v1' σ' ∧ SML σ0 σ' ∧ BFm a u c f φ σ' ∧ ((v1' = 0 ∧ σ' = σ0 ∧ RLX u c f 25 σ') ∨ (v1' = 1 ∧ LESS σ0 σ')) := by
  intro d
  induction d with
  | zero =>
    intro w fu v1 σ h1 h2 hs hR hM hB hv
    obtain ⟨fu, rfl⟩ : ∃ q, fu = q + 1 := ⟨fu - 1, by omega⟩
    have hw : w = 25 := by omega
    subst hw
    refine ⟨v1, σ, ?_, hs, hB, hv⟩
    show fX3_carryOne_74b _ _ _ _ _ = _
    unfold fX3_carryOne_74b
    rw [if_pos (by decide)]
  | succ d ih =>
    intro w fu v1 σ h1 h2 hs hR hM hB hv
    obtain ⟨fu, rfl⟩ : ∃ q, fu = q + 1 := ⟨fu - 1, by omega⟩
    obtain ⟨r, σ1, e1, s1, B1, h⟩ := m_goAlong hR hM hP hB hφ (show w < 25 by omega) (by rw [gnW_sd (smm_sd (sml_smm hs))]; exact (hc w (by omega)).1) (hc w (by omega)).2
    have hdef : fX3_carryOne_74 r66 (fu + 1) v1 (nI w) σ = if r = 0 then (if v1 = 0 then fX3_carryOne_74 r66 fu 0 (nI (w + 1)) σ1 else fX3_carryOne_74 r66 fu 1 (nI (w + 1)) σ1) else fX3_carryOne_74 r66 fu 1 (nI (w + 1)) σ1 := by
      show fX3_carryOne_74b _ _ _ _ _ = _
      unfold fX3_carryOne_74b fX3_carryOne_92 fX3_carryOne_97
      rw [if_neg (by rw [leI, nI_t (by omega), I_25]; omega), e1, bnd_s, nI_1]
    rw [hdef]
    have R1 := smm_rel (sml_smm s1) hR
    have M1 := sml_mm s1 hM
    have s01 := hs.tr s1
    rcases h with ⟨rfl, rfl, f1, f2⟩ | ⟨rfl, hL⟩
    · rw [if_pos rfl]
      rcases hv with ⟨rfl, rfl, hx⟩ | ⟨rfl, hx⟩
      · rw [if_pos rfl]
        exact ih (w + 1) fu 0 σ1 (by omega) (by omega) s01 R1 M1 B1 (Or.inl ⟨rfl, rfl, fun k hk => by
          by_cases e : k = w
          · subst e; exact ⟨f1, f2⟩
          · exact hx k (by omega)⟩)
      · rw [if_neg (by decide)]
        exact ih (w + 1) fu 1 σ1 (by omega) (by omega) s01 R1 M1 B1 (Or.inr ⟨rfl, hx⟩)
    · rw [if_neg (by decide)]
      have hL0 : LESS σ0 σ1 := by
        rcases hv with ⟨-, rfl, -⟩ | ⟨-, hx⟩
        · exact hL
        · exact hx.tr hL
      exact ih (w + 1) fu 1 σ1 (by omega) (by omega) s01 R1 M1 B1 (Or.inr ⟨rfl, hL0⟩)
theorem sumL_low {σ : Mem} (hP : Pot (Arc u c f) (Src a f) φ 20000) (hB : BFm a u c f φ σ) (hφ : ∀ v, v < 10 → -20000 ≤ φ v) : -200000 ≤ sumL σ := by
  have h := sm_le (n := 10) (g := fun _ => -20000) (h := lbM σ) (fun v hv => (lb_bd hP hB hφ hv).1)
  have e : sm 10 (fun _ => (-20000 : Int)) = -200000 := by decide
  rw [e] at h
  exact h
theorem m_relax (hP : Pot (Arc u c f) (Src a f) φ 20000) (hφ : ∀ v, v < 10 → -20000 ≤ φ v) : ∀ (d fu : Nat) (σ : Mem), sumL σ + 200000 < (d : Int) → d + 2 < fu → REL σ n m → MM σ n m a bb u f → BFm a u c f φ σ → (∀ w, w < 25 → c w = gnW σ n m w ∧ -20000 ≤ c w ∧ c w ≤ 20000) →
    ∃ σ', fX3_carryOne_66 fu 1 σ = fX3_carryOne_111 FU (-1) 0 σ' ∧ SML σ σ' ∧ BFm a u c f φ σ' ∧ Fix (Arc u c f) FRm (lbM σ') := by
  intro d
  induction d with
  | zero =>
    intro fu σ h1 h2 hR hM hB hc
    have := sumL_low hP hB hφ
    omega
  | succ d ih =>
    intro fu σ h1 h2 hR hM hB hc
    obtain ⟨fu, rfl⟩ : ∃ q, fu = q + 2 := ⟨fu - 2, by omega⟩
    obtain ⟨v1, σ1, e1, s1, B1, h⟩ := m_pass hP hφ hc (fX3_carryOne_66 (fu + 1)) 25 0 FU 0 σ (by omega) (by unfold FU; omega) SML.rf hR hM hB (Or.inl ⟨rfl, rfl, fun w hw => absurd hw (by omega)⟩)
    have hdef : fX3_carryOne_66 (fu + 2) 1 σ = fX3_carryOne_66 (fu + 1) v1 σ1 := by
      rw [← e1]
      show fX3_carryOne_66b _ _ _ = _
      unfold fX3_carryOne_66b
      rw [if_neg (by decide)]
      rfl
    rw [hdef]
    rcases h with ⟨rfl, rfl, hx⟩ | ⟨rfl, hL⟩
    · refine ⟨σ1, ?_, s1, B1, rlx_fix hx⟩
      show fX3_carryOne_66b _ _ _ = _
      unfold fX3_carryOne_66b
      rw [if_pos rfl]
    · have hl := less_sum hL
      obtain ⟨σ', w1, w2, w3, w4⟩ := ih (fu + 1) σ1 (by omega) (by omega) (smm_rel (sml_smm s1) hR) (sml_mm s1 hM) B1 (fun w hw => by rw [gnW_sd (smm_sd (sml_smm s1))]; exact hc w hw)
      exact ⟨σ', w1, s1.tr w2, w3, w4⟩
/-- the first labels -/
theorem m_init {σ0 : Mem} (hR : REL σ0 n m) (hM : MM σ0 n m a bb u f) : ∀ (d i fu : Nat) (σ : Mem), i + d = 5 → d < fu → SML σ0 σ → (∀ k, k < i → lbM σ k = (if rowS f k < a k then 0 else FRm) ∧ lbM σ (5 + k) = FRm ∧ vI σ 48 k = -1) →
    ∃ σ', fX3_carryOne_2 fu (nI i) σ = fX3_carryOne_66 FU 1 σ' ∧ SML σ0 σ' ∧ ∀ k, k < 5 → lbM σ' k = (if rowS f k < a k then 0 else FRm) ∧ lbM σ' (5 + k) = FRm ∧ vI σ' 48 k = -1 := by
  intro d
  induction d with
  | zero =>
    intro i fu σ h1 h2 hs hI
    obtain ⟨fu, rfl⟩ : ∃ q, fu = q + 1 := ⟨fu - 1, by omega⟩
    have hi : i = 5 := by omega
    subst hi
    refine ⟨σ, ?_, hs, hI⟩
    show fX3_carryOne_2b _ _ _ = _
    unfold fX3_carryOne_2b
    rw [if_pos (by decide)]
  | succ d ih =>
    intro i fu σ h1 h2 hs hI
    obtain ⟨fu, rfl⟩ : ∃ q, fu = q + 1 := ⟨fu - 1, by omega⟩
    have hR1 := smm_rel (sml_smm hs) hR
    have hM1 := sml_mm hs hM
    have h40 : ∀ x : Int32, ∀ z : Int, x.toInt = z → z = (if rowS f i < a i then 0 else FRm) → ∃ σ', fX3_carryOne_40 (fX3_carryOne_2 fu) (nI i) x (nI i) σ = fX3_carryOne_66 FU 1 σ' ∧ SML σ0 σ' ∧ ∀ k, k < 5 → lbM σ' k = (if rowS f k < a k then 0 else FRm) ∧ lbM σ' (5 + k) = FRm ∧ vI σ' 48 k = -1 := by
      intro x z hx hz
      have e5 : (5 : Int32) + nI i = nI (5 + i) := by
        show nI 5 + _ = _
        rw [nI_add]
      unfold fX3_carryOne_40 ltM
      simp only [e5, inb_n (show i < 10 by omega) (show 10 < 2147483648 by omega), inb_n (show 5 + i < 10 by omega) (show 10 < 2147483648 by omega), grd_t, ix_n (show i < 2147483648 by omega), ix_n (show 5 + i < 2147483648 by omega), nI_1]
      refine ih (i + 1) fu _ (by omega) (by omega) (hs.tr ⟨fun k h1 h2 => ?_, rfl⟩) (fun k hk => ?_)
      · rw [(wI_ne _ i _ h2).1, (wI_ne _ (5 + i) _ h1).1, (wI_ne _ i _ h1).1]
      · have eL : ∀ z, vI (wI (wI (wI σ 47 i x) 47 (5 + i) 268435456) 48 i (-1)) 47 z = if z = 5 + i then 268435456 else if z = i then x.toInt else vI σ 47 z := fun z => by
          rw [vI_wne (by omega), vI_w]
          by_cases e1 : z = 5 + i
          · rw [if_pos ⟨rfl, e1⟩, if_pos e1]; exact I_far
          · rw [if_neg (fun q => e1 q.2), if_neg e1, vI_w]
            by_cases e2 : z = i
            · rw [if_pos ⟨rfl, e2⟩, if_pos e2]
            · rw [if_neg (fun q => e2 q.2), if_neg e2]
        have e48 : ∀ z, vI (wI (wI (wI σ 47 i x) 47 (5 + i) 268435456) 48 i (-1)) 48 z = if z = i then -1 else vI σ 48 z := fun z => by
          rw [vI_w]
          by_cases e2 : z = i
          · rw [if_pos ⟨rfl, e2⟩, if_pos e2]; exact I_m1
          · rw [if_neg (fun q => e2 q.2), if_neg e2, vI_wne (by omega), vI_wne (by omega)]
        unfold lbM
        rw [eL, eL, e48]
        by_cases e : k = i
        · subst e
          rw [if_neg (show k ≠ 5 + k by omega), if_pos rfl, if_pos rfl, if_pos rfl]
          exact ⟨hx.trans hz, rfl, rfl⟩
        · rw [if_neg (show k ≠ 5 + i by omega), if_neg e, if_neg (show 5 + k ≠ 5 + i by omega), if_neg (show 5 + k ≠ i by omega), if_neg e]
          exact hI k (by omega)
    show ∃ σ', fX3_carryOne_2b _ _ _ = _ ∧ _
    unfold fX3_carryOne_2b fX3_carryOne_38
    rw [if_neg (by rw [leI, nI_t (by omega), I_5]; omega)]
    have hai := hM1.1 i (by omega)
    have hrow : rowS (vI σ 46) i = rowS f i := row_congr (fun w hw => (hM1.2.2.1 w hw).1) (by omega)
    have hr0 : 0 ≤ rowS f i := sm_nonneg (fun j hj => (hM1.2.2.2.1 _ (by omega)).1)
    have hra := hM1.2.2.2.2.1 i (by omega)
    by_cases hin : n ≤ i
    · have hle : rI σ 35 1 ≤ nI i := by
        rw [leI, nI_t (by omega)]
        have : (rI σ 35 1).toInt = n := hR1.2.1.1
        omega
      rw [if_pos hle]
      exact h40 _ FRm I_far (by rw [if_neg (by have := hai.2.2.2 hin; omega)])
    · rw [if_neg (not_le_nI hR1.2.1.1 (by omega) (by have := hR.1.1; omega)), m_given (by omega), bnd_s, inb_n (show i < 5 by omega) (by omega), grd_t, ix_n (n := i) (by omega), hrow]
      have ele : rI σ 43 i ≤ oI (rowS f i) ↔ a i ≤ rowS f i := by
        rw [leI, oI_to (by unfold inR; omega), ← hai.1]
        rfl
      by_cases hst : a i ≤ rowS f i
      · rw [if_pos (ele.mpr hst)]
        exact h40 _ FRm I_far (by rw [if_neg (by omega)])
      · rw [if_neg (fun q => hst (ele.mp q))]
        exact h40 0 0 I_0 (by rw [if_pos (by omega)])
theorem m_labels {σ : Mem} (hR : REL σ n m) (hM : MM σ n m a bb u f) (hP : Pot (Arc u c f) (Src a f) φ 20000) (hφ : ∀ v, v < 10 → -20000 ≤ φ v) (hc : ∀ w, w < 25 → c w = gnW σ n m w ∧ -20000 ≤ c w ∧ c w ≤ 20000) :
    ∃ σ', fX3_carryOne σ = fX3_carryOne_111 FU (-1) 0 σ' ∧ SML σ σ' ∧ BFm a u c f φ σ' ∧ Fix (Arc u c f) FRm (lbM σ') := by
  obtain ⟨σ1, e1, s1, h1⟩ := m_init hR hM 5 0 FU σ (by omega) (by unfold FU; omega) SML.rf (fun k h => absurd h (by omega))
  have hl : ∀ v, v < 10 → lbM σ1 v = if v < 5 ∧ rowS f v < a v then 0 else FRm := by
    intro v hv
    by_cases h : v < 5
    · rw [(h1 v h).1]
      by_cases h2 : rowS f v < a v
      · rw [if_pos h2, if_pos ⟨h, h2⟩]
      · rw [if_neg h2, if_neg (fun q => h2 q.2)]
    · have := (h1 (v - 5) (by omega)).2.1
      rw [show 5 + (v - 5) = v by omega] at this
      rw [this, if_neg (fun q => h q.1)]
  have hp : ∀ v, v < 10 → prM σ1 v = none := by
    intro v hv
    unfold prM
    by_cases h : v < 5
    · rw [(h1 v h).2.2]
      split <;> rfl
    · have h2 : vI σ1 47 v = FRm := by
        have := hl v hv
        rw [if_neg (fun q => h q.1)] at this
        exact this
      rw [h2, if_neg (by omega)]
  have hF0 : (0 : Int) < FRm := by unfold FRm; omega
  have hB1 : BFm a u c f φ σ1 := by
    refine ⟨⟨fun v hv => ?_, fun v x hv h => ?_, fun v hv h _ => ?_, ⟨fun _ => 0, fun v x hv h => ?_⟩, fun v hv hs => ?_⟩, fun v hv h => ?_⟩
    · rw [hl v hv]
      split
      · rename_i h
        exact ⟨by omega, fun _ => ⟨hP.2.1 v h, Int.mul_nonneg hP.2.2 cnt_le.2⟩⟩
      · exact ⟨Int.le_refl _, fun h => absurd h (by omega)⟩
    · rw [hp v hv] at h; cases h
    · rw [hl v hv] at h ⊢
      split at h
      · rename_i h2
        rw [if_pos h2]
        exact ⟨h2, rfl⟩
      · omega
    · rw [hp v hv] at h; cases h
    · rw [hl v hv, if_pos (show v < 5 ∧ rowS f v < a v from hs)]
      exact Int.le_refl _
    · by_cases h5 : v < 5
      · rw [(h1 v h5).2.2]; omega
      · rw [hl v hv, if_neg (fun q => h5 q.1)] at h
        omega
  have hsum : sumL σ1 ≤ 2684354560 := by
    have h := sm_le (n := 10) (g := lbM σ1) (h := fun _ => FRm) (fun v hv => (hB1.1.1 v hv).1)
    have e : sm 10 (fun _ => FRm) = 2684354560 := by decide
    rw [e] at h
    exact h
  obtain ⟨σ', w1, w2, w3, w4⟩ := m_relax (n := n) (m := m) (bb := bb) hP hφ 2700000000 FU σ1 (by omega) (by unfold FU; omega) (smm_rel (sml_smm s1) hR) (sml_mm s1 hM) hB1 (fun w hw => by rw [gnW_sd (smm_sd (sml_smm s1))]; exact hc w hw)
  refine ⟨σ', ?_, s1.tr w2, w3, w4⟩
  rw [← w1, ← e1]
  rfl
end RELAX
