/-! The Model: by order. -/
section MORDER
variable {σ : Mem} {n m : Nat}
theorem le_nI' {σ : Mem} {k i n j : Nat} (h : vI σ k i = n) (hj : n ≤ j) (hn : j ≤ 1000) : rI σ k i ≤ nI j := by
  rw [leI, nI_t (by omega)]
  unfold vI at h
  omega
theorem mco_zero (hR : REL σ n m) : ∀ (d w fu : Nat), w + d = 25 → d < fu → fX3_canOrder_75 fu 0 (nI w) σ = some (0, σ) := by
  intro d
  induction d with
  | zero =>
    intro w fu h1 h2
    obtain ⟨fu, rfl⟩ : ∃ q, fu = q + 1 := ⟨fu - 1, by omega⟩
    have hw : w = 25 := by omega
    subst hw
    show fX3_canOrder_75b _ _ _ _ = _
    unfold fX3_canOrder_75b
    rw [if_pos (by decide)]
    rfl
  | succ d ih =>
    intro w fu h1 h2
    obtain ⟨fu, rfl⟩ : ∃ q, fu = q + 1 := ⟨fu - 1, by omega⟩
    rw [← ih (w + 1) fu (by omega) (by omega)]
    show fX3_canOrder_75b _ _ _ _ = _
    unfold fX3_canOrder_75b fX3_canOrder_122 fX3_canOrder_123
    rw [if_neg (by rw [leI, nI_t (by omega), I_25]; omega), if_pos rfl, nI_1]
theorem mco_one (hR : REL σ n m) : ∀ (d w fu : Nat), w + d = 25 → d < fu → (∀ k, k < w → vI σ 7 k = -1 ∧ vI σ 8 k = -1) → ((∀ k, k < 25 → vI σ 7 k = -1 ∧ vI σ 8 k = -1) ∧ fX3_canOrder_75 fu 1 (nI w) σ = some (1, σ)) ∨ (¬ (∀ k, k < 25 → vI σ 7 k = -1 ∧ vI σ 8 k = -1) ∧ fX3_canOrder_75 fu 1 (nI w) σ = some (0, σ)) := by
  have h5 := hR.1.1
  intro d
  induction d with
  | zero =>
    intro w fu h1 h2 hI
    obtain ⟨fu, rfl⟩ : ∃ q, fu = q + 1 := ⟨fu - 1, by omega⟩
    have hw : w = 25 := by omega
    subst hw
    refine Or.inl ⟨hI, ?_⟩
    show fX3_canOrder_75b _ _ _ _ = _
    unfold fX3_canOrder_75b
    rw [if_pos (by decide)]
    rfl
  | succ d ih =>
    intro w fu h1 h2 hI
    obtain ⟨fu, rfl⟩ : ∃ q, fu = q + 1 := ⟨fu - 1, by omega⟩
    have hw : w < 25 := by omega
    have hz := mco_zero hR d (w + 1) fu (by omega) (by omega)
    obtain ⟨e40, e41, -⟩ := hR.2.2.2.2.2 w hw
    have hdef : fX3_canOrder_75 (fu + 1) 1 (nI w) σ = if (0 ≤ ((w / 5 : Nat) : Int) ∧ ((w / 5 : Nat) : Int) < n) ∧ 0 ≤ ((w % 5 : Nat) : Int) ∧ ((w % 5 : Nat) : Int) < m then (if rI σ 40 w = -1 then (if rI σ 41 w = -1 then fX3_canOrder_75 fu 1 (nI (w + 1)) σ else some (0, σ)) else some (0, σ)) else fX3_canOrder_75 fu 1 (nI (w + 1)) σ := by
      show fX3_canOrder_75b _ _ _ _ = _
      unfold fX3_canOrder_75b fX3_canOrder_122 fX3_canOrder_118 fX3_canOrder_123
      rw [if_neg (by rw [leI, nI_t (by omega), I_25]; omega), if_neg n10, (nI_div5' hw).2, (nI_div5' hw).1, m_isWay hR, bnd_s, nI_t (by omega), nI_t (by omega), nI_1, hz, inb_n hw (by omega), grd_t, grd_t, ix_n (n := w) (by omega)]
      by_cases h : (0 ≤ ((w / 5 : Nat) : Int) ∧ ((w / 5 : Nat) : Int) < n) ∧ 0 ≤ ((w % 5 : Nat) : Int) ∧ ((w % 5 : Nat) : Int) < m
      · rw [if_pos h, if_pos h, if_neg n10]
      · rw [if_neg h, if_neg h, if_pos z00]
    have hgo : vI σ 7 w = -1 ∧ vI σ 8 w = -1 → ((∀ k, k < 25 → vI σ 7 k = -1 ∧ vI σ 8 k = -1) ∧ fX3_canOrder_75 fu 1 (nI (w + 1)) σ = some (1, σ)) ∨ (¬ (∀ k, k < 25 → vI σ 7 k = -1 ∧ vI σ 8 k = -1) ∧ fX3_canOrder_75 fu 1 (nI (w + 1)) σ = some (0, σ)) := fun h => ih (w + 1) fu (by omega) (by omega) (fun k hk => by
      by_cases e : k = w
      · rw [e]; exact h
      · exact hI k (by omega))
    rw [hdef]
    by_cases h : (0 ≤ ((w / 5 : Nat) : Int) ∧ ((w / 5 : Nat) : Int) < n) ∧ 0 ≤ ((w % 5 : Nat) : Int) ∧ ((w % 5 : Nat) : Int) < m
    · rw [if_pos h]
      by_cases h7 : vI σ 7 w = -1
      · rw [if_pos ((vIe I_m1).mpr (by rw [e40]; exact h7))]
        by_cases h8 : vI σ 8 w = -1
        · rw [if_pos ((vIe I_m1).mpr (by rw [e41]; exact h8))]
          exact hgo ⟨h7, h8⟩
        · rw [if_neg (fun q => h8 (by rw [← e41]; exact (vIe I_m1).mp q))]
          exact Or.inr ⟨fun q => h8 (q w hw).2, rfl⟩
      · rw [if_neg (fun q => h7 (by rw [← e40]; exact (vIe I_m1).mp q))]
        exact Or.inr ⟨fun q => h7 (q w hw).1, rfl⟩
    · rw [if_neg h]
      have h9 := hR.1.2.2.2.2.1 (w / 5) (w % 5) (by omega) (by omega) (fun q => h (by omega))
      rw [show 5 * (w / 5) + w % 5 = w by omega] at h9
      exact hgo ⟨h9.1, h9.2.1⟩
theorem mco_4x (hR : REL σ n m) : ∀ (d i fu : Nat), i + d = 5 → d < fu → (CGO σ ∧ fX3_canOrder_4 fu (oI (sm i (aW σ n) - sm i (bW σ m))) (nI i) σ = some (1, σ)) ∨ (¬ CGO σ ∧ fX3_canOrder_4 fu (oI (sm i (aW σ n) - sm i (bW σ m))) (nI i) σ = some (0, σ)) := by
  have hD := hR.1
  have h5 := hD.1
  have hA : sm 5 (aW σ n) = sm 5 (fun i => vI σ 3 i) := sm_congr (fun i hi => by
    unfold aW
    by_cases h : i < n
    · rw [if_pos h]
    · rw [if_neg h, hD.2.2.2.2.2.1 i hi (by omega)])
  have hB : sm 5 (bW σ m) = sm 5 (fun i => vI σ 6 i) := sm_congr (fun i hi => by
    unfold bW
    by_cases h : i < m
    · rw [if_pos h]
    · rw [if_neg h, hD.2.2.2.2.2.2.1 i hi (by omega)])
  have b1 := sm_bd (aW_bd hD)
  have b2 := sm_bd (bW_bd hD)
  intro d
  induction d with
  | zero =>
    intro i fu h1 h2
    obtain ⟨fu, rfl⟩ : ∃ q, fu = q + 1 := ⟨fu - 1, by omega⟩
    have hi : i = 5 := by omega
    subst hi
    have hz := mco_zero hR 25 0 FU (by omega) (by unfold FU; omega)
    have ho := mco_one hR 25 0 FU (by omega) (by unfold FU; omega) (fun k h => absurd h (by omega))
    have hdef : fX3_canOrder_4 (fu + 1) (oI (sm 5 (aW σ n) - sm 5 (bW σ m))) (nI 5) σ = if rI σ 35 7 = 1 then some (0, σ) else (if oI (sm 5 (aW σ n) - sm 5 (bW σ m)) = 0 then fX3_canOrder_75 FU 1 (nI 0) σ else some (0, σ)) := by
      rw [← hz]
      show fX3_canOrder_4b _ _ _ _ = _
      unfold fX3_canOrder_4b fX3_canOrder_71 fX3_canOrder_72
      rw [if_pos (by decide)]
      rfl
    rw [hdef]
    obtain ⟨e7, -⟩ := hR.2.2.1
    by_cases hm : vI σ 0 10 = 1
    · rw [if_pos ((vIe I_1).mpr (by rw [e7]; exact hm))]
      exact Or.inr ⟨fun q => q.1 hm, rfl⟩
    · rw [if_neg (fun q => hm (by rw [← e7]; exact (vIe I_1).mp q))]
      have ez : oI (sm 5 (aW σ n) - sm 5 (bW σ m)) = 0 ↔ sm 5 (fun i => vI σ 3 i) = sm 5 (fun i => vI σ 6 i) := by
        rw [eqI, oI_to (by unfold inR; omega), I_0, ← hA, ← hB]
        omega
      by_cases hs : sm 5 (fun i => vI σ 3 i) = sm 5 (fun i => vI σ 6 i)
      · rw [if_pos (ez.mpr hs)]
        rcases ho with ⟨g1, g2⟩ | ⟨g1, g2⟩
        · exact Or.inl ⟨⟨hm, hs, g1⟩, g2⟩
        · exact Or.inr ⟨fun q => g1 q.2.2, g2⟩
      · rw [if_neg (fun q => hs (ez.mp q))]
        exact Or.inr ⟨fun q => hs q.2.1, rfl⟩
  | succ d ih =>
    intro i fu h1 h2
    obtain ⟨fu, rfl⟩ : ∃ q, fu = q + 1 := ⟨fu - 1, by omega⟩
    have hi : i < 5 := by omega
    have hdef : fX3_canOrder_4 (fu + 1) (oI (sm i (aW σ n) - sm i (bW σ m))) (nI i) σ = fX3_canOrder_4 fu (oI (sm (i + 1) (aW σ n) - sm (i + 1) (bW σ m))) (nI (i + 1)) σ := by
      have e28 : ∀ s0 : Int, fX3_canOrder_28 (fX3_canOrder_4 fu) (nI i) (oI s0) (oI (sm i (aW σ n) - sm i (bW σ m))) σ = fX3_canOrder_4 fu (oI (sm i (aW σ n) - sm i (bW σ m) + (s0 - bW σ m i))) (nI (i + 1)) σ := fun s0 => by
        unfold fX3_canOrder_28 fX3_canOrder_46 ltI bW
        by_cases h : i < m
        · rw [if_neg (not_le_nI hR.2.1.2 h (by omega)), inb_n hi (by omega), grd_t, ix_n (n := i) (by omega), oI_v, (hR.2.2.2.2.1 i h).2, oI_sub, oI_add, nI_1, if_pos h]
        · rw [if_pos (le_nI' hR.2.1.2 (by omega) (by omega)), show (0 : Int32) = oI 0 from rfl, oI_sub, oI_add, nI_1, if_neg h]
      have es : sm (i + 1) (aW σ n) - sm (i + 1) (bW σ m) = sm i (aW σ n) - sm i (bW σ m) + (aW σ n i - bW σ m i) := by
        show sm i (aW σ n) + aW σ n i - (sm i (bW σ m) + bW σ m i) = _
        omega
      rw [es, ← e28]
      show fX3_canOrder_4b _ _ _ _ = _
      unfold fX3_canOrder_4b
      rw [if_neg (by rw [leI, nI_t (by omega), I_5]; omega)]
      by_cases h : i < n
      · have ea : aW σ n i = vI σ 3 i := if_pos h
        rw [if_neg (not_le_nI hR.2.1.1 h (by omega)), inb_n hi (by omega), grd_t, ix_n (n := i) (by omega), ea, oI_v, (hR.2.2.2.1 i h).2]
      · have ea : aW σ n i = 0 := if_neg h
        rw [if_pos (le_nI' hR.2.1.1 (by omega) (by omega)), ea]
        rfl
    rw [hdef]
    exact ih (i + 1) fu (by omega) (by omega)
theorem m_canOrder (hR : REL σ n m) : (CGO σ ∧ fX3_canOrder σ = some (1, σ)) ∨ (¬ CGO σ ∧ fX3_canOrder σ = some (0, σ)) := mco_4x hR 5 0 FU (by omega) (by unfold FU; omega)
end MORDER
