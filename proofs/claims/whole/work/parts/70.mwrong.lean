/-! The Model: what is wrong by hand. -/
section MWRONG
variable {σ : Mem} {n m : Nat}
def FLG (v : Int32) (P : Prop) : Prop := (v = 1 ∧ P) ∨ (v = 0 ∧ ¬ P)
def P1h (σ : Mem) (n m k : Nat) : Prop := ∃ i, i < k ∧ i < n ∧ vI σ 3 i < hfr σ m i
def P2h (σ : Mem) (n m k : Nat) : Prop := ∃ j, j < k ∧ j < m ∧ vI σ 6 j < hto σ n j
def P3h (σ : Mem) (k : Nat) : Prop := ∃ w, w < k ∧ vI σ 8 w ≠ -1 ∧ vI σ 8 w < vI σ 9 w
theorem mw_50 (hR : REL σ n m) (hH : HND σ) {k : Nat} (hk : k < 5) (r9 : Int32 → Int32 → Int32 → Int32 → Mem → Option (Int32 × Mem)) (v2 v3 s0 : Int32) (h : FLG v2 (P2h σ n m k)) : ∃ v2', fX3_wrong_50 r9 v2 v3 (nI k) s0 σ = r9 s0 v2' v3 (nI (k + 1)) σ ∧ FLG v2' (P2h σ n m (k + 1)) := by
  have h5 := hR.1.1
  unfold fX3_wrong_50 fX3_wrong_85 fX3_wrong_81 fX3_wrong_86
  rcases h with ⟨rfl, j, a1, a2, a3⟩ | ⟨rfl, hno⟩
  · rw [if_neg n10, nI_1]
    exact ⟨1, rfl, Or.inl ⟨rfl, j, by omega, a2, a3⟩⟩
  · rw [if_pos z00, nI_1]
    by_cases hm : k < m
    · have hb := hto_bd hR.1 hk
      have ele : oI (hto σ n k) ≤ rI σ 39 k ↔ hto σ n k ≤ vI σ 6 k := by
        rw [leI, oI_to (by unfold inR; omega), ← (hR.2.2.2.2.1 k hm).2]
        rfl
      rw [if_neg (not_le_nI hR.2.1.2 hm (by omega)), m_byHand hk, bnd_s, if_neg n10, hand_col hR hH hk, inb_n (show k < 5 by omega) (by omega), grd_t, ix_n (n := k) (by omega)]
      by_cases hle : hto σ n k ≤ vI σ 6 k
      · rw [if_pos (ele.mpr hle)]
        exact ⟨0, rfl, Or.inr ⟨rfl, fun ⟨j, a1, a2, a3⟩ => by
          by_cases e : j = k
          · subst e; omega
          · exact hno ⟨j, by omega, a2, a3⟩⟩⟩
      · rw [if_neg (fun q => hle (ele.mp q))]
        exact ⟨1, rfl, Or.inl ⟨rfl, k, by omega, hm, by omega⟩⟩
    · have hle : rI σ 35 2 ≤ nI k := by
        rw [leI, nI_t (by omega)]
        have : (rI σ 35 2).toInt = m := hR.2.1.2
        omega
      rw [if_pos hle]
      exact ⟨0, rfl, Or.inr ⟨rfl, fun ⟨j, a1, a2, a3⟩ => hno ⟨j, by omega, a2, a3⟩⟩⟩
theorem mw_9 (hR : REL σ n m) (hH : HND σ) (r9 : Int32 → Int32 → Int32 → Int32 → Mem → Option (Int32 × Mem)) {k : Nat} (hk : k < 5) (v1 v2 v3 : Int32) (h : FLG v1 (P1h σ n m k)) : ∃ v1', fX3_wrong_9b r9 v1 v2 v3 (nI k) σ = fX3_wrong_50 r9 v2 v3 (nI k) v1' σ ∧ FLG v1' (P1h σ n m (k + 1)) := by
  have h5 := hR.1.1
  unfold fX3_wrong_9b fX3_wrong_45 fX3_wrong_49
  rw [if_neg (by rw [leI, nI_t (by omega), I_5]; omega)]
  rcases h with ⟨rfl, j, a1, a2, a3⟩ | ⟨rfl, hno⟩
  · rw [if_neg n10]
    exact ⟨1, rfl, Or.inl ⟨rfl, j, by omega, a2, a3⟩⟩
  · rw [if_pos z00]
    by_cases hm : k < n
    · have hb := hfr_bd hR.1 hk
      have ele : oI (hfr σ m k) ≤ rI σ 37 k ↔ hfr σ m k ≤ vI σ 3 k := by
        rw [leI, oI_to (by unfold inR; omega), ← (hR.2.2.2.1 k hm).2]
        rfl
      rw [if_neg (not_le_nI hR.2.1.1 hm (by omega)), m_byHand hk, bnd_s, if_pos z00, hand_row hR hH hk, inb_n (show k < 5 by omega) (by omega), grd_t, ix_n (n := k) (by omega)]
      by_cases hle : hfr σ m k ≤ vI σ 3 k
      · rw [if_pos (ele.mpr hle)]
        exact ⟨0, rfl, Or.inr ⟨rfl, fun ⟨j, a1, a2, a3⟩ => by
          by_cases e : j = k
          · subst e; omega
          · exact hno ⟨j, by omega, a2, a3⟩⟩⟩
      · rw [if_neg (fun q => hle (ele.mp q))]
        exact ⟨1, rfl, Or.inl ⟨rfl, k, by omega, hm, by omega⟩⟩
    · have hle : rI σ 35 1 ≤ nI k := by
        rw [leI, nI_t (by omega)]
        have : (rI σ 35 1).toInt = n := hR.2.1.1
        omega
      rw [if_pos hle]
      exact ⟨0, rfl, Or.inr ⟨rfl, fun ⟨j, a1, a2, a3⟩ => hno ⟨j, by omega, a2, a3⟩⟩⟩
theorem mw_96 (hR : REL σ n m) (hH : HND σ) {v1 v2 : Int32} (g1 : FLG v1 (P1h σ n m 5)) (g2 : FLG v2 (P2h σ n m 5)) : ∀ (d w fu : Nat) (v3 : Int32), w + d = 25 → d < fu → FLG v3 (P3h σ w) → ∃ z : Int, fX3_wrong_96 fu v1 v2 v3 (nI w) σ = some (oI z, σ) ∧ FBH σ n m z := by
  have h5 := hR.1.1
  intro d
  induction d with
  | zero =>
    intro w fu v3 h1 h2 g3
    obtain ⟨fu, rfl⟩ : ∃ q, fu = q + 1 := ⟨fu - 1, by omega⟩
    have hw : w = 25 := by omega
    subst hw
    have hdef : fX3_wrong_96 (fu + 1) v1 v2 v3 (nI 25) σ = if v1 = 0 then (if v2 = 0 then (if v3 = 0 then some (0, σ) else some (3, σ)) else some (2, σ)) else some (1, σ) := by
      show fX3_wrong_96b _ _ _ _ _ _ = _
      unfold fX3_wrong_96b fX3_wrong_172
      rw [if_pos (by decide)]
    rw [hdef]
    rcases g1 with ⟨rfl, i, a1, a2, a3⟩ | ⟨rfl, hn1⟩
    · rw [if_neg n10]
      exact ⟨1, rfl, Or.inl ⟨rfl, i, a2, a3⟩⟩
    · rw [if_pos z00]
      have c1 : ∀ i, i < n → hfr σ m i ≤ vI σ 3 i := fun i hi => by
        refine Classical.byContradiction fun q => hn1 ⟨i, by omega, hi, by omega⟩
      rcases g2 with ⟨rfl, i, a1, a2, a3⟩ | ⟨rfl, hn2⟩
      · rw [if_neg n10]
        exact ⟨2, rfl, Or.inr ⟨c1, Or.inl ⟨rfl, i, a2, a3⟩⟩⟩
      · rw [if_pos z00]
        have c2 : ∀ i, i < m → hto σ n i ≤ vI σ 6 i := fun i hi => by
          refine Classical.byContradiction fun q => hn2 ⟨i, by omega, hi, by omega⟩
        rcases g3 with ⟨rfl, i, a1, a2, a3⟩ | ⟨rfl, hn3⟩
        · rw [if_neg n10]
          exact ⟨3, rfl, Or.inr ⟨c1, Or.inr ⟨c2, Or.inl ⟨rfl, i, a1, a2, a3⟩⟩⟩⟩
        · rw [if_pos z00]
          exact ⟨0, rfl, Or.inr ⟨c1, Or.inr ⟨c2, Or.inr ⟨rfl, fun w hw hc => Classical.byContradiction fun q => hn3 ⟨w, hw, hc, by omega⟩⟩⟩⟩⟩
  | succ d ih =>
    intro w fu v3 h1 h2 g3
    obtain ⟨fu, rfl⟩ : ∃ q, fu = q + 1 := ⟨fu - 1, by omega⟩
    have hw : w < 25 := by omega
    obtain ⟨-, e41, -⟩ := hR.2.2.2.2.2 w hw
    have e42 := hH w hw
    have hdef : fX3_wrong_96 (fu + 1) v1 v2 v3 (nI w) σ = if v3 = 0 then (if rI σ 41 w = -1 then fX3_wrong_96 fu v1 v2 0 (nI (w + 1)) σ else if rI σ 42 w ≤ rI σ 41 w then fX3_wrong_96 fu v1 v2 0 (nI (w + 1)) σ else fX3_wrong_96 fu v1 v2 1 (nI (w + 1)) σ) else fX3_wrong_96 fu v1 v2 1 (nI (w + 1)) σ := by
      show fX3_wrong_96b _ _ _ _ _ _ = _
      unfold fX3_wrong_96b fX3_wrong_139 fX3_wrong_135 fX3_wrong_140
      rw [if_neg (by rw [leI, nI_t (by omega), I_25]; omega), inb_n hw (by omega), grd_t, grd_t, grd_t, ix_n (n := w) (by omega), nI_1]
    rw [hdef]
    rcases g3 with ⟨rfl, i, a1, a2, a3⟩ | ⟨rfl, hn3⟩
    · rw [if_neg n10]
      exact ih (w + 1) fu 1 (by omega) (by omega) (Or.inl ⟨rfl, i, by omega, a2, a3⟩)
    · rw [if_pos z00]
      have hstep : ¬ (vI σ 8 w ≠ -1 ∧ vI σ 8 w < vI σ 9 w) → FLG 0 (P3h σ (w + 1)) := fun h => Or.inr ⟨rfl, fun ⟨j, a1, a2, a3⟩ => by
        by_cases e : j = w
        · subst e; exact h ⟨a2, a3⟩
        · exact hn3 ⟨j, by omega, a2, a3⟩⟩
      by_cases h8 : vI σ 8 w = -1
      · rw [if_pos ((vIe I_m1).mpr (by rw [e41]; exact h8))]
        exact ih (w + 1) fu 0 (by omega) (by omega) (hstep (fun q => q.1 h8))
      · rw [if_neg (fun e => h8 (by rw [← e41]; exact (vIe I_m1).mp e))]
        have ele : rI σ 42 w ≤ rI σ 41 w ↔ vI σ 9 w ≤ vI σ 8 w := by
          rw [leI, ← e41, ← e42]
          rfl
        by_cases hle : vI σ 9 w ≤ vI σ 8 w
        · rw [if_pos (ele.mpr hle)]
          exact ih (w + 1) fu 0 (by omega) (by omega) (hstep (fun q => by omega))
        · rw [if_neg (fun q => hle (ele.mp q))]
          exact ih (w + 1) fu 1 (by omega) (by omega) (Or.inl ⟨rfl, w, by omega, h8, by omega⟩)
theorem mw_loop (hR : REL σ n m) (hH : HND σ) : ∀ (d k fu : Nat) (v1 v2 : Int32), k + d = 5 → d < fu → FLG v1 (P1h σ n m k) → FLG v2 (P2h σ n m k) → ∃ z : Int, fX3_wrong_9 fu v1 v2 0 (nI k) σ = some (oI z, σ) ∧ FBH σ n m z := by
  intro d
  induction d with
  | zero =>
    intro k fu v1 v2 h1 h2 g1 g2
    obtain ⟨fu, rfl⟩ : ∃ q, fu = q + 1 := ⟨fu - 1, by omega⟩
    have hk : k = 5 := by omega
    subst hk
    obtain ⟨z, e, hz⟩ := mw_96 hR hH g1 g2 25 0 FU 0 (by omega) (by unfold FU; omega) (Or.inr ⟨rfl, fun ⟨j, a1, _⟩ => absurd a1 (by omega)⟩)
    refine ⟨z, ?_, hz⟩
    rw [← e]
    show fX3_wrong_9b _ _ _ _ _ _ = _
    unfold fX3_wrong_9b
    rw [if_pos (by decide)]
    rfl
  | succ d ih =>
    intro k fu v1 v2 h1 h2 g1 g2
    obtain ⟨fu, rfl⟩ : ∃ q, fu = q + 1 := ⟨fu - 1, by omega⟩
    obtain ⟨v1', e1, g1'⟩ := mw_9 hR hH (fX3_wrong_9 fu) (show k < 5 by omega) v1 v2 0 g1
    obtain ⟨v2', e2, g2'⟩ := mw_50 hR hH (show k < 5 by omega) (fX3_wrong_9 fu) v2 0 v1' g2
    obtain ⟨z, e3, hz⟩ := ih (k + 1) fu v1' v2' (by omega) (by omega) g1' g2'
    refine ⟨z, ?_, hz⟩
    rw [← e3, ← e2, ← e1]
    rfl
theorem m_wrong (hR : REL σ n m) (hH : HND σ) : ∃ z : Int, fX3_wrong σ = some (oI z, σ) ∧ FBH σ n m z := mw_loop hR hH 5 0 FU 0 0 (by omega) (by unfold FU; omega) (Or.inr ⟨rfl, fun ⟨j, a1, _⟩ => absurd a1 (by omega)⟩) (Or.inr ⟨rfl, fun ⟨j, a1, _⟩ => absurd a1 (by omega)⟩)
end MWRONG
