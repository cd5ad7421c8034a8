/-! The Model: middle. -/
section MMID
variable {σ : Mem} {n m : Nat}
theorem mm_40 (hR : REL σ n m) (r28 : Int32 → Int32 → Int32 → Mem → Option (Int32 × Mem)) {p : Nat} (hp : p ≤ 100) (v1 v2 : Int32) : ∀ (d i fu : Nat), i + d = n → d < fu → fX3_middle_40 r28 fu v1 v2 (nI p) (oI (sm i (fun i => vI σ 3 i * apt (vI σ 0 10) (vI σ 0 11) (vI σ 2 i) p))) (nI i) σ = if v2 ≤ oI (alF σ n p) then r28 v1 (oI (min v2.toInt (alF σ n p))) (nI (p + 1)) σ else r28 (nI p) (oI (min v2.toInt (alF σ n p))) (nI (p + 1)) σ := by
  have h5 := hR.1.1
  intro d
  induction d with
  | zero =>
    intro i fu h1 h2
    obtain ⟨fu, rfl⟩ : ∃ q, fu = q + 1 := ⟨fu - 1, by omega⟩
    have hi : i = n := by omega
    subst hi
    have hb := alF_bd hR.1 (p := (p : Int)) (by omega)
    show fX3_middle_40b _ _ _ _ _ _ _ _ = _
    unfold fX3_middle_40b fX3_middle_91
    rw [if_pos (le_nI hR.2.1.1 (by omega)), m_lesser, bnd_s, nI_1]
    have e : sm i (fun k => vI σ 3 k * apt (vI σ 0 10) (vI σ 0 11) (vI σ 2 k) p) = alF σ i p := rfl
    rw [e, oI_to (by unfold inR; omega)]
    rfl
  | succ d ih =>
    intro i fu h1 h2
    obtain ⟨fu, rfl⟩ : ∃ q, fu = q + 1 := ⟨fu - 1, by omega⟩
    have hi : i < n := by omega
    have h3 := hR.1.2.1 i hi
    obtain ⟨a1, a2⟩ := hR.2.2.2.1 i hi
    have a1' : (rI σ 36 i).toInt = vI σ 2 i := a1
    rw [← ih (i + 1) fu (by omega) (by omega)]
    show fX3_middle_40b _ _ _ _ _ _ _ _ = _
    unfold fX3_middle_40b ltI
    have ep : (nI p).toInt = (p : Int) := nI_t (by omega)
    rw [if_neg (not_le_nI hR.2.1.1 hi (by omega)), inb_n (show i < 5 by omega) (by omega), grd_t, grd_t, ix_n (n := i) (by omega), m_apart hR (by omega) (by omega), bnd_s, a1', ep, oI_v, a2, oI_mul, oI_add, nI_1]
    rfl
theorem mm_28 (hR : REL σ n m) : ∀ (d p fu k : Nat) (L : Int), p + d = 101 → d < fu → k ≤ 100 → ((p = 0 ∧ k = 0 ∧ L = 268435456) ∨ (k < p ∧ L = alF σ n k ∧ (∀ q, q < p → alF σ n k ≤ alF σ n q) ∧ ∀ q : Nat, q < k → alF σ n k < alF σ n q)) → ∃ z : Int, fX3_middle_28 fu (nI k) (oI L) (nI p) σ = some (oI z, σ) ∧ MID (alF σ n) z := by
  intro d
  induction d with
  | zero =>
    intro p fu k L h1 h2 hk hI
    obtain ⟨fu, rfl⟩ : ∃ q, fu = q + 1 := ⟨fu - 1, by omega⟩
    have hp : p = 101 := by omega
    subst hp
    rcases hI with ⟨h, -⟩ | ⟨g1, g2, hA, hB⟩
    · omega
    refine ⟨k, ?_, by omega, by omega, fun q h1 h2 => ?_, fun q h1 h2 => ?_⟩
    · show fX3_middle_28b _ _ _ _ _ = _
      unfold fX3_middle_28b
      rw [if_pos (by decide)]
      rfl
    · have := hA q.toNat (by omega)
      rw [Int.toNat_of_nonneg h1] at this
      exact this
    · have := hB q.toNat (by omega)
      rw [Int.toNat_of_nonneg h1] at this
      exact this
  | succ d ih =>
    intro p fu k L h1 h2 hk hI
    obtain ⟨fu, rfl⟩ : ∃ q, fu = q + 1 := ⟨fu - 1, by omega⟩
    have b1 := alF_bd hR.1 (p := (p : Int)) (by omega)
    have bL : 0 ≤ L ∧ L ≤ 268435456 := by
      rcases hI with ⟨-, -, h⟩ | ⟨-, h, -⟩
      · omega
      · have := alF_bd hR.1 (p := (k : Int)) (by omega)
        omega
    have hs : fX3_middle_28 (fu + 1) (nI k) (oI L) (nI p) σ = if oI L ≤ oI (alF σ n p) then fX3_middle_28 fu (nI k) (oI (min L (alF σ n p))) (nI (p + 1)) σ else fX3_middle_28 fu (nI p) (oI (min L (alF σ n p))) (nI (p + 1)) σ := by
      have key := mm_40 hR (fX3_middle_28 fu) (show p ≤ 100 by omega) (nI k) (oI L) n 0 FU (by omega) (by have := hR.1.1; unfold FU; omega)
      rw [oI_to (show inR L by unfold inR; omega)] at key
      rw [← key]
      show fX3_middle_28b _ _ _ _ _ = _
      unfold fX3_middle_28b
      rw [if_neg (by rw [ltI', nI_t (by omega), I_100]; omega)]
      rfl
    have ele : oI L ≤ oI (alF σ n p) ↔ L ≤ alF σ n p := by
      rw [leI, oI_to (by unfold inR; omega), oI_to (by unfold inR; omega)]
    rw [hs]
    by_cases hle : L ≤ alF σ n p
    · rw [if_pos (ele.mpr hle), Int.min_eq_left hle]
      rcases hI with ⟨g1, g2, g3⟩ | ⟨g1, g2, hA, hB⟩
      · omega
      · exact ih (p + 1) fu k L (by omega) (by omega) hk (Or.inr ⟨by omega, g2, fun q hq => by
          by_cases e : q = p
          · subst e; omega
          · exact hA q (by omega), hB⟩)
    · rw [if_neg (fun q => hle (ele.mp q)), Int.min_eq_right (by omega)]
      refine ih (p + 1) fu p (alF σ n p) (by omega) (by omega) (by omega) (Or.inr ⟨by omega, rfl, fun q hq => ?_, fun q hq => ?_⟩)
      · rcases hI with ⟨g1, g2, g3⟩ | ⟨g1, g2, hA, hB⟩
        · rw [show q = p by omega]; exact Int.le_refl _
        · by_cases e : q = p
          · rw [e]; exact Int.le_refl _
          · have := hA q (by omega); omega
      · rcases hI with ⟨g1, g2, g3⟩ | ⟨g1, g2, hA, hB⟩
        · omega
        · have := hA q (by omega); omega
theorem sd_alF {σ' : Mem} (h : SD σ σ') : alF σ' n = alF σ n := by
  funext p
  unfold alF
  rw [sd_v0 h (by omega), sd_v0 h (by omega)]
  exact sm_congr (fun i _ => by rw [sd_vI h (by omega) (by omega), sd_vI h (by omega) (by omega)])
theorem mt_middle (hR : REL σ n m) : (n = 0 ∧ fX3_middle σ = some (0, wI σ 35 0 1)) ∨ (n ≠ 0 ∧ ∃ z : Int, fX3_middle σ = some (oI z, wI σ 35 0 0) ∧ MID (alF σ n) z) := by
  unfold fX3_middle fX3_middle_e fX3_middle_13
  rw [m_goesWell, m_goesWell, bnd_s, bnd_s]
  have e1 : (rI σ 35 1).toInt = n := hR.2.1.1
  by_cases h : n = 0
  · rw [if_pos (show rI σ 35 1 ≤ 0 by rw [leI, e1, I_0]; omega), if_neg n10, if_pos z00]
    exact Or.inl ⟨h, rfl⟩
  · rw [if_neg (show ¬ rI σ 35 1 ≤ 0 by rw [leI, e1, I_0]; omega), if_pos z00, if_neg n10]
    obtain ⟨z, e, hz⟩ := mm_28 (w0_rel (x := 0) hR) 101 0 FU 0 268435456 (by omega) (by unfold FU; omega) (by omega) (Or.inl ⟨rfl, rfl, rfl⟩)
    rw [sd_alF (smm_sd w_smm0)] at hz
    exact Or.inr ⟨h, z, e, hz⟩
end MMID
