/-! The Model: tries. -/
section MTRIES2
variable {σ : Mem} {n m : Nat}
theorem J_20000 : ((20000 : Int64)).toInt = 20000 := by decide
theorem tr_loop (hR : REL σ n m) : ∀ (d w fu : Nat) (v : Int64), w + d = 25 → d < fu → ((v.toInt = PXB (BD (aW σ n) (bW σ m) (uW σ n m)) w ∧ v.toInt ≤ 420000) ∨ (20000 < v.toInt ∧ v.toInt ≤ 420000 ∧ 20000 < trF σ n m)) → ∃ v' : Int64, fX3_tries_4 fu v (nI w) σ = some (v', σ) ∧ (v'.toInt ≤ 20000 ↔ trF σ n m ≤ 20000) := by
  have h5 := hR.1.1
  intro d
  induction d with
  | zero =>
    intro w fu v h1 h2 hI
    obtain ⟨fu, rfl⟩ : ∃ q, fu = q + 1 := ⟨fu - 1, by omega⟩
    have hw : w = 25 := by omega
    subst hw
    refine ⟨v, ?_, ?_⟩
    · show fX3_tries_4b _ _ _ _ = _
      unfold fX3_tries_4b
      rw [if_pos (by decide)]
    · rcases hI with ⟨h, -⟩ | ⟨h, -, h'⟩
      · rw [h]; exact Iff.rfl
      · omega
  | succ d ih =>
    intro w fu v h1 h2 hI
    obtain ⟨fu, rfl⟩ : ∃ q, fu = q + 1 := ⟨fu - 1, by omega⟩
    have hw : w < 25 := by omega
    have hb := bd_nn hR.1 w hw
    have hp := px_some hR.1 (k := w) (by omega)
    have hp2 := px_some hR.1 (k := w + 1) (by omega)
    have hst : PXB (BD (aW σ n) (bW σ m) (uW σ n m)) (w + 1) = PXB (BD (aW σ n) (bW σ m) (uW σ n m)) w * (BD (aW σ n) (bW σ m) (uW σ n m) w + 1) := rfl
    have h1v : v * (1 : Int64) = v := Int64.mul_one v
    have hcw : ((w / 5 : Nat) : Int) < n ∧ ((w % 5 : Nat) : Int) < m ↔ (0 ≤ ((w / 5 : Nat) : Int) ∧ ((w / 5 : Nat) : Int) < n) ∧ 0 ≤ ((w % 5 : Nat) : Int) ∧ ((w % 5 : Nat) : Int) < m := by omega
    show ∃ v', fX3_tries_4b _ _ _ _ = _ ∧ _
    unfold fX3_tries_4b fX3_tries_43 fX3_tries_44 ltJ
    rw [if_neg (by rw [leI, nI_t (by omega), I_25]; omega), (nI_div5' hw).2, (nI_div5' hw).1, m_isWay hR, bnd_s, nI_t (by omega), nI_t (by omega), h1v, nI_1]
    by_cases hop : w / 5 < n ∧ w % 5 < m
    · rw [if_pos (hcw.mp (by omega)), if_neg n10]
      by_cases hc : v.toInt ≤ 20000
      · rw [if_neg (by rw [lg_cmp_gt, Int64.lt_iff_toInt_lt, J_20000]; omega), m_boundOf hR hw hop.1 hop.2, bnd_s]
        rcases hI with ⟨e, -⟩ | ⟨e, -⟩
        · have hm := mul_bd (x := PXB (BD (aW σ n) (bW σ m) (uW σ n m)) w) (y := BD (aW σ n) (bW σ m) (uW σ n m) w + 1) (X := 20000) (Y := 21) (by omega) (by omega)
          rw [← hst] at hm
          have e1 : ((oI (BD (aW σ n) (bW σ m) (uW σ n m) w) + 1).toInt64).toInt = BD (aW σ n) (bW σ m) (uW σ n m) w + 1 := by
            have : (1 : Int32) = oI 1 := rfl
            rw [i2l_t, this, oI_add, oI_to (by unfold inR; omega)]
          have e2 : (v * (oI (BD (aW σ n) (bW σ m) (uW σ n m) w) + 1).toInt64).toInt = PXB (BD (aW σ n) (bW σ m) (uW σ n m)) (w + 1) := by
            rw [Int64.toInt_mul, e1, e, ← hst, bm64 (by unfold inRJ; omega)]
          exact ih (w + 1) fu _ (by omega) (by omega) (Or.inl ⟨e2, by omega⟩)
        · omega
      · rw [if_pos (by rw [lg_cmp_gt, Int64.lt_iff_toInt_lt, J_20000]; omega)]
        refine ih (w + 1) fu v (by omega) (by omega) (Or.inr ?_)
        rcases hI with ⟨e, e'⟩ | h
        · exact ⟨by omega, e', by omega⟩
        · exact h
    · rw [if_neg (show ¬ ((0 ≤ ((w / 5 : Nat) : Int) ∧ ((w / 5 : Nat) : Int) < n) ∧ 0 ≤ ((w % 5 : Nat) : Int) ∧ ((w % 5 : Nat) : Int) < m) by omega), if_pos z00]
      refine ih (w + 1) fu v (by omega) (by omega) ?_
      rcases hI with ⟨e, e'⟩ | h
      · refine Or.inl ⟨?_, e'⟩
        rw [hst, bd_off hR.1 hw hop, e]
        omega
      · exact Or.inr h
theorem m_tries (hR : REL σ n m) : ∃ v : Int64, fX3_tries σ = some (v, σ) ∧ (v.toInt ≤ 20000 ↔ trF σ n m ≤ 20000) := tr_loop hR 25 0 FU 1 (by omega) (by unfold FU; omega) (Or.inl ⟨by show _ = (1 : Int); decide, by decide⟩)
end MTRIES2
