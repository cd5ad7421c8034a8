/-! The Model: the next row of numbers. -/
/-- the row read as a number, way 0 the least digit -/
def RX (B f : Nat → Int) (k : Nat) : Int := VX (fun w => B (24 - w)) (fun w => f (24 - w)) k
section MODO
variable {σ : Mem} {n m : Nat}
/-- only the plan differs -/
def S46 (σ σ' : Mem) : Prop := (∀ k, k ≠ 46 → σ'.1 k = σ.1 k) ∧ σ'.2 = σ.2
theorem S46.rf : S46 σ σ := ⟨fun _ _ => rfl, rfl⟩
theorem S46.tr {σ1 σ2 : Mem} (h1 : S46 σ σ1) (h2 : S46 σ1 σ2) : S46 σ σ2 := ⟨fun k a => (h2.1 k a).trans (h1.1 k a), h2.2.trans h1.2⟩
theorem s46_smm {σ σ' : Mem} (h : S46 σ σ') : SMM σ σ' := ⟨fun k h1 h2 => ⟨h.1 k (by omega), by rw [h.2]⟩, fun i _ => by unfold rI; rw [h.1 35 (by omega)]⟩
theorem go_loop {σ0 : Mem} (hR0 : REL σ0 n m) {f : Nat → Int} (hf : ∀ w, w < 25 → vI σ0 46 w = f w ∧ 0 ≤ f w ∧ f w ≤ BD (aW σ0 n) (bW σ0 m) (uW σ0 n m) w) : ∀ (d w fu : Nat) (σ : Mem), w + d = 25 → d < fu → S46 σ0 σ → (∀ k, k < 25 → vI σ 46 k = if k < w then 0 else f k) → (∀ k, k < w → f k = BD (aW σ0 n) (bW σ0 m) (uW σ0 n m) k) →
    ∃ (r : Int32) (σ' : Mem), fX3_goOn_2 fu (nI w) σ = some (r, σ') ∧ S46 σ0 σ' ∧ ((r = 1 ∧ ∃ w0, w0 < 25 ∧ (∀ k, k < w0 → f k = BD (aW σ0 n) (bW σ0 m) (uW σ0 n m) k) ∧ f w0 < BD (aW σ0 n) (bW σ0 m) (uW σ0 n m) w0 ∧ ∀ k, k < 25 → vI σ' 46 k = if k < w0 then 0 else if k = w0 then f w0 + 1 else f k) ∨ (r = 0 ∧ ∀ k, k < 25 → f k = BD (aW σ0 n) (bW σ0 m) (uW σ0 n m) k)) := by
  have h5 := hR0.1.1
  intro d
  induction d with
  | zero =>
    intro w fu σ h1 h2 hs hI hB
    obtain ⟨fu, rfl⟩ : ∃ q, fu = q + 1 := ⟨fu - 1, by omega⟩
    have hw : w = 25 := by omega
    subst hw
    refine ⟨0, σ, ?_, hs, Or.inr ⟨rfl, hB⟩⟩
    show fX3_goOn_2b _ _ _ = _
    unfold fX3_goOn_2b
    rw [if_pos (by decide)]
    rfl
  | succ d ih =>
    intro w fu σ h1 h2 hs hI hB
    obtain ⟨fu, rfl⟩ : ∃ q, fu = q + 1 := ⟨fu - 1, by omega⟩
    have hw : w < 25 := by omega
    have hR := smm_rel (s46_smm hs) hR0
    have sd := smm_sd (s46_smm hs)
    have hbw := bd_nn hR0.1 w hw
    obtain ⟨f1, f2, f3⟩ := hf w hw
    have e46 : vI σ 46 w = f w := by rw [hI w hw, if_neg (by omega)]
    have hskip : f w = BD (aW σ0 n) (bW σ0 m) (uW σ0 n m) w → ∃ (r : Int32) (σ' : Mem), fX3_goOn_47 (fX3_goOn_2 fu) (nI w) σ = some (r, σ') ∧ S46 σ0 σ' ∧ ((r = 1 ∧ ∃ w0, w0 < 25 ∧ (∀ k, k < w0 → f k = BD (aW σ0 n) (bW σ0 m) (uW σ0 n m) k) ∧ f w0 < BD (aW σ0 n) (bW σ0 m) (uW σ0 n m) w0 ∧ ∀ k, k < 25 → vI σ' 46 k = if k < w0 then 0 else if k = w0 then f w0 + 1 else f k) ∨ (r = 0 ∧ ∀ k, k < 25 → f k = BD (aW σ0 n) (bW σ0 m) (uW σ0 n m) k)) := by
      intro he
      obtain ⟨r, σ', q1, q2, q3⟩ := ih (w + 1) fu (wI σ 46 w 0) (by omega) (by omega) (hs.tr ⟨fun k hk => (wI_ne σ w 0 hk).1, rfl⟩) (fun k hk => by
        rw [vI_w]
        by_cases e : k = w
        · rw [if_pos ⟨rfl, e⟩, if_pos (by omega)]; exact I_0
        · rw [if_neg (fun q => e q.2), hI k hk]
          by_cases e2 : k < w
          · rw [if_pos e2, if_pos (by omega)]
          · rw [if_neg e2, if_neg (by omega)]) (fun k hk => by
        by_cases e : k = w
        · rw [e]; exact he
        · exact hB k (by omega))
      refine ⟨r, σ', ?_, q2, q3⟩
      rw [← q1]
      unfold fX3_goOn_47 ltM
      rw [inb_n hw (by omega), grd_t, ix_n (n := w) (by omega), nI_1]
    have hcw : ((w / 5 : Nat) : Int) < n ∧ ((w % 5 : Nat) : Int) < m ↔ (0 ≤ ((w / 5 : Nat) : Int) ∧ ((w / 5 : Nat) : Int) < n) ∧ 0 ≤ ((w % 5 : Nat) : Int) ∧ ((w % 5 : Nat) : Int) < m := by omega
    show ∃ (r : Int32) (σ' : Mem), fX3_goOn_2b _ _ _ = _ ∧ _
    unfold fX3_goOn_2b
    rw [if_neg (by rw [leI, nI_t (by omega), I_25]; omega), (nI_div5' hw).2, (nI_div5' hw).1, m_isWay hR, bnd_s, nI_t (by omega), nI_t (by omega)]
    by_cases hop : w / 5 < n ∧ w % 5 < m
    · rw [if_pos (hcw.mp (by omega)), if_neg n10, m_boundOf hR hw hop.1 hop.2, bnd_s, sd_aW sd, sd_bW sd, sd_uW sd, inb_n hw (by omega), grd_t, grd_t, ix_n (n := w) (by omega)]
      have ele : oI (BD (aW σ0 n) (bW σ0 m) (uW σ0 n m) w) ≤ rI σ 46 w ↔ BD (aW σ0 n) (bW σ0 m) (uW σ0 n m) w ≤ f w := by
        rw [leI, oI_to (by unfold inR; omega), ← e46]
        rfl
      by_cases hle : BD (aW σ0 n) (bW σ0 m) (uW σ0 n m) w ≤ f w
      · rw [if_pos (ele.mpr hle)]
        exact hskip (by omega)
      · rw [if_neg (fun q => hle (ele.mp q)), grd_t]
        refine ⟨1, wI σ 46 w (oI (f w + 1)), ?_, hs.tr ⟨fun k hk => (wI_ne σ w _ hk).1, rfl⟩, Or.inl ⟨rfl, w, hw, hB, by omega, fun k hk => ?_⟩⟩
        · have h11 : (1 : Int32) = oI 1 := rfl
          have e : rI σ 46 w + 1 = oI (f w + 1) := by rw [oI_v, e46, h11, oI_add]
          rw [e]
          rfl
        · rw [vI_w]
          by_cases e : k = w
          · rw [if_pos ⟨rfl, e⟩, if_neg (by omega), if_pos e, oI_to (by unfold inR; omega)]
          · rw [if_neg (fun q => e q.2), hI k hk]
            by_cases e2 : k < w
            · rw [if_pos e2, if_pos e2]
            · rw [if_neg e2, if_neg e2, if_neg e]
    · rw [if_neg (show ¬ ((0 ≤ ((w / 5 : Nat) : Int) ∧ ((w / 5 : Nat) : Int) < n) ∧ 0 ≤ ((w % 5 : Nat) : Int) ∧ ((w % 5 : Nat) : Int) < m) by omega), if_pos z00]
      exact hskip (by rw [bd_off hR0.1 hw hop] at f3 ⊢; omega)
end MODO
