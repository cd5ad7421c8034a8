/-! By hand, and taking the plan. -/
section MUT3
variable {σ : Mem} {n m : Nat}
theorem inv_35 {σ σ' : Mem} (h : ∀ k, k < 35 → σ'.1 k = σ.1 k ∧ σ'.2 k = σ.2 k) (hI : INV σ n m) : INV σ' n m := by
  have sd : SD σ σ' := ⟨fun k h1 h2 => (h k (by omega)).1, fun i _ => by unfold rI; rw [(h 0 (by omega)).1]⟩
  have e14 : vI σ' 0 14 = vI σ 0 14 := by unfold vI rI; rw [(h 0 (by omega)).1]
  refine ⟨sd_dat sd hI.1, ?_⟩
  rw [e14, sd_aW sd, sd_bW sd, sd_uW sd, sd_unW sd, sd_v0 sd (by omega), sd_v0 sd (by omega)]
  rcases hI.2 with h0 | ⟨h1, hB⟩
  · exact Or.inl h0
  · exact Or.inr ⟨h1, plan_eq (fun k a c => h k (by omega)) hB⟩
theorem st_carry {x y c : Int32} (h : WLD σ) : STP (wrp (tt 0 1) (fX2_carry x y c σ)) (fX3_carry x y c) := by
  obtain ⟨n, m, hR, hH, hI⟩ := h
  have h5 := hR.1.1
  have e1 := s_carry (x := x) (y := y) (c := c) hR.1
  have e2 := mt_carry (x := x) (y := y) (c := c) hR
  by_cases h1 : (0 ≤ x.toInt ∧ x.toInt < n) ∧ 0 ≤ y.toInt ∧ y.toInt < m
  · rw [if_neg (fun z => z h1)] at e1 e2
    by_cases h2 : 0 ≤ c.toInt ∧ c.toInt ≤ 20
    · rw [if_neg (fun z => z h2)] at e1
      obtain ⟨w0, hw0, ew, hwn, hwm⟩ := way_ex h1 ⟨h5.2.1, h5.2.2.2⟩
      rw [ew] at e1
      have ev9 : ∀ w, vI (wI σ 9 w0 c) 9 w = if w = w0 then c.toInt else vI σ 9 w := fun w => by simp [vI_w]
      have s8 : SD8 σ (wI σ 9 w0 c) := ⟨fun k a b => (wI_ne σ w0 c (by omega)).1, fun i _ => by rw [rI_w, if_neg (by omega)]⟩
      have Ia : INV (wI σ 9 w0 c) n m := inv_hand hI s8 (vI_wne (by omega)) (fun k a b => wI_ne σ w0 c (by omega)) (fun w hw => by
        rw [ev9]
        by_cases e : w = w0
        · rw [if_pos e]; exact h2
        · rw [if_neg e]; have := hR.1.2.2.2.1 w hw; omega) (fun i j hi hj hij => by
        rw [ev9, if_neg (fun e => hij (by omega))]
        exact (hR.1.2.2.2.2.1 i j hi hj hij).2.2)
      have I1 := inv_50 (i := 0) (v := (rI σ 9 w0).toInt64) Ia
      have R1 : REL (wJ (wI σ 9 w0 c) 50 0 (rI σ 9 w0).toInt64) n m := rel_of (fun k a b => (wI_ne σ w0 c (by omega)).1) (fun i _ => by show rI (wI σ 9 w0 c) 0 i = _; rw [rI_w, if_neg (by omega)]) I1.1 hR
      have e3 := mt_carry (x := x) (y := y) (c := c) R1
      rw [if_neg (fun z => z h1), if_neg (fun z => z h2), ew] at e3
      have R2 := w0_rel (x := 0) R1
      have I2 := smm_inv (w_smm0 (v := 0)) I1
      have hlow : ∀ k, k < 42 → (wI (wI (wJ (wI σ 9 w0 c) 50 0 (rI σ 9 w0).toInt64) 35 0 0) 42 w0 c).1 k = (wI (wJ (wI σ 9 w0 c) 50 0 (rI σ 9 w0).toInt64) 35 0 0).1 k := fun k hk => (wI_ne _ w0 c (by omega)).1
      have I3 : INV (wI (wI (wJ (wI σ 9 w0 c) 50 0 (rI σ 9 w0).toInt64) 35 0 0) 42 w0 c) n m := inv_35 (fun k hk => wI_ne _ w0 c (by omega)) I2
      have R3 : REL (wI (wI (wJ (wI σ 9 w0 c) 50 0 (rI σ 9 w0).toInt64) 35 0 0) 42 w0 c) n m := rel_of (fun k a b => hlow k (by omega)) (fun i _ => by rw [rI_w, if_neg (by omega)]) I3.1 R2
      refine stp_mut e1 e3 ?_ (by simp [rI_w]) rfl ⟨n, m, R3, fun w hw => ?_, I3⟩
      · rw [eqI]
        show vI (wJ _ _ _ _) 42 w0 = vI σ 9 w0
        simp [vI_J, vI_w]; exact hH w0 hw0
      · simp [vI_J, vI_w]
        by_cases e : w = w0
        · simp [e]
        · simp [e]; exact hH w hw
    · rw [if_pos h2] at e1 e2
      exact stp_no hR hH hI (e := 1) (k := 2) rfl n20 e1 e2
  · rw [if_pos h1] at e1 e2
    exact stp_no hR hH hI (e := 0) (k := 1) rfl n10 e1 e2
theorem st_take (h : WLD σ) : STQ (fX2_take σ) fX3_take := by
  obtain ⟨n, m, hR, hH, hI⟩ := h
  obtain ⟨σ', e1, s8, h35, h9, I1⟩ := v_take hI
  have R1 : REL σ' n m := rel_of (fun k a b => by
    rcases b with b | b
    · exact s8.1 k a b
    · exact (h35 k (by omega)).1) s8.2 I1.1 hR
  obtain ⟨a1, a2, a3, a4⟩ := sd8_all s8 n m
  have elf : lf σ' n m = lf σ n m := by
    unfold lf
    rw [a1, a2, a3, a4, sd8_v0 s8 (by omega), sd8_v0 s8 (by omega)]
  obtain ⟨σ2, σ1, e2, s1, q1, q2, q3, q4⟩ := mt_take R1 I1
  rw [elf] at e2 q3
  have es : sm 25 (fun k => if vI σ' 42 k = lf σ n m k then (0 : Int) else 1) = sm 25 (fun k => if vI σ 9 k = lf σ n m k then 0 else 1) := sm_congr (fun k hk => by
    have : vI σ' 42 k = vI σ 9 k := by
      rw [← hH k hk]
      unfold vI rI
      rw [(h35 42 (by omega)).1]
    rw [this])
  rw [es] at e2
  have Is := smm_inv s1 I1
  have Rs := smm_rel s1 R1
  have I2 : INV σ2 n m := inv_35 (fun k hk => ⟨q1 k (by omega), by rw [q2]⟩) Is
  have R2 : REL σ2 n m := rel_of (fun k a b => q1 k (by omega)) (fun i _ => by unfold rI; rw [q1 0 (by omega)]) I2.1 Rs
  refine ⟨_, σ', σ2, e1, e2, n, m, R2, fun w hw => ?_, I2⟩
  have e9 : vI σ2 9 w = vI σ1 9 w := by unfold vI rI; rw [q1 9 (by omega)]
  rw [q3 w hw, e9, smm_vI s1 (by omega) (by omega), h9 w hw]
end MUT3
