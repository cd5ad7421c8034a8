/-! The carrier's plan: paths found, the nearest hole, what a path bears, carrying along it. -/
theorem rowS_upd {g : Nat → Int} {i h i' : Nat} {x : Int} (hh : h < 5) (hi' : i' < 5) (hi : i < 5) : rowS (fun w => if w = 5 * i + h then g w + x else g w) i' = rowS g i' + (if i' = i then x else 0) := by
  unfold rowS
  by_cases e : i' = i
  · subst e
    rw [if_pos rfl]
    have : sm 5 (fun j => if 5 * i' + j = 5 * i' + h then g (5 * i' + j) + x else g (5 * i' + j)) = sm 5 (fun j => g (5 * i' + j) + (if j = h then x else 0)) := sm_congr (fun j _ => by
      by_cases e : j = h
      · rw [if_pos (by omega), if_pos e]
      · rw [if_neg (by omega), if_neg e]; omega)
    rw [this, sm_add, sm_single _ _ _ hh]
  · rw [if_neg e, Int.add_zero]
    exact sm_congr (fun j hj => if_neg (by omega))
theorem colS_upd {g : Nat → Int} {i h j' : Nat} {x : Int} (hh : h < 5) (hi : i < 5) (hj' : j' < 5) : colS (fun w => if w = 5 * i + h then g w + x else g w) j' = colS g j' + (if j' = h then x else 0) := by
  unfold colS
  by_cases e : j' = h
  · subst e
    rw [if_pos rfl]
    have : sm 5 (fun k => if 5 * k + j' = 5 * i + j' then g (5 * k + j') + x else g (5 * k + j')) = sm 5 (fun k => g (5 * k + j') + (if k = i then x else 0)) := sm_congr (fun k _ => by
      by_cases e : k = i
      · rw [if_pos (by omega), if_pos e]
      · rw [if_neg (by omega), if_neg e]; omega)
    rw [this, sm_add, sm_single _ _ _ hi]
  · rw [if_neg e, Int.add_zero]
    exact sm_congr (fun k hk => if_neg (by omega))
theorem tot_upd {κ g : Nat → Int} {i h : Nat} {x : Int} (hi : i < 5) (hh : h < 5) : tot (fun w => κ w * (if w = 5 * i + h then g w + x else g w)) = tot (fun w => κ w * g w) + κ (5 * i + h) * x := by
  unfold tot
  have : sm 5 (fun k => sm 5 (fun j => κ (5 * k + j) * (if 5 * k + j = 5 * i + h then g (5 * k + j) + x else g (5 * k + j)))) = sm 5 (fun k => sm 5 (fun j => κ (5 * k + j) * g (5 * k + j)) + (if k = i then κ (5 * i + h) * x else 0)) := sm_congr (fun k hk => by
    by_cases e : k = i
    · subst e
      rw [if_pos rfl]
      have : sm 5 (fun j => κ (5 * k + j) * (if 5 * k + j = 5 * k + h then g (5 * k + j) + x else g (5 * k + j))) = sm 5 (fun j => κ (5 * k + j) * g (5 * k + j) + (if j = h then κ (5 * k + h) * x else 0)) := sm_congr (fun j _ => by
        by_cases e : j = h
        · subst e; rw [if_pos rfl, if_pos rfl, Int.mul_add]
        · rw [if_neg (by omega), if_neg e]; omega)
      rw [this, sm_add, sm_single _ _ _ hh]
    · rw [if_neg e, Int.add_zero]
      exact sm_congr (fun j hj => by rw [if_neg (by omega)]))
  rw [this, sm_add, sm_single _ _ _ hi]
/-! one move -/
def mvM (b : Nat) (σ : Mem) (h j : Nat) (x : Int32) : Mem :=
  wI (wI (wI (wI (wI σ (b + 3) (5 * h + j) (rI σ (b + 3) (5 * h + j) + x)) (b + 4) (5 * h + j) (rI σ (b + 4) (5 * h + j) - x)) (b + 1) h (rI σ (b + 1) h - x)) (b + 2) j (rI σ (b + 2) j - x)) b 4 (rI σ b 4 + x * (rI σ (b + 5) (5 * h + j) - rI σ b 13 - rI σ b 14))
theorem s_move {b h j : Nat} (hh : h < 5) (hj : j < 5) (x : Int32) (σ : Mem) : fX0_move b (nI h) (nI j) x σ = some (0, mvM b σ h j x) := by
  unfold fX0_move fX0_move_e
  rw [s_wayOf, bnd_s, inb_n (by omega) (by omega), inb_n hh (by omega), inb_n hj (by omega)]
  simp only [grd_t, ltM, ix_n (show 5 * h + j < 2147483648 by omega), ix_n (show h < 2147483648 by omega), ix_n (show j < 2147483648 by omega)]
  unfold mvM
  simp [rI_w]
/-- only what a move writes differs -/
def SMV (b : Nat) (σ σ' : Mem) : Prop := (∀ k, k ≠ b → k ≠ b + 1 → k ≠ b + 2 → k ≠ b + 3 → k ≠ b + 4 → σ'.1 k = σ.1 k) ∧ (∀ i, i ≠ 4 → rI σ' b i = rI σ b i) ∧ σ'.2 = σ.2
theorem SMV.rf {b : Nat} {σ : Mem} : SMV b σ σ := ⟨fun _ _ _ _ _ _ => rfl, fun _ _ => rfl, rfl⟩
theorem SMV.tr {b : Nat} {σ σ1 σ2 : Mem} (h1 : SMV b σ σ1) (h2 : SMV b σ1 σ2) : SMV b σ σ2 := ⟨fun k a1 a2 a3 a4 a5 => (h2.1 k a1 a2 a3 a4 a5).trans (h1.1 k a1 a2 a3 a4 a5), fun i hi => (h2.2.1 i hi).trans (h1.2.1 i hi), h2.2.2.trans h1.2.2⟩
theorem smv_rI {b : Nat} {σ σ' : Mem} (h : SMV b σ σ') {k : Nat} (hk : b + 4 < k) (i : Nat) : rI σ' k i = rI σ k i := by
  unfold rI; rw [h.1 k (by omega) (by omega) (by omega) (by omega) (by omega)]
theorem smv_vI {b : Nat} {σ σ' : Mem} (h : SMV b σ σ') {k : Nat} (hk : b + 4 < k) (i : Nat) : vI σ' k i = vI σ k i := by
  unfold vI; rw [smv_rI h hk]
theorem smv_vJ {b : Nat} {σ σ' : Mem} (h : SMV b σ σ') (k i : Nat) : vJ σ' k i = vJ σ k i := by
  unfold vJ rJ; rw [h.2.2]
theorem smv_opn {b : Nat} {σ σ' : Mem} {u : Nat → Int} {N : Nat} {op : Nat → Nat} (hs : SMV b σ σ') (h : OPN b σ u N op) : OPN b σ' u N op := by
  obtain ⟨h1, h2, h3, h4, h5, h6⟩ := h
  refine ⟨h1, h2, ?_, fun k hk => ⟨(h4 k hk).1, by rw [smv_vI hs (by omega)]; exact (h4 k hk).2⟩, h5, h6⟩
  unfold vI at h3 ⊢
  rw [hs.2.1 12 (by omega)]
  exact h3
theorem smv_opx {b : Nat} {σ σ' : Mem} {u : Nat → Int} (hs : SMV b σ σ') (h : OPX b σ u) : OPX b σ' u := by
  obtain ⟨N, op, h⟩ := h
  exact ⟨N, op, smv_opn hs h⟩
theorem smv_par {b : Nat} {σ σ' : Mem} (h : SMV b σ σ') : par b σ' = par b σ := by
  funext v
  unfold par
  rw [smv_vI h (by omega), smv_vI h (by omega)]
theorem mvM_smv {b h j : Nat} {x : Int32} {σ : Mem} : SMV b σ (mvM b σ h j x) := by
  refine ⟨fun k a1 a2 a3 a4 a5 => ?_, fun i hi => ?_, rfl⟩
  · unfold mvM
    rw [(wI_ne _ _ _ a1).1, (wI_ne _ _ _ a3).1, (wI_ne _ _ _ a2).1, (wI_ne _ _ _ a5).1, (wI_ne _ _ _ a4).1]
  · unfold mvM
    simp [rI_w, hi]
theorem mvM_3 {b h j : Nat} {x : Int32} {σ : Mem} (w : Nat) (hr : inR (vI σ (b + 3) (5 * h + j) + x.toInt)) : vI (mvM b σ h j x) (b + 3) w = if w = 5 * h + j then vI σ (b + 3) w + x.toInt else vI σ (b + 3) w := by
  unfold mvM
  simp only [vI_w]
  rw [if_neg (by omega), if_neg (by omega), if_neg (by omega), if_neg (by omega)]
  by_cases h : w = 5 * h + j
  · subst h
    rw [if_pos ⟨trivial, rfl⟩, if_pos rfl]
    exact tI_add hr
  · rw [if_neg (by omega), if_neg h]
theorem mvM_4 {b h j : Nat} {x : Int32} {σ : Mem} (w : Nat) (hr : inR (vI σ (b + 4) (5 * h + j) - x.toInt)) : vI (mvM b σ h j x) (b + 4) w = if w = 5 * h + j then vI σ (b + 4) w - x.toInt else vI σ (b + 4) w := by
  unfold mvM
  simp only [vI_w]
  rw [if_neg (by omega), if_neg (by omega), if_neg (by omega)]
  by_cases h : w = 5 * h + j
  · subst h
    rw [if_pos ⟨trivial, rfl⟩, if_pos rfl]
    exact tI_sub hr
  · rw [if_neg (by omega), if_neg (by omega), if_neg h]
theorem mvM_1 {b h j : Nat} {x : Int32} {σ : Mem} (i : Nat) (hr : inR (vI σ (b + 1) h - x.toInt)) : vI (mvM b σ h j x) (b + 1) i = if i = h then vI σ (b + 1) i - x.toInt else vI σ (b + 1) i := by
  unfold mvM
  simp only [vI_w]
  rw [if_neg (by omega), if_neg (by omega)]
  by_cases h : i = h
  · subst h
    rw [if_pos ⟨trivial, rfl⟩, if_pos rfl]
    exact tI_sub hr
  · rw [if_neg (by omega), if_neg (by omega), if_neg (by omega), if_neg h]
theorem mvM_2 {b h j : Nat} {x : Int32} {σ : Mem} (i : Nat) (hr : inR (vI σ (b + 2) j - x.toInt)) : vI (mvM b σ h j x) (b + 2) i = if i = j then vI σ (b + 2) i - x.toInt else vI σ (b + 2) i := by
  unfold mvM
  simp only [vI_w]
  rw [if_neg (by omega)]
  by_cases h : i = j
  · subst h
    rw [if_pos ⟨trivial, rfl⟩, if_pos rfl]
    exact tI_sub hr
  · rw [if_neg (by omega), if_neg (by omega), if_neg (by omega), if_neg (by omega), if_neg h]
theorem mvM_c {b h j : Nat} {x : Int32} {σ : Mem} (h1 : inR (vI σ (b + 5) (5 * h + j) - vI σ b 13)) (h2 : inR (vI σ (b + 5) (5 * h + j) - vI σ b 13 - vI σ b 14)) (h3 : inR (x.toInt * (vI σ (b + 5) (5 * h + j) - vI σ b 13 - vI σ b 14)))
    (h4 : inR (vI σ b 4 + x.toInt * (vI σ (b + 5) (5 * h + j) - vI σ b 13 - vI σ b 14))) : vI (mvM b σ h j x) b 4 = vI σ b 4 + x.toInt * (vI σ (b + 5) (5 * h + j) - vI σ b 13 - vI σ b 14) := by
  unfold mvM
  rw [vI_w, if_pos ⟨rfl, rfl⟩]
  unfold vI at *
  have e1 := tI_sub h1
  have e2 : (rI σ (b + 5) (5 * h + j) - rI σ b 13 - rI σ b 14).toInt = (rI σ (b + 5) (5 * h + j)).toInt - (rI σ b 13).toInt - (rI σ b 14).toInt := by
    rw [tI_sub (by rw [e1]; exact h2), e1]
  have e3 : (x * (rI σ (b + 5) (5 * h + j) - rI σ b 13 - rI σ b 14)).toInt = x.toInt * ((rI σ (b + 5) (5 * h + j)).toInt - (rI σ b 13).toInt - (rI σ b 14).toInt) := by
    rw [tI_mul (by rw [e2]; exact h3), e2]
  rw [tI_add (by rw [e3]; exact h4), e3]
/-! the first labels, and the whole search -/
section FIND
variable {b : Nat} {a u cn f φ : Nat → Int}
theorem fp_loop {σ0 : Mem} (hb : ki b = 3) : ∀ (d n fu : Nat) (σ : Mem), n + d = 5 → d < fu → SMP b σ0 σ → (∀ i, i < n → vJ σ (b + 7) i = (if 0 < vI σ0 (b + 1) i then 0 else FARc) ∧ vI σ (b + 9) i = -1) →
    ∃ σ', fX0_findPaths_2 fu b (nI n) σ = fX0_findPaths_64 FU b 1 (nI 0) σ' ∧ SMP b σ0 σ' ∧ (∀ i, i < 5 → vJ σ' (b + 7) i = (if 0 < vI σ0 (b + 1) i then 0 else FARc) ∧ vI σ' (b + 9) i = -1) ∧ ∀ j, j < 5 → vJ σ' (b + 8) j = FARc ∧ vI σ' (b + 10) j = -1 := by
  intro d
  induction d with
  | zero =>
    intro n fu σ h1 h2 hs hi
    obtain ⟨fu, rfl⟩ : ∃ q, fu = q + 1 := ⟨fu - 1, by omega⟩
    have : n = 5 := by omega
    subst this
    refine ⟨fillI (fillJ σ (b + 8) 1152921504606846976 5) (b + 10) (-1) 5, ?_, ?_, ?_, ?_⟩
    · show fX0_findPaths_2b _ _ _ _ = _
      unfold fX0_findPaths_2b
      rw [if_pos (by decide), s_fillJ (by rw [pl8 hb]; decide), bnd_s, s_fill (by rw [pl10 hb]; decide), bnd_s, pl8 hb, pl10 hb]
      rfl
    · refine hs.tr ⟨fun k h1 h2 => ?_, fun k h1 h2 => ?_⟩
      · unfold fillI; simp [h2]; rfl
      · unfold fillI fillJ; simp [h2]
    · intro i hi5
      obtain ⟨q1, q2⟩ := hi i hi5
      refine ⟨?_, ?_⟩
      · unfold vJ
        rw [rJ_fI, rJ_f, if_neg (by omega)]
        exact q1
      · unfold vI
        rw [rI_f, if_neg (by omega), rI_fJ]
        exact q2
    · intro j hj
      refine ⟨?_, ?_⟩
      · unfold vJ
        rw [rJ_fI, rJ_f, if_pos ⟨rfl, hj⟩]
        exact far_t
      · unfold vI
        rw [rI_f, if_pos ⟨rfl, hj⟩]
        decide
  | succ d ih =>
    intro n fu σ h1 h2 hs hi
    obtain ⟨fu, rfl⟩ : ∃ q, fu = q + 1 := ⟨fu - 1, by omega⟩
    have key : ∀ s0 : Int64, s0.toInt = (if 0 < vI σ0 (b + 1) n then 0 else FARc) → ∃ σ', fX0_findPaths_28 (fX0_findPaths_2 fu) b (nI n) s0 (nI n) σ = fX0_findPaths_64 FU b 1 (nI 0) σ' ∧ SMP b σ0 σ' ∧ (∀ i, i < 5 → vJ σ' (b + 7) i = (if 0 < vI σ0 (b + 1) i then 0 else FARc) ∧ vI σ' (b + 9) i = -1) ∧ ∀ j, j < 5 → vJ σ' (b + 8) j = FARc ∧ vI σ' (b + 10) j = -1 := by
      intro s0 hs0
      unfold fX0_findPaths_28
      rw [inb_n (by omega) (by omega)]
      simp only [grd_t, ltM, ix_n (show n < 2147483648 by omega), nI_1]
      refine ih (n + 1) fu _ (by omega) (by omega) (hs.tr ⟨fun k h1 h2 => (wI_ne _ _ _ h1).1, fun k h1 h2 => ?_⟩) ?_
      · have e : (wI (wJ σ (b + 7) n s0) (b + 9) n (-1)).2 k = (wJ σ (b + 7) n s0).2 k := rfl
        rw [e]
        exact (wJ_ne σ n s0 h1).2
      · intro i hin
        by_cases e : i = n
        · subst e
          refine ⟨?_, ?_⟩
          · rw [vJ_wI]
            exact (vJ_w _ _ _ _ _ _).trans ((if_pos ⟨rfl, rfl⟩).trans hs0)
          · exact (vI_w _ _ _ _ _ _).trans ((if_pos ⟨rfl, rfl⟩).trans (by decide))
        · obtain ⟨q1, q2⟩ := hi i (by omega)
          refine ⟨?_, ?_⟩
          · rw [vJ_wI]
            exact (vJ_w _ _ _ _ _ _).trans ((if_neg (fun q => e q.2)).trans q1)
          · exact (vI_w _ _ _ _ _ _).trans ((if_neg (fun q => e q.2)).trans q2)
    show ∃ σ', fX0_findPaths_2b _ _ _ _ = _ ∧ _
    unfold fX0_findPaths_2b
    have hsv : rI σ (b + 1) n = rI σ0 (b + 1) n := smp_rI hs (by omega) (by omega) n
    rw [if_neg (by rw [leI, nI_t (by omega)]; have : ((5 : Int32)).toInt = 5 := by decide
                   omega), inb_n (by omega) (by omega), grd_t, ix_n (by omega), hsv]
    by_cases hst : rI σ0 (b + 1) n ≤ 0
    · rw [if_pos hst]
      rw [leI] at hst
      have hst : vI σ0 (b + 1) n ≤ 0 := hst
      exact key _ (by rw [if_neg (by omega)]; exact far_t)
    · rw [if_neg hst]
      rw [leI] at hst
      have hst : ¬ vI σ0 (b + 1) n ≤ 0 := hst
      exact key _ (by rw [if_pos (by omega)]; decide)
theorem s_findPaths {σ0 : Mem} (hb : ki b = 3) (hP : Pot (Arc u cn f) (Src a f) φ Cmc) (hcn : ∀ w, w < 25 → -Cmc ≤ cn w ∧ cn w ≤ Cmc) (hφ : ∀ v, v < 10 → -Cmc ≤ φ v) (hm : MEMF b σ0 f u cn) (hO : OPX b σ0 u) (hst : ∀ i, i < 5 → vI σ0 (b + 1) i = a i - rowS f i) :
    ∃ σ', fX0_findPaths b σ0 = some (0, σ') ∧ SMP b σ0 σ' ∧ BFc b a u cn f φ σ' ∧ PTR b σ' ∧ Fix (Arc u cn f) FARc (lab b σ') := by
  obtain ⟨σ1, e1, s1, i1, j1⟩ := fp_loop (σ0 := σ0) hb 5 0 FU σ0 (by omega) (by unfold FU; omega) SMP.rf (fun i h => absurd h (by omega))
  have hl : ∀ v, v < 10 → lab b σ1 v = if v < 5 ∧ 0 < vI σ0 (b + 1) v then 0 else FARc := by
    intro v hv
    by_cases h : v < 5
    · rw [lab_i h, (i1 v h).1]
      by_cases h2 : 0 < vI σ0 (b + 1) v
      · rw [if_pos h2, if_pos ⟨h, h2⟩]
      · rw [if_neg h2, if_neg (fun q => h2 q.2)]
    · rw [if_neg (fun q => h q.1)]
      unfold lab
      rw [if_neg h]
      exact (j1 (v - 5) (by omega)).1
  have hp : ∀ v, v < 10 → par b σ1 v = none := by
    intro v hv
    unfold par ptr
    by_cases h : v < 5
    · rw [if_pos h, (i1 v h).2]; rfl
    · rw [if_neg h, (j1 (v - 5) (by omega)).2]; rfl
  have hF0 : (0 : Int) < FARc := by unfold FARc; omega
  have hB1 : BFc b a u cn f φ σ1 := by
    refine ⟨fun v hv => ?_, fun v x hv h => ?_, fun v hv h _ => ?_, ⟨fun _ => 0, fun v x hv h => ?_⟩, fun v hv hs => ?_⟩
    · rw [hl v hv]
      split
      · rename_i h
        refine ⟨by omega, fun _ => ⟨hP.2.1 v ⟨h.1, by have := hst v h.1; omega⟩, ?_⟩⟩
        exact Int.mul_nonneg hP.2.2 cnt_le.2
      · exact ⟨Int.le_refl _, fun h => absurd h (by omega)⟩
    · rw [hp v hv] at h; cases h
    · rw [hl v hv] at h ⊢
      split at h
      · rename_i h2
        rw [if_pos h2]
        exact ⟨⟨h2.1, by have := hst v h2.1; omega⟩, rfl⟩
      · omega
    · rw [hp v hv] at h; cases h
    · rw [hl v hv, if_pos ⟨hs.1, by have := hst v hs.1; have := hs.2; omega⟩]
      exact Int.le_refl _
  have hp1 : PTR b σ1 := ⟨fun i hi => Or.inl (i1 i hi).2, fun j hj => Or.inl (j1 j hj).2⟩
  obtain ⟨σ', q1, q2, q3, q4, q5⟩ := rounds_loop hP hcn hφ 4 0 FU (fun i => 0 < vI σ0 (b + 1) i) σ1 (by omega) (by unfold FU; omega) (smp_memf s1 hm) (smp_opx s1 hO) hB1 hp1
    ⟨fun i j hi hj hno _ h => by
        rw [hl i (by omega), if_neg (fun q => hno q.2)] at h
        omega,
      fun i j hi hj _ _ h => by
        rw [hl (5 + j) (by omega), if_neg (by omega)] at h
        omega,
      fun i hi hn => ⟨[i], by simp, rfl, fun x hx => by
        rw [List.mem_singleton] at hx
        subst hx
        refine ⟨hi, ?_, Int.le_refl _⟩
        rw [hl x (by omega), if_pos ⟨hi, hn⟩]
        exact hF0⟩⟩
  refine ⟨σ', ?_, s1.tr q2, q3, q4, q5⟩
  show fX0_findPaths_2 FU b (nI 0) σ0 = _
  rw [e1]
  exact q1
end FIND
