/-! The carrier's plan at the cells b .. b + 10: cheapest paths. -/
def lab (b : Nat) (σ : Mem) (v : Nat) : Int := if v < 5 then vJ σ (b + 7) v else vJ σ (b + 8) (v - 5)
def ptr (z : Int) (o : Nat) : Option Nat := if z = -1 then none else some (o + z.toNat)
def par (b : Nat) (σ : Mem) (v : Nat) : Option Nat := if v < 5 then ptr (vI σ (b + 9) v) 5 else ptr (vI σ (b + 10) (v - 5)) 0
theorem lab_i {b : Nat} {σ : Mem} {i : Nat} (h : i < 5) : lab b σ i = vJ σ (b + 7) i := if_pos h
theorem lab_j {b : Nat} {σ : Mem} {j : Nat} : lab b σ (5 + j) = vJ σ (b + 8) j := by
  unfold lab
  rw [if_neg (by omega), show 5 + j - 5 = j by omega]
theorem par_i {b : Nat} {σ : Mem} {i : Nat} (h : i < 5) : par b σ i = ptr (vI σ (b + 9) i) 5 := if_pos h
theorem par_j {b : Nat} {σ : Mem} {j : Nat} : par b σ (5 + j) = ptr (vI σ (b + 10) j) 0 := by
  unfold par
  rw [if_neg (by omega), show 5 + j - 5 = j by omega]
def FARc : Int := 1152921504606846976
def Cmc : Int := 335544320000
/-- the pointers are places, or -1 -/
def PTR (b : Nat) (σ : Mem) : Prop := (∀ i, i < 5 → vI σ (b + 9) i = -1 ∨ (0 ≤ vI σ (b + 9) i ∧ vI σ (b + 9) i < 5)) ∧ ∀ j, j < 5 → vI σ (b + 10) j = -1 ∨ (0 ≤ vI σ (b + 10) j ∧ vI σ (b + 10) j < 5)
/-- the memory holds the plan f, its bounds u, its ranks cn -/
def MEMF (b : Nat) (σ : Mem) (f u cn : Nat → Int) : Prop := ∀ w, w < 25 → vI σ (b + 3) w = f w ∧ vI σ (b + 4) w = u w - f w ∧ 0 ≤ f w ∧ f w ≤ u w ∧ (0 < u w → vJ σ (b + 6) w = cn w)
/-- only the paths' cells differ -/
def SMP (b : Nat) (σ σ' : Mem) : Prop := (∀ k, k ≠ b + 9 → k ≠ b + 10 → σ'.1 k = σ.1 k) ∧ ∀ k, k ≠ b + 7 → k ≠ b + 8 → σ'.2 k = σ.2 k
theorem SMP.rf {b : Nat} {σ : Mem} : SMP b σ σ := ⟨fun _ _ _ => rfl, fun _ _ _ => rfl⟩
theorem SMP.tr {b : Nat} {σ σ1 σ2 : Mem} (h1 : SMP b σ σ1) (h2 : SMP b σ1 σ2) : SMP b σ σ2 := ⟨fun k a c => (h2.1 k a c).trans (h1.1 k a c), fun k a c => (h2.2 k a c).trans (h1.2 k a c)⟩
theorem smp_vI {b : Nat} {σ σ' : Mem} (h : SMP b σ σ') {k : Nat} (h1 : k ≠ b + 9) (h2 : k ≠ b + 10) (i : Nat) : vI σ' k i = vI σ k i := by
  unfold vI rI; rw [h.1 k h1 h2]
theorem smp_rI {b : Nat} {σ σ' : Mem} (h : SMP b σ σ') {k : Nat} (h1 : k ≠ b + 9) (h2 : k ≠ b + 10) (i : Nat) : rI σ' k i = rI σ k i := by
  unfold rI; rw [h.1 k h1 h2]
theorem smp_vJ {b : Nat} {σ σ' : Mem} (h : SMP b σ σ') {k : Nat} (h1 : k ≠ b + 7) (h2 : k ≠ b + 8) (i : Nat) : vJ σ' k i = vJ σ k i := by
  unfold vJ rJ; rw [h.2 k h1 h2]
theorem smp_memf {b : Nat} {σ σ' : Mem} {f u cn : Nat → Int} (h : SMP b σ σ') (hm : MEMF b σ f u cn) : MEMF b σ' f u cn := by
  intro w hw
  obtain ⟨h1, h2, h3, h4, h5⟩ := hm w hw
  exact ⟨by rw [smp_vI h (by omega) (by omega)]; exact h1, by rw [smp_vI h (by omega) (by omega)]; exact h2, h3, h4, fun h9 => by rw [smp_vJ h (by omega) (by omega)]; exact h5 h9⟩
/-- the opened ways: a list that grows; all ways with room at first are in it -/
def OPN (b : Nat) (σ : Mem) (u : Nat → Int) (N : Nat) (op : Nat → Nat) : Prop :=
  b ≤ 24 ∧ N ≤ 25 ∧ vI σ b 12 = N ∧ (∀ k, k < N → op k < 25 ∧ vI σ (34 + b / 12) k = op k) ∧ (∀ i j, i < j → j < N → op i < op j) ∧ ∀ w, w < 25 → 0 < u w → ∃ k, k < N ∧ op k = w
def OPX (b : Nat) (σ : Mem) (u : Nat → Int) : Prop := ∃ N op, OPN b σ u N op
/-- the k-th opened way, 25 behind the last -/
def wat (N : Nat) (op : Nat → Nat) (k : Nat) : Nat := if k < N then op k else 25
theorem wat_t {N : Nat} {op : Nat → Nat} {k : Nat} (h : k < N) : wat N op k = op k := if_pos h
theorem wat_e {N : Nat} {op : Nat → Nat} : wat N op N = 25 := if_neg (by omega)
/-- a way that is passed over has no room at first -/
theorem opn_gap {b : Nat} {σ : Mem} {u : Nat → Int} {N : Nat} {op : Nat → Nat} (h : OPN b σ u N op) {k w : Nat} (h1 : ∀ i, i < k → i < N → op i < w) (h2 : w < wat N op k) (hw : w < 25) : ¬ 0 < u w := by
  intro hu
  obtain ⟨i, hi, e⟩ := h.2.2.2.2.2 w hw hu
  by_cases c : i < k
  · have := h1 i c hi; omega
  · have hk : k < N := by omega
    rw [wat_t hk] at h2
    by_cases e2 : i = k
    · subst e2; omega
    · have := h.2.2.2.2.1 k i (by omega) hi; omega
theorem opn_gap1 {b : Nat} {σ : Mem} {u : Nat → Int} {N : Nat} {op : Nat → Nat} (h : OPN b σ u N op) {k w : Nat} (hk : k < N) (h1 : op k < w) (h2 : w < wat N op (k + 1)) (hw : w < 25) : ¬ 0 < u w := by
  refine opn_gap h (k := k + 1) (fun i hi hiN => ?_) h2 hw
  by_cases e : i = k
  · subst e; exact h1
  · have := h.2.2.2.2.1 i k (by omega) hk; omega
theorem smp_opn {b : Nat} {σ σ' : Mem} {u : Nat → Int} {N : Nat} {op : Nat → Nat} (hs : SMP b σ σ') (h : OPN b σ u N op) : OPN b σ' u N op := by
  obtain ⟨h1, h2, h3, h4, h5, h6⟩ := h
  refine ⟨h1, h2, by rw [smp_vI hs (by omega) (by omega)]; exact h3, fun k hk => ⟨(h4 k hk).1, by rw [smp_vI hs (by omega) (by omega)]; exact (h4 k hk).2⟩, h5, h6⟩
theorem smp_opx {b : Nat} {σ σ' : Mem} {u : Nat → Int} (hs : SMP b σ σ') (h : OPX b σ u) : OPX b σ' u := by
  obtain ⟨N, op, h⟩ := h
  exact ⟨N, op, smp_opn hs h⟩
/-- a hole's path is bettered -/
def setJ (b : Nat) (σ : Mem) (j : Nat) (x : Int64) (i : Nat) : Mem := wI (wJ σ (b + 8) j x) (b + 10) j (nI i)
theorem setJ_smp {b : Nat} {σ : Mem} {j : Nat} {x : Int64} {i : Nat} : SMP b σ (setJ b σ j x i) := by
  constructor
  · intro k h1 h2
    exact (wI_ne (wJ σ (b + 8) j x) j (nI i) h2).1
  · intro k h1 h2
    have e : (setJ b σ j x i).2 k = (wJ σ (b + 8) j x).2 k := rfl
    rw [e]
    exact (wJ_ne σ j x h2).2
theorem setJ_lab {b : Nat} {σ : Mem} {j : Nat} {x : Int64} {i : Nat} : lab b (setJ b σ j x i) = fun v => if v = 5 + j then x.toInt else lab b σ v := by
  funext v
  unfold lab setJ
  simp only [vJ_wI, vJ_w]
  by_cases h : v < 5
  · rw [if_pos h, if_neg (by omega), if_neg (by omega), if_pos h]
  · rw [if_neg h, if_neg h]
    by_cases h2 : v = 5 + j
    · rw [if_pos ⟨trivial, by omega⟩, if_pos h2]
    · rw [if_neg (by omega), if_neg h2]
theorem setJ_par {b : Nat} {σ : Mem} {j : Nat} {x : Int64} {i : Nat} (hi : i < 5) : par b (setJ b σ j x i) = fun v => if v = 5 + j then some i else par b σ v := by
  funext v
  unfold par setJ
  simp only [vI_w, vI_wJ]
  by_cases h : v < 5
  · rw [if_pos h, if_neg (by omega), if_neg (by omega), if_pos h]
  · rw [if_neg h, if_neg h]
    by_cases h2 : v = 5 + j
    · rw [if_pos ⟨trivial, by omega⟩, if_pos h2, nI_t (by omega)]
      unfold ptr
      rw [if_neg (by omega)]
      simp
    · rw [if_neg (by omega), if_neg h2]
theorem setJ_ptr {b : Nat} {σ : Mem} {j : Nat} {x : Int64} {i : Nat} (hi : i < 5) (h : PTR b σ) : PTR b (setJ b σ j x i) := by
  refine ⟨fun k hk => ?_, fun k hk => ?_⟩
  · unfold setJ
    rw [vI_w, if_neg (by omega), vI_wJ]
    exact h.1 k hk
  · unfold setJ
    rw [vI_w, vI_wJ]
    split
    · rw [nI_t (by omega)]; omega
    · exact h.2 k hk
/-- a heap's path is bettered -/
def setI (b : Nat) (σ : Mem) (i : Nat) (x : Int64) (j : Nat) : Mem := wI (wJ σ (b + 7) i x) (b + 9) i (nI j)
theorem setI_smp {b : Nat} {σ : Mem} {j : Nat} {x : Int64} {i : Nat} : SMP b σ (setI b σ i x j) := by
  constructor
  · intro k h1 h2
    exact (wI_ne (wJ σ (b + 7) i x) i (nI j) h1).1
  · intro k h1 h2
    have e : (setI b σ i x j).2 k = (wJ σ (b + 7) i x).2 k := rfl
    rw [e]
    exact (wJ_ne σ i x h1).2
theorem setI_lab {b : Nat} {σ : Mem} {j : Nat} {x : Int64} {i : Nat} (hi : i < 5) : lab b (setI b σ i x j) = fun v => if v = i then x.toInt else lab b σ v := by
  funext v
  unfold lab setI
  simp only [vJ_wI, vJ_w]
  by_cases h : v < 5
  · rw [if_pos h, if_pos h]
    by_cases h2 : v = i
    · rw [if_pos ⟨trivial, h2⟩, if_pos h2]
    · rw [if_neg (by omega), if_neg h2]
  · rw [if_neg h, if_neg h, if_neg (by omega), if_neg (by omega)]
theorem setI_par {b : Nat} {σ : Mem} {j : Nat} {x : Int64} {i : Nat} (hi : i < 5) (hj : j < 5) : par b (setI b σ i x j) = fun v => if v = i then some (5 + j) else par b σ v := by
  funext v
  unfold par setI
  simp only [vI_w, vI_wJ]
  by_cases h : v < 5
  · rw [if_pos h, if_pos h]
    by_cases h2 : v = i
    · rw [if_pos ⟨trivial, h2⟩, if_pos h2, nI_t (by omega)]
      unfold ptr
      rw [if_neg (by omega)]
      simp
    · rw [if_neg (by omega), if_neg h2]
  · rw [if_neg h, if_neg h, if_neg (by omega), if_neg (by omega)]
theorem setI_ptr {b : Nat} {σ : Mem} {j : Nat} {x : Int64} {i : Nat} (hj : j < 5) (h : PTR b σ) : PTR b (setI b σ i x j) := by
  refine ⟨fun k hk => ?_, fun k hk => ?_⟩
  · unfold setI
    rw [vI_w, vI_wJ]
    split
    · rw [nI_t (by omega)]; omega
    · exact h.1 k hk
  · unfold setI
    rw [vI_w, if_neg (by omega), vI_wJ]
    exact h.2 k hk
theorem far_t : ((1152921504606846976 : Int64)).toInt = FARc := by decide
theorem five_t : ((5 : Int32)).toInt = 5 := by decide
theorem nlt5 {n : Nat} (h : n ≤ 5) : ¬ (5 : Int32) < nI n := by
  rw [ltI', nI_t (by omega), five_t]; omega
section PATHS
variable {b : Nat} {a u cn f φ : Nat → Int}
/-- what the labels' walks go by -/
abbrev BFc (b : Nat) (a u cn f φ : Nat → Int) (σ : Mem) : Prop := BFi (Arc u cn f) (Src a f) φ FARc Cmc (lab b σ) (par b σ)
theorem fwd_arc (i j : Nat) (hi : i < 5) (hj : j < 5) (h : f (5 * i + j) < u (5 * i + j)) : Arc u cn f i (5 + j) (cn (5 * i + j)) := Or.inl ⟨i, j, hi, hj, rfl, rfl, h, rfl⟩
theorem bwd_arc (i j : Nat) (hi : i < 5) (hj : j < 5) (h : 0 < f (5 * i + j)) : Arc u cn f (5 + j) i (- cn (5 * i + j)) := Or.inr ⟨i, j, hi, hj, rfl, rfl, h, rfl⟩
/-- all ways ahead of n have been looked at, from the heaps -/
def FwdDone (b : Nat) (u cn f : Nat → Int) (n : Nat) (σ : Mem) : Prop := ∀ i j, i < 5 → j < 5 → 5 * i + j < n → f (5 * i + j) < u (5 * i + j) → lab b σ i < FARc → lab b σ (5 + j) ≤ lab b σ i + cn (5 * i + j)
def BwdDone (b : Nat) (cn f : Nat → Int) (n : Nat) (σ : Mem) : Prop := ∀ i j, i < 5 → j < 5 → 5 * i + j < n → 0 < f (5 * i + j) → lab b σ (5 + j) < FARc → lab b σ i ≤ lab b σ (5 + j) - cn (5 * i + j)
/-- holes that were bettered since σ0, from heaps that are new -/
def JNew (b : Nat) (u cn f : Nat → Int) (New : Nat → Prop) (σ0 σ : Mem) : Prop := (∀ i, i < 5 → lab b σ i = lab b σ0 i) ∧ ∀ j, j < 5 → lab b σ (5 + j) = lab b σ0 (5 + j) ∨ (lab b σ (5 + j) < lab b σ0 (5 + j) ∧ ∃ i, i < 5 ∧ New i ∧ lab b σ0 i < FARc ∧ f (5 * i + j) < u (5 * i + j) ∧ lab b σ (5 + j) = lab b σ0 i + cn (5 * i + j))
def INew (b : Nat) (cn f : Nat → Int) (NewJ : Nat → Prop) (σ0 σ : Mem) : Prop := (∀ j, j < 5 → lab b σ (5 + j) = lab b σ0 (5 + j)) ∧ ∀ i, i < 5 → lab b σ i = lab b σ0 i ∨ (lab b σ i < lab b σ0 i ∧ ∃ j, j < 5 ∧ NewJ j ∧ lab b σ0 (5 + j) < FARc ∧ 0 < f (5 * i + j) ∧ lab b σ i = lab b σ0 (5 + j) - cn (5 * i + j))
theorem fwd_lift {σ σ0 : Mem} {N k : Nat} {op : Nat → Nat} (hO : OPN b σ0 u N op) (hf : ∀ w, w < 25 → 0 ≤ f w ∧ f w ≤ u w) (hk : k < N) (h : FwdDone b u cn f (op k + 1) σ) : FwdDone b u cn f (wat N op (k + 1)) σ := by
  intro i j hi hj hlt h3 h4
  by_cases c : 5 * i + j < op k + 1
  · exact h i j hi hj c h3 h4
  · have h5 := opn_gap1 hO hk (w := 5 * i + j) (by omega) hlt (by omega)
    have := hf (5 * i + j) (by omega)
    omega
theorem bwd_lift {σ σ0 : Mem} {N k : Nat} {op : Nat → Nat} (hO : OPN b σ0 u N op) (hf : ∀ w, w < 25 → 0 ≤ f w ∧ f w ≤ u w) (hk : k < N) (h : BwdDone b cn f (op k + 1) σ) : BwdDone b cn f (wat N op (k + 1)) σ := by
  intro i j hi hj hlt h3 h4
  by_cases c : 5 * i + j < op k + 1
  · exact h i j hi hj c h3 h4
  · have h5 := opn_gap1 hO hk (w := 5 * i + j) (by omega) hlt (by omega)
    have := hf (5 * i + j) (by omega)
    omega
theorem fwd_first {σ σ0 : Mem} {N : Nat} {op : Nat → Nat} (hO : OPN b σ0 u N op) (hf : ∀ w, w < 25 → 0 ≤ f w ∧ f w ≤ u w) : FwdDone b u cn f (wat N op 0) σ := by
  intro i j hi hj hlt h3 h4
  have h5 := opn_gap hO (k := 0) (fun i hi => absurd hi (by omega)) hlt (by omega)
  have := hf (5 * i + j) (by omega)
  omega
theorem bwd_first {σ σ0 : Mem} {N : Nat} {op : Nat → Nat} (hO : OPN b σ0 u N op) (hf : ∀ w, w < 25 → 0 ≤ f w ∧ f w ≤ u w) : BwdDone b cn f (wat N op 0) σ := by
  intro i j hi hj hlt h3 h4
  have h5 := opn_gap hO (k := 0) (fun i hi => absurd hi (by omega)) hlt (by omega)
  have := hf (5 * i + j) (by omega)
  omega
theorem rh_loop {N : Nat} {op : Nat → Nat} (hP : Pot (Arc u cn f) (Src a f) φ Cmc) (hcn : ∀ w, w < 25 → -Cmc ≤ cn w ∧ cn w ≤ Cmc) (hφ : ∀ v, v < 10 → -Cmc ≤ φ v) {New : Nat → Prop} {σ0 : Mem} (hm0 : MEMF b σ0 f u cn) (hO : OPN b σ0 u N op)
    (hold : ∀ i j, i < 5 → j < 5 → ¬ New i → f (5 * i + j) < u (5 * i + j) → lab b σ0 i < FARc → lab b σ0 (5 + j) ≤ lab b σ0 i + cn (5 * i + j)) : ∀ (d k fu : Nat) (σ : Mem), k + d = N → d < fu → SMP b σ0 σ → BFc b a u cn f φ σ → PTR b σ → FwdDone b u cn f (wat N op k) σ → JNew b u cn f New σ0 σ →
    ∃ σ', fX0_reachHoles_2 fu b (nI k) σ = some (0, σ') ∧ SMP b σ0 σ' ∧ BFc b a u cn f φ σ' ∧ PTR b σ' ∧ FwdDone b u cn f 25 σ' ∧ JNew b u cn f New σ0 σ' := by
  intro d
  induction d with
  | zero =>
    intro k fu σ h1 h2 hs hB hp hF hJ
    obtain ⟨fu, rfl⟩ : ∃ q, fu = q + 1 := ⟨fu - 1, by omega⟩
    have hkN : k = N := by omega
    subst hkN
    have hOs := smp_opn hs hO
    rw [wat_e] at hF
    refine ⟨σ, ?_, hs, hB, hp, hF, hJ⟩
    show fX0_reachHoles_2b _ _ _ _ = _
    unfold fX0_reachHoles_2b
    rw [if_pos (by rw [leI, nI_t (by have := hOs.2.1; omega)]; exact Int.le_of_eq hOs.2.2.1)]
  | succ d ih =>
    intro k fu σ h1 h2 hs hB hp hF hJ
    obtain ⟨fu, rfl⟩ : ∃ q, fu = q + 1 := ⟨fu - 1, by omega⟩
    have hOs := smp_opn hs hO
    have hkN : k < N := by omega
    have hN25 := hOs.2.1
    obtain ⟨hn25, hopk⟩ := hOs.2.2.2.1 k hkN
    obtain ⟨n, hnk⟩ : ∃ n, n = op k := ⟨_, rfl⟩
    rw [← hnk] at hn25 hopk
    have hop2 : rI σ (34 + b / 12) k = nI n := nI_eqI _ hopk
    have hnr : rI σ b 12 = nI N := nI_eqI _ hOs.2.2.1
    rw [wat_t hkN, ← hnk] at hF
    have hfu : ∀ w, w < 25 → 0 ≤ f w ∧ f w ≤ u w := fun w hw => ⟨(hm0 w hw).2.2.1, (hm0 w hw).2.2.2.1⟩
    have hn : n < 25 := hn25
    have hi : n / 5 < 5 := by omega
    have hj : n % 5 < 5 := by omega
    have hw : 5 * (n / 5) + n % 5 = n := by omega
    obtain ⟨m1, m2, m3, m4, m5⟩ := (smp_memf hs hm0) n hn
    have hbi := hB.1 (n / 5) (by omega)
    have hbj := hB.1 (5 + n % 5) (by omega)
    rw [lab_i hi] at hbi
    rw [lab_j] at hbj
    have hstep : ∀ σ', fX0_reachHoles_100 (fX0_reachHoles_2 fu) b (nI k) σ' = fX0_reachHoles_2 fu b (nI (k + 1)) σ' := fun σ' => by
      unfold fX0_reachHoles_100; rw [nI_1]
    have hskip : (f n < u n → lab b σ (n / 5) < FARc → lab b σ (5 + n % 5) ≤ lab b σ (n / 5) + cn n) → FwdDone b u cn f (wat N op (k + 1)) σ := by
      intro h
      refine fwd_lift hO hfu hkN ?_
      rw [← hnk]
      intro i j hi' hj' hlt h3 h4
      by_cases he : 5 * i + j = n
      · have e1 : i = n / 5 := by omega
        have e2 : j = n % 5 := by omega
        rw [he] at h3 ⊢
        rw [e1] at h4
        rw [e1, e2]
        exact h h3 h4
      · exact hF i j hi' hj' (by omega) h3 h4
    show ∃ σ', fX0_reachHoles_2b _ _ _ _ = _ ∧ _
    unfold fX0_reachHoles_2b ltI
    rw [if_neg (by rw [hnr, leI, nI_t (by omega), nI_t (by omega)]; omega), inb_n (show k < 25 by omega) (by omega), grd_t, ix_n (show k < 2147483648 by omega), hop2]
    try dsimp only
    rw [nI_mod5 (by omega), nI_div5 (by omega)]
    simp only [inb_n (show n < 25 by omega) (show 25 < 2147483648 by omega), inb_n (show n / 5 < 5 by omega) (show 5 < 2147483648 by omega), inb_n (show n % 5 < 5 by omega) (show 5 < 2147483648 by omega), grd_t, ix_n (show n < 2147483648 by omega), ix_n (show n / 5 < 2147483648 by omega), ix_n (show n % 5 < 2147483648 by omega), hstep, cmp_ge, far_t]
    by_cases hr : rI σ (b + 4) n ≤ 0
    · rw [if_pos hr]
      rw [leI] at hr
      have hr : vI σ (b + 4) n ≤ 0 := hr
      exact ih (k + 1) fu σ (by omega) (by omega) hs hB hp (hskip (fun h => by omega)) hJ
    · rw [if_neg hr]
      rw [leI] at hr
      have hr : ¬ vI σ (b + 4) n ≤ 0 := hr
      have hu : f n < u n := by omega
      by_cases hfar : FARc ≤ (rJ σ (b + 7) (n / 5)).toInt
      · rw [if_pos hfar]
        exact ih (k + 1) fu σ (by omega) (by omega) hs hB hp (hskip (fun _ h => by rw [lab_i hi] at h; unfold vJ at h; omega)) hJ
      · rw [if_neg hfar]
        have hli : vJ σ (b + 7) (n / 5) < FARc := by unfold vJ; omega
        obtain ⟨g1, g2⟩ := hbi.2 hli
        have g3 : lab b σ (n / 5) ≤ 10 * Cmc := bf_bound hP hB (by omega) (by rw [lab_i hi]; exact hli)
        rw [lab_i hi] at g3
        have g4 := hφ (n / 5) (by omega)
        have g5 := hcn n hn
        have hrk : vJ σ (b + 6) n = cn n := m5 (by omega)
        have hadd : (rJ σ (b + 7) (n / 5) + rJ σ (b + 6) n).toInt = vJ σ (b + 7) (n / 5) + cn n := by
          rw [tJ_add]
          · unfold vJ at hrk ⊢; rw [hrk]
          · unfold vJ at hrk hli g1 g3 g5
            rw [hrk]
            unfold inRJ Cmc at *
            omega
        rw [hadd]
        by_cases hlt : (rJ σ (b + 8) (n % 5)).toInt ≤ vJ σ (b + 7) (n / 5) + cn n
        · rw [if_pos hlt]
          exact ih (k + 1) fu σ (by omega) (by omega) hs hB hp (hskip (fun _ _ => by rw [lab_i hi, lab_j]; exact hlt)) hJ
        · rw [if_neg hlt]
          have hlt' : vJ σ (b + 7) (n / 5) + cn n < vJ σ (b + 8) (n % 5) := by unfold vJ at *; omega
          unfold ltM
          have hA : Arc u cn f (n / 5) (5 + n % 5) (cn n) := by
            have := fwd_arc (cn := cn) (n / 5) (n % 5) hi hj (by rw [hw]; exact hu)
            rw [hw] at this
            exact this
          have hB' := bf_relax hP hB hA (by rw [lab_i hi]; exact hli) (by rw [lab_i hi, lab_j]; exact hlt')
          rw [lab_i hi] at hB'
          rw [← hadd] at hB'
          have hset : wI (wJ σ (b + 8) (n % 5) (rJ σ (b + 7) (n / 5) + rJ σ (b + 6) n)) (b + 10) (n % 5) (nI (n / 5)) = setJ b σ (n % 5) (rJ σ (b + 7) (n / 5) + rJ σ (b + 6) n) (n / 5) := rfl
          dsimp only
          rw [hset]
          have hlab := setJ_lab (b := b) (σ := σ) (j := n % 5) (x := rJ σ (b + 7) (n / 5) + rJ σ (b + 6) n) (i := n / 5)
          have hpar := setJ_par (b := b) (σ := σ) (j := n % 5) (x := rJ σ (b + 7) (n / 5) + rJ σ (b + 6) n) (i := n / 5) hi
          have hlabi : ∀ i, i < 5 → lab b (setJ b σ (n % 5) (rJ σ (b + 7) (n / 5) + rJ σ (b + 6) n) (n / 5)) i = lab b σ i := fun i hi' => by rw [hlab]; exact if_neg (by omega)
          have hlabj : ∀ j, lab b (setJ b σ (n % 5) (rJ σ (b + 7) (n / 5) + rJ σ (b + 6) n) (n / 5)) (5 + j) = if j = n % 5 then vJ σ (b + 7) (n / 5) + cn n else lab b σ (5 + j) := fun j => by
            rw [hlab]
            by_cases h : j = n % 5
            · rw [if_pos h]; subst h; exact (if_pos rfl).trans hadd
            · rw [if_neg h]; exact if_neg (by omega)
          refine ih (k + 1) fu _ (by omega) (by omega) (hs.tr setJ_smp) (by unfold BFc; rw [hlab, hpar]; exact hB') (setJ_ptr hi hp) (fwd_lift hO hfu hkN ?_) ?_
          · rw [← hnk]
            intro i j hi' hj' hlt3 h3 h4
            rw [hlabi i hi'] at h4
            rw [hlabi i hi', hlabj j]
            by_cases he : 5 * i + j = n
            · have e1 : i = n / 5 := by omega
              have e2 : j = n % 5 := by omega
              rw [if_pos e2, he, e1, lab_i hi]
              exact Int.le_refl _
            · have h5 := hF i j hi' hj' (by omega) h3 h4
              split
              · rename_i e2
                subst e2
                rw [lab_j] at h5
                omega
              · exact h5
          · refine ⟨fun i hi' => by rw [hlabi i hi']; exact hJ.1 i hi', fun j hj' => ?_⟩
            rw [hlabj j]
            by_cases e2 : j = n % 5
            · rw [if_pos e2]
              have e0 : vJ σ (b + 7) (n / 5) = lab b σ0 (n / 5) := by rw [← lab_i (σ := σ) hi]; exact hJ.1 _ hi
              have hle : lab b σ (5 + j) ≤ lab b σ0 (5 + j) := by
                rcases hJ.2 j hj' with h | h
                · exact Int.le_of_eq h
                · omega
              have hlt0 : lab b σ0 (n / 5) + cn n < lab b σ0 (5 + j) := by
                rw [← e0]
                rw [lab_j] at hle
                subst e2
                omega
              have hnew : New (n / 5) := by
                refine Classical.byContradiction fun hno => ?_
                have h9 := hold (n / 5) (n % 5) hi hj hno (by rw [hw]; exact hu) (by rw [← e0]; exact hli)
                rw [hw, ← e2] at h9
                omega
              refine Or.inr ⟨by rw [e0]; exact hlt0, n / 5, hi, hnew, by rw [← e0]; exact hli, ?_, ?_⟩
              · rw [e2, hw]; exact hu
              · rw [e2, hw, e0]
            · rw [if_neg e2]; exact hJ.2 j hj'
theorem rp_loop {N : Nat} {op : Nat → Nat} (hP : Pot (Arc u cn f) (Src a f) φ Cmc) (hcn : ∀ w, w < 25 → -Cmc ≤ cn w ∧ cn w ≤ Cmc) (hφ : ∀ v, v < 10 → -Cmc ≤ φ v) {NewJ : Nat → Prop} {σ0 : Mem} (hm0 : MEMF b σ0 f u cn) (hO : OPN b σ0 u N op)
    (hold : ∀ i j, i < 5 → j < 5 → ¬ NewJ j → 0 < f (5 * i + j) → lab b σ0 (5 + j) < FARc → lab b σ0 i ≤ lab b σ0 (5 + j) - cn (5 * i + j)) : ∀ (d k fu : Nat) (σ : Mem) (fl : Int32), k + d = N → d < fu → SMP b σ0 σ → BFc b a u cn f φ σ → PTR b σ → BwdDone b cn f (wat N op k) σ → INew b cn f NewJ σ0 σ → ((fl = 0 ∧ ∀ i, i < 5 → lab b σ i = lab b σ0 i) ∨ (fl = 1 ∧ ∃ i, i < 5 ∧ lab b σ i < lab b σ0 i)) →
    ∃ (fl' : Int32) (σ' : Mem), fX0_reachHeaps_4 fu b fl (nI k) σ = some (fl', σ') ∧ SMP b σ0 σ' ∧ BFc b a u cn f φ σ' ∧ PTR b σ' ∧ BwdDone b cn f 25 σ' ∧ INew b cn f NewJ σ0 σ' ∧ ((fl' = 0 ∧ ∀ i, i < 5 → lab b σ' i = lab b σ0 i) ∨ (fl' = 1 ∧ ∃ i, i < 5 ∧ lab b σ' i < lab b σ0 i)) := by
  intro d
  induction d with
  | zero =>
    intro k fu σ fl h1 h2 hs hB hp hF hJ hfl
    obtain ⟨fu, rfl⟩ : ∃ q, fu = q + 1 := ⟨fu - 1, by omega⟩
    have hkN : k = N := by omega
    subst hkN
    have hOs := smp_opn hs hO
    rw [wat_e] at hF
    refine ⟨fl, σ, ?_, hs, hB, hp, hF, hJ, hfl⟩
    show fX0_reachHeaps_4b _ _ _ _ _ = _
    unfold fX0_reachHeaps_4b
    have hd : decide (fl = 0 ∨ fl = 1) = true := by
      rcases hfl with ⟨h, -⟩ | ⟨h, -⟩ <;> simp [h]
    rw [if_pos (by rw [leI, nI_t (by have := hOs.2.1; omega)]; exact Int.le_of_eq hOs.2.2.1), hd, grd_t]
  | succ d ih =>
    intro k fu σ fl h1 h2 hs hB hp hF hJ hfl
    obtain ⟨fu, rfl⟩ : ∃ q, fu = q + 1 := ⟨fu - 1, by omega⟩
    have hOs := smp_opn hs hO
    have hkN : k < N := by omega
    have hN25 := hOs.2.1
    obtain ⟨hn25, hopk⟩ := hOs.2.2.2.1 k hkN
    obtain ⟨n, hnk⟩ : ∃ n, n = op k := ⟨_, rfl⟩
    rw [← hnk] at hn25 hopk
    have hop2 : rI σ (34 + b / 12) k = nI n := nI_eqI _ hopk
    have hnr : rI σ b 12 = nI N := nI_eqI _ hOs.2.2.1
    rw [wat_t hkN, ← hnk] at hF
    have hfu : ∀ w, w < 25 → 0 ≤ f w ∧ f w ≤ u w := fun w hw => ⟨(hm0 w hw).2.2.1, (hm0 w hw).2.2.2.1⟩
    have hn : n < 25 := hn25
    have hi : n / 5 < 5 := by omega
    have hj : n % 5 < 5 := by omega
    have hw : 5 * (n / 5) + n % 5 = n := by omega
    obtain ⟨m1, m2, m3, m4, m5⟩ := (smp_memf hs hm0) n hn
    have hbj := hB.1 (5 + n % 5) (by omega)
    rw [lab_j] at hbj
    have hstep : ∀ fl' σ', fX0_reachHeaps_109 (fX0_reachHeaps_4 fu) b fl' (nI k) σ' = fX0_reachHeaps_4 fu b fl' (nI (k + 1)) σ' := fun fl' σ' => by
      unfold fX0_reachHeaps_109; rw [nI_1]
    have hskip : (0 < f n → lab b σ (5 + n % 5) < FARc → lab b σ (n / 5) ≤ lab b σ (5 + n % 5) - cn n) → BwdDone b cn f (wat N op (k + 1)) σ := by
      intro h
      refine bwd_lift hO hfu hkN ?_
      rw [← hnk]
      intro i j hi' hj' hlt h3 h4
      by_cases he : 5 * i + j = n
      · have e1 : i = n / 5 := by omega
        have e2 : j = n % 5 := by omega
        rw [he] at h3 ⊢
        rw [e2] at h4
        rw [e1, e2]
        exact h h3 h4
      · exact hF i j hi' hj' (by omega) h3 h4
    show ∃ fl' σ', fX0_reachHeaps_4b _ _ _ _ _ = _ ∧ _
    unfold fX0_reachHeaps_4b ltI
    rw [if_neg (by rw [hnr, leI, nI_t (by omega), nI_t (by omega)]; omega), inb_n (show k < 25 by omega) (by omega), grd_t, ix_n (show k < 2147483648 by omega), hop2]
    try dsimp only
    rw [nI_mod5 (by omega), nI_div5 (by omega)]
    simp only [inb_n (show n < 25 by omega) (show 25 < 2147483648 by omega), inb_n (show n / 5 < 5 by omega) (show 5 < 2147483648 by omega), inb_n (show n % 5 < 5 by omega) (show 5 < 2147483648 by omega), grd_t, ix_n (show n < 2147483648 by omega), ix_n (show n / 5 < 2147483648 by omega), ix_n (show n % 5 < 2147483648 by omega), hstep, cmp_ge, far_t]
    by_cases hr : rI σ (b + 3) n ≤ 0
    · rw [if_pos hr]
      rw [leI] at hr
      have hr : vI σ (b + 3) n ≤ 0 := hr
      exact ih (k + 1) fu σ fl (by omega) (by omega) hs hB hp (hskip (fun h => by omega)) hJ hfl
    · rw [if_neg hr]
      rw [leI] at hr
      have hr : ¬ vI σ (b + 3) n ≤ 0 := hr
      have hu : 0 < f n := by omega
      by_cases hfar : FARc ≤ (rJ σ (b + 8) (n % 5)).toInt
      · rw [if_pos hfar]
        exact ih (k + 1) fu σ fl (by omega) (by omega) hs hB hp (hskip (fun _ h => by rw [lab_j] at h; unfold vJ at h; omega)) hJ hfl
      · rw [if_neg hfar]
        have hlj : vJ σ (b + 8) (n % 5) < FARc := by unfold vJ; omega
        obtain ⟨g1, g2⟩ := hbj.2 hlj
        have g3 : lab b σ (5 + n % 5) ≤ 10 * Cmc := bf_bound hP hB (by omega) (by rw [lab_j]; exact hlj)
        rw [lab_j] at g3
        have g4 := hφ (5 + n % 5) (by omega)
        have g5 := hcn n hn
        have hrk : vJ σ (b + 6) n = cn n := m5 (by omega)
        have hadd : (rJ σ (b + 8) (n % 5) - rJ σ (b + 6) n).toInt = vJ σ (b + 8) (n % 5) - cn n := by
          rw [tJ_sub]
          · unfold vJ at hrk ⊢; rw [hrk]
          · unfold vJ at hrk hlj g1 g3 g5
            rw [hrk]
            unfold inRJ Cmc at *
            omega
        rw [hadd]
        by_cases hlt : (rJ σ (b + 7) (n / 5)).toInt ≤ vJ σ (b + 8) (n % 5) - cn n
        · rw [if_pos hlt]
          exact ih (k + 1) fu σ fl (by omega) (by omega) hs hB hp (hskip (fun _ _ => by rw [lab_i hi, lab_j]; exact hlt)) hJ hfl
        · rw [if_neg hlt]
          have hlt' : vJ σ (b + 8) (n % 5) + - cn n < vJ σ (b + 7) (n / 5) := by unfold vJ at *; omega
          unfold ltM
          have hA : Arc u cn f (5 + n % 5) (n / 5) (- cn n) := by
            have := bwd_arc (u := u) (cn := cn) (n / 5) (n % 5) hi hj (by rw [hw]; exact hu)
            rw [hw] at this
            exact this
          have hB' := bf_relax hP hB hA (by rw [lab_j]; exact hlj) (by rw [lab_i hi, lab_j]; exact hlt')
          rw [lab_j] at hB'
          have hadd' : (rJ σ (b + 8) (n % 5) - rJ σ (b + 6) n).toInt = vJ σ (b + 8) (n % 5) + - cn n := by rw [hadd]; omega
          rw [← hadd'] at hB'
          have hset : wI (wJ σ (b + 7) (n / 5) (rJ σ (b + 8) (n % 5) - rJ σ (b + 6) n)) (b + 9) (n / 5) (nI (n % 5)) = setI b σ (n / 5) (rJ σ (b + 8) (n % 5) - rJ σ (b + 6) n) (n % 5) := rfl
          dsimp only
          rw [hset]
          have hlab := setI_lab (b := b) (σ := σ) (j := n % 5) (x := rJ σ (b + 8) (n % 5) - rJ σ (b + 6) n) (i := n / 5) hi
          have hpar := setI_par (b := b) (σ := σ) (j := n % 5) (x := rJ σ (b + 8) (n % 5) - rJ σ (b + 6) n) (i := n / 5) hi hj
          have hlabj : ∀ j, lab b (setI b σ (n / 5) (rJ σ (b + 8) (n % 5) - rJ σ (b + 6) n) (n % 5)) (5 + j) = lab b σ (5 + j) := fun j => by rw [hlab]; exact if_neg (by omega)
          have hlabi : ∀ i, lab b (setI b σ (n / 5) (rJ σ (b + 8) (n % 5) - rJ σ (b + 6) n) (n % 5)) i = if i = n / 5 then vJ σ (b + 8) (n % 5) - cn n else lab b σ i := fun i => by
            rw [hlab, hadd]
          have hle : lab b σ (n / 5) ≤ lab b σ0 (n / 5) := by
            rcases hJ.2 _ hi with h | h
            · exact Int.le_of_eq h
            · omega
          have hstr : vJ σ (b + 8) (n % 5) - cn n < lab b σ0 (n / 5) := by
            rw [lab_i hi] at hle
            omega
          refine ih (k + 1) fu _ 1 (by omega) (by omega) (hs.tr setI_smp) (by unfold BFc; rw [hlab, hpar]; exact hB') (setI_ptr hj hp) (bwd_lift hO hfu hkN ?_) ?_ (Or.inr ⟨rfl, n / 5, hi, by rw [hlabi, if_pos rfl]; exact hstr⟩)
          · rw [← hnk]
            intro i j hi' hj' hlt3 h3 h4
            rw [hlabj j] at h4
            rw [hlabj j, hlabi i]
            by_cases he : 5 * i + j = n
            · have e1 : i = n / 5 := by omega
              have e2 : j = n % 5 := by omega
              rw [if_pos e1, he, e2, lab_j]
              exact Int.le_refl _
            · have h5 := hF i j hi' hj' (by omega) h3 h4
              split
              · rename_i e2
                subst e2
                rw [lab_i hi] at h5
                omega
              · exact h5
          · refine ⟨fun j hj' => by rw [hlabj j]; exact hJ.1 j hj', fun i hi' => ?_⟩
            rw [hlabi i]
            by_cases e2 : i = n / 5
            · rw [if_pos e2]
              have e0 : vJ σ (b + 8) (n % 5) = lab b σ0 (5 + n % 5) := by rw [← lab_j (σ := σ)]; exact hJ.1 _ hj
              have hlt0 : lab b σ0 (5 + n % 5) - cn n < lab b σ0 i := by
                rw [← e0, e2]; exact hstr
              have hnew : NewJ (n % 5) := by
                refine Classical.byContradiction fun hno => ?_
                have h9 := hold (n / 5) (n % 5) hi hj hno (by rw [hw]; exact hu) (by rw [← e0]; exact hlj)
                rw [hw, ← e2] at h9
                omega
              refine Or.inr ⟨by rw [e0]; exact hlt0, n % 5, hj, hnew, by rw [← e0]; exact hlj, ?_, ?_⟩
              · rw [e2, hw]; exact hu
              · rw [e2, hw, e0]
            · rw [if_neg e2]; exact hJ.2 i hi'
/-- what holds between two rounds -/
def RND (b : Nat) (u cn f φ : Nat → Int) (New : Nat → Prop) (r : Nat) (σ : Mem) : Prop :=
  (∀ i j, i < 5 → j < 5 → ¬ New i → f (5 * i + j) < u (5 * i + j) → lab b σ i < FARc → lab b σ (5 + j) ≤ lab b σ i + cn (5 * i + j)) ∧ BwdDone b cn f 25 σ ∧
  ∀ i, i < 5 → New i → ∃ ch : List Nat, ch.Nodup ∧ ch.length = r + 1 ∧ ∀ x ∈ ch, x < 5 ∧ lab b σ x < FARc ∧ lab b σ x - φ x ≤ lab b σ i - φ i
theorem round_step (hP : Pot (Arc u cn f) (Src a f) φ Cmc) (hcn : ∀ w, w < 25 → -Cmc ≤ cn w ∧ cn w ≤ Cmc) (hφ : ∀ v, v < 10 → -Cmc ≤ φ v) {New : Nat → Prop} {σ0 : Mem} {r : Nat} (hm0 : MEMF b σ0 f u cn) (hO : OPX b σ0 u) (hB : BFc b a u cn f φ σ0) (hp : PTR b σ0) (hR : RND b u cn f φ New r σ0) :
    ∃ (fl : Int32) (σ1 σ2 : Mem), fX0_reachHoles b σ0 = some (0, σ1) ∧ fX0_reachHeaps b σ1 = some (fl, σ2) ∧ SMP b σ0 σ2 ∧ BFc b a u cn f φ σ2 ∧ PTR b σ2 ∧
      ((fl = 0 ∧ Fix (Arc u cn f) FARc (lab b σ2)) ∨ (fl = 1 ∧ ∃ New' : Nat → Prop, (∃ i, i < 5 ∧ New' i) ∧ RND b u cn f φ New' (r + 1) σ2)) := by
  obtain ⟨r1, r2, r3⟩ := hR
  obtain ⟨N, op, hO⟩ := hO
  have hN25 := hO.2.1
  have hfu : ∀ w, w < 25 → 0 ≤ f w ∧ f w ≤ u w := fun w hw => ⟨(hm0 w hw).2.2.1, (hm0 w hw).2.2.2.1⟩
  obtain ⟨σ1, e1, s1, B1, p1, F1, J1⟩ := rh_loop hP hcn hφ hm0 hO r1 N 0 FU σ0 (by omega) (by unfold FU; omega) SMP.rf hB hp (fwd_first hO hfu) ⟨fun _ _ => rfl, fun _ _ => Or.inl rfl⟩
  obtain ⟨fl, σ2, e2, s2, B2, p2, F2, J2, hfl⟩ := rp_loop (NewJ := fun j => lab b σ1 (5 + j) < lab b σ0 (5 + j)) hP hcn hφ (smp_memf s1 hm0) (smp_opn s1 hO) (fun i j hi hj hno h3 h4 => by
      have h5 : lab b σ1 (5 + j) = lab b σ0 (5 + j) := by
        rcases J1.2 j hj with h | h
        · exact h
        · exact absurd h.1 hno
      rw [h5] at h4 ⊢
      rw [J1.1 i hi]
      exact r2 i j hi hj (by omega) h3 h4) N 0 FU σ1 0 (by omega) (by unfold FU; omega) SMP.rf B1 p1 (bwd_first hO hfu) ⟨fun _ _ => rfl, fun _ _ => Or.inl rfl⟩ (Or.inl ⟨rfl, fun _ _ => rfl⟩)
  refine ⟨fl, σ1, σ2, e1, e2, s1.tr s2, B2, p2, ?_⟩
  have hfw : ∀ i j, i < 5 → j < 5 → ¬ (lab b σ2 i < lab b σ1 i) → f (5 * i + j) < u (5 * i + j) → lab b σ2 i < FARc → lab b σ2 (5 + j) ≤ lab b σ2 i + cn (5 * i + j) := by
    intro i j hi hj hno h3 h4
    have h5 : lab b σ2 i = lab b σ1 i := by
      rcases J2.2 i hi with h | h
      · exact h
      · exact absurd h.1 hno
    rw [h5] at h4 ⊢
    rw [J2.1 j hj]
    exact F1 i j hi hj (by omega) h3 h4
  rcases hfl with ⟨h0, hsame⟩ | ⟨h1, hex⟩
  · refine Or.inl ⟨h0, ?_⟩
    intro x y l hA hx
    rcases hA with ⟨i, j, hi, hj, rfl, rfl, h, rfl⟩ | ⟨i, j, hi, hj, rfl, rfl, h, rfl⟩
    · exact hfw _ j hi hj (by rw [hsame _ hi]; omega) h hx
    · have := F2 _ j hi hj (by omega) h hx
      omega
  · refine Or.inr ⟨h1, fun i => lab b σ2 i < lab b σ1 i, hex, hfw, F2, ?_⟩
    intro i hi hnew
    rcases J2.2 i hi with h | ⟨h, j, hj, hjn, hjf, hf, he⟩
    · exact absurd hnew (by omega)
    · rcases J1.2 j hj with h' | ⟨h', i', hi', hn', hf', hu', he'⟩
      · exact absurd hjn (by omega)
      · obtain ⟨ch, c1, c2, c3⟩ := r3 i' hi' hn'
        have a1 := (hP.1 _ _ _ (fwd_arc (cn := cn) i' j hi' hj hu')).2.2.1
        have a2 := (hP.1 _ _ _ (bwd_arc (u := u) (cn := cn) i j hi hj hf)).2.2.1
        have hL : lab b σ0 i' - φ i' ≤ lab b σ2 i - φ i := by omega
        have e10 := J1.1 i hi
        refine ⟨i :: ch, List.nodup_cons.mpr ⟨fun hin => ?_, c1⟩, by rw [List.length_cons, c2], ?_⟩
        · have := (c3 i hin).2.2
          omega
        · intro x hx
          have hfi : lab b σ2 i < FARc := by
            have := (B1.1 i (by omega)).1
            omega
          rcases List.mem_cons.mp hx with rfl | hx
          · exact ⟨hi, hfi, Int.le_refl _⟩
          · obtain ⟨d1, d2, d3⟩ := c3 x hx
            have e11 := J1.1 x d1
            have hle : lab b σ2 x ≤ lab b σ1 x := by
              rcases J2.2 x d1 with h | h
              · exact Int.le_of_eq h
              · omega
            exact ⟨d1, by omega, by omega⟩
theorem rounds_loop (hP : Pot (Arc u cn f) (Src a f) φ Cmc) (hcn : ∀ w, w < 25 → -Cmc ≤ cn w ∧ cn w ≤ Cmc) (hφ : ∀ v, v < 10 → -Cmc ≤ φ v) : ∀ (d r fu : Nat) (New : Nat → Prop) (σ0 : Mem), r + d = 4 → d + 1 < fu → MEMF b σ0 f u cn → OPX b σ0 u → BFc b a u cn f φ σ0 → PTR b σ0 → RND b u cn f φ New r σ0 →
    ∃ σ', fX0_findPaths_64 fu b 1 (nI r) σ0 = some (0, σ') ∧ SMP b σ0 σ' ∧ BFc b a u cn f φ σ' ∧ PTR b σ' ∧ Fix (Arc u cn f) FARc (lab b σ') := by
  intro d
  induction d with
  | zero =>
    intro r fu New σ0 h1 h2 hm hO hB hp hR
    obtain ⟨fu, rfl⟩ : ∃ q, fu = q + 2 := ⟨fu - 2, by omega⟩
    obtain ⟨fl, σ1, σ2, e1, e2, s2, B2, p2, hfl⟩ := round_step hP hcn hφ hm hO hB hp hR
    refine ⟨σ2, ?_, s2, B2, p2, ?_⟩
    · rcases hfl with ⟨rfl, -⟩ | ⟨rfl, New', ⟨i, hi, hn⟩, hR'⟩
      · show fX0_findPaths_64b _ _ _ _ _ = _
        unfold fX0_findPaths_64b
        rw [if_neg (by decide), if_neg (nlt5 (by omega)), e1, bnd_s, e2, bnd_s]
        show fX0_findPaths_64b _ _ _ _ _ = _
        unfold fX0_findPaths_64b
        rw [if_pos rfl]
        rfl
      · exfalso
        obtain ⟨ch, c1, c2, c3⟩ := hR'.2.2 i hi hn
        have := nodup_len 5 ch c1 (fun x hx => (c3 x hx).1)
        omega
    · rcases hfl with ⟨-, h⟩ | ⟨rfl, New', ⟨i, hi, hn⟩, hR'⟩
      · exact h
      · exfalso
        obtain ⟨ch, c1, c2, c3⟩ := hR'.2.2 i hi hn
        have := nodup_len 5 ch c1 (fun x hx => (c3 x hx).1)
        omega
  | succ d ih =>
    intro r fu New σ0 h1 h2 hm hO hB hp hR
    obtain ⟨fu, rfl⟩ : ∃ q, fu = q + 2 := ⟨fu - 2, by omega⟩
    obtain ⟨fl, σ1, σ2, e1, e2, s2, B2, p2, hfl⟩ := round_step hP hcn hφ hm hO hB hp hR
    have hun : fX0_findPaths_64 (fu + 2) b 1 (nI r) σ0 = fX0_findPaths_64 (fu + 1) b fl (nI (r + 1)) σ2 := by
      show fX0_findPaths_64b _ _ _ _ _ = _
      unfold fX0_findPaths_64b
      rw [if_neg (by decide), if_neg (nlt5 (by omega)), e1, bnd_s, e2, bnd_s, nI_1]
    rw [hun]
    rcases hfl with ⟨rfl, hfix⟩ | ⟨rfl, New', -, hR'⟩
    · refine ⟨σ2, ?_, s2, B2, p2, hfix⟩
      show fX0_findPaths_64b _ _ _ _ _ = _
      unfold fX0_findPaths_64b
      rw [if_pos rfl]
      rfl
    · obtain ⟨σ', q1, q2, q3, q4, q5⟩ := ih (r + 1) (fu + 1) New' σ2 (by omega) (by omega) (smp_memf s2 hm) (smp_opx s2 hO) B2 p2 hR'
      exact ⟨σ', q1, s2.tr q2, q3, q4, q5⟩
end PATHS
