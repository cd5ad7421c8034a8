/-! The Model's labels. -/
def FRm : Int := 268435456
theorem I_far : ((268435456 : Int32)).toInt = 268435456 := by decide
def lbM (σ : Mem) (v : Nat) : Int := vI σ 47 v
def prM (σ : Mem) (v : Nat) : Option Nat := if vI σ 47 v < FRm then ptr (vI σ 48 v) 0 else none
/-- only the labels differ -/
def SML (σ σ' : Mem) : Prop := (∀ k, k ≠ 47 → k ≠ 48 → σ'.1 k = σ.1 k) ∧ σ'.2 = σ.2
theorem SML.rf {σ : Mem} : SML σ σ := ⟨fun _ _ _ => rfl, rfl⟩
theorem SML.tr {σ σ1 σ2 : Mem} (h1 : SML σ σ1) (h2 : SML σ1 σ2) : SML σ σ2 := ⟨fun k a c => (h2.1 k a c).trans (h1.1 k a c), h2.2.trans h1.2⟩
theorem sml_vI {σ σ' : Mem} (h : SML σ σ') {k : Nat} (h1 : k ≠ 47) (h2 : k ≠ 48) (i : Nat) : vI σ' k i = vI σ k i := by
  unfold vI rI; rw [h.1 k h1 h2]
theorem sml_smm {σ σ' : Mem} (h : SML σ σ') : SMM σ σ' := ⟨fun k h1 h2 => ⟨h.1 k (by omega) (by omega), by rw [h.2]⟩, fun i _ => by unfold rI; rw [h.1 35 (by omega) (by omega)]⟩
/-- the Model's plan: what is there, what is wanted, the most, the plan -/
def MM (σ : Mem) (n m : Nat) (a bb u f : Nat → Int) : Prop :=
  (∀ i, i < 5 → vI σ 43 i = a i ∧ 0 ≤ a i ∧ a i ≤ 21 ∧ (n ≤ i → a i = 0)) ∧ (∀ j, j < 5 → vI σ 44 j = bb j ∧ 0 ≤ bb j ∧ bb j ≤ 21 ∧ (m ≤ j → bb j = 0)) ∧
  (∀ w, w < 25 → vI σ 46 w = f w ∧ u w ≤ 40 ∧ (w / 5 < n ∧ w % 5 < m → vI σ 45 w = u w) ∧ (¬ (w / 5 < n ∧ w % 5 < m) → u w = 0)) ∧ Fea a bb u f
theorem sml_mm {σ σ' : Mem} {n m : Nat} {a bb u f : Nat → Int} (h : SML σ σ') (hM : MM σ n m a bb u f) : MM σ' n m a bb u f := by
  obtain ⟨h1, h2, h3, h4⟩ := hM
  refine ⟨fun i hi => by rw [sml_vI h (by omega) (by omega)]; exact h1 i hi, fun i hi => by rw [sml_vI h (by omega) (by omega)]; exact h2 i hi, fun w hw => by rw [sml_vI h (by omega) (by omega), sml_vI h (by omega) (by omega)]; exact h3 w hw, h4⟩
section LABELS
variable {n m : Nat} {a bb u c f φ : Nat → Int}
def BFm (a u c f φ : Nat → Int) (σ : Mem) : Prop := BFi (Arc u c f) (Src a f) φ FRm 20000 (lbM σ) (prM σ) ∧ ∀ v, v < 10 → lbM σ v < FRm → -1 ≤ vI σ 48 v
/-- one label bettered -/
def setM (σ : Mem) (v : Nat) (x : Int) (y : Nat) : Mem := wI (wI σ 47 v (oI x)) 48 v (nI y)
theorem setM_sml {σ : Mem} {v y : Nat} {x : Int} : SML σ (setM σ v x y) := ⟨fun k h1 h2 => (wI_ne _ v _ h2).1.trans (wI_ne σ v _ h1).1, rfl⟩
theorem setM_lb {σ : Mem} {v y : Nat} {x : Int} (hx : inR x) : lbM (setM σ v x y) = fun z => if z = v then x else lbM σ z := by
  funext z
  unfold lbM setM
  rw [vI_wne (by omega), vI_w]
  by_cases e : z = v
  · rw [if_pos ⟨rfl, e⟩, if_pos e, oI_to hx]
  · rw [if_neg (fun q => e q.2), if_neg e]
theorem setM_pr {σ : Mem} {v y : Nat} {x : Int} (hx : inR x) (hx2 : x < FRm) (hy : y < 1000) : prM (setM σ v x y) = fun z => if z = v then some y else prM σ z := by
  funext z
  have hl := congrFun (setM_lb (σ := σ) (v := v) (y := y) hx) z
  unfold lbM at hl
  unfold prM
  rw [hl]
  by_cases e : z = v
  · rw [if_pos e, if_pos e, if_pos hx2]
    unfold setM
    rw [vI_w, if_pos ⟨rfl, e⟩, nI_t (by omega)]
    unfold ptr
    rw [if_neg (by omega)]
    simp
  · rw [if_neg e, if_neg e]
    have e48 : vI (setM σ v x y) 48 z = vI σ 48 z := by
      unfold setM
      rw [vI_w, if_neg (fun q => e q.2), vI_wne (by omega)]
    rw [e48]
theorem setM_bf {σ : Mem} (hP : Pot (Arc u c f) (Src a f) φ 20000) (hB : BFm a u c f φ σ) {y v : Nat} {l : Int} (hA : Arc u c f y v l) (hu : lbM σ y < FRm) (hlt : lbM σ y + l < lbM σ v) (hr : inR (lbM σ y + l)) : BFm a u c f φ (setM σ v (lbM σ y + l) y) := by
  have h := bf_relax hP hB.1 hA hu hlt
  have hv := (hP.1 _ _ _ hA)
  have hle := (hB.1.1 v hv.2.1).1
  refine ⟨?_, fun z hz hlz => ?_⟩
  · rw [setM_lb hr, setM_pr hr (by omega) (by omega)]
    exact h
  · rw [setM_lb hr] at hlz
    have hlz : (if z = v then lbM σ y + l else lbM σ z) < FRm := hlz
    unfold setM
    rw [vI_w]
    by_cases e : z = v
    · rw [if_pos ⟨rfl, e⟩, nI_t (by omega)]; omega
    · rw [if_neg e] at hlz
      rw [if_neg (fun q => e q.2), vI_wne (by omega)]
      exact hB.2 z hz hlz
theorem lb_bd {σ : Mem} (hP : Pot (Arc u c f) (Src a f) φ 20000) (hB : BFm a u c f φ σ) (hφ : ∀ v, v < 10 → -20000 ≤ φ v) {v : Nat} (hv : v < 10) : -20000 ≤ lbM σ v ∧ lbM σ v ≤ FRm ∧ (lbM σ v < FRm → lbM σ v ≤ 200000) := by
  have h1 := hB.1.1 v hv
  have h2 := hφ v hv
  have h3 := fun h => bf_bound hP hB.1 hv h
  unfold FRm at *
  refine ⟨?_, h1.1, fun h => by have := h3 h; omega⟩
  by_cases h : lbM σ v < 268435456
  · have := h1.2 h; omega
  · omega
/-- how labels have changed -/
def LESS (σ σ' : Mem) : Prop := (∀ v, v < 10 → lbM σ' v ≤ lbM σ v) ∧ ∃ v, v < 10 ∧ lbM σ' v < lbM σ v
theorem m_go108 {σ : Mem} (hR : REL σ n m) (hM : MM σ n m a bb u f) (hP : Pot (Arc u c f) (Src a f) φ 20000) (hB : BFm a u c f φ σ) (hφ : ∀ v, v < 10 → -20000 ≤ φ v) {i j : Nat} (hi : i < n) (hj : j < m) (hc : c (5 * i + j) = gnW σ n m (5 * i + j)) (hcb : -20000 ≤ c (5 * i + j) ∧ c (5 * i + j) ≤ 20000) {v4 : Int32} (h4 : v4 = 0 ∨ v4 = 1) :
    ∃ r σ', fX3_goAlong_108 (nI (5 * i + j)) (nI i) (nI (5 + j)) v4 σ = some (r, σ') ∧ SML σ σ' ∧ BFm a u c f φ σ' ∧ ((r = v4 ∧ σ' = σ ∧ (0 < f (5 * i + j) → lbM σ (5 + j) < FRm → lbM σ i ≤ lbM σ (5 + j) - c (5 * i + j))) ∨ (r = 1 ∧ LESS σ σ')) := by
  have h5 := hR.1.1
  have hw : 5 * i + j < 25 := by omega
  have q46 := (hM.2.2.1 (5 * i + j) hw).1
  have hg : fX3_gain (nI (5 * i + j)) σ = some (oI (c (5 * i + j)), σ) := by
    rw [hc]
    exact m_gain hR hw (by omega) (by omega)
  have b1 := lb_bd hP hB hφ (show i < 10 by omega)
  have b2 := lb_bd hP hB hφ (show 5 + j < 10 by omega)
  have hd4 : decide (v4 = 0 ∨ v4 = 1) = true := decide_eq_true h4
  unfold fX3_goAlong_108 fX3_goAlong_177
  simp only [inb_n (show 5 * i + j < 25 by omega) (show 25 < 2147483648 by omega), inb_n (show i < 10 by omega) (show 10 < 2147483648 by omega), inb_n (show 5 + j < 10 by omega) (show 10 < 2147483648 by omega), grd_t, ix_n (show 5 * i + j < 2147483648 by omega), ix_n (show i < 2147483648 by omega), ix_n (show 5 + j < 2147483648 by omega), hg, bnd_s, hd4]
  by_cases hf : f (5 * i + j) ≤ 0
  · rw [if_pos (by rw [leI, I_0]; unfold vI at q46; omega)]
    exact ⟨v4, σ, rfl, SML.rf, hB, Or.inl ⟨rfl, rfl, fun h => by omega⟩⟩
  · rw [if_neg (by rw [leI, I_0]; unfold vI at q46; omega)]
    by_cases hfr : FRm ≤ lbM σ (5 + j)
    · rw [if_pos (by rw [leI, I_far]; exact hfr)]
      exact ⟨v4, σ, rfl, SML.rf, hB, Or.inl ⟨rfl, rfl, fun _ h => by omega⟩⟩
    · rw [if_neg (by rw [leI, I_far]; exact hfr)]
      have b3 := b2.2.2 (by omega)
      have e1 : rI σ 47 (5 + j) - oI (c (5 * i + j)) = oI (lbM σ (5 + j) - c (5 * i + j)) := by rw [oI_v, oI_sub]; rfl
      have hr : inR (lbM σ (5 + j) + - c (5 * i + j)) := by unfold inR; omega
      by_cases hlt : lbM σ i ≤ lbM σ (5 + j) - c (5 * i + j)
      · rw [if_pos (by rw [e1, leI, oI_to (by unfold inR; omega)]; exact hlt)]
        exact ⟨v4, σ, rfl, SML.rf, hB, Or.inl ⟨rfl, rfl, fun _ _ => hlt⟩⟩
      · rw [if_neg (by rw [e1, leI, oI_to (by unfold inR; omega)]; exact hlt), e1]
        have hA := bwd_arc (u := u) (cn := c) (f := f) i j (by omega) (by omega) (by omega)
        have hlt2 : lbM σ (5 + j) + - c (5 * i + j) < lbM σ i := by omega
        refine ⟨1, setM σ i (lbM σ (5 + j) + - c (5 * i + j)) (5 + j), rfl, setM_sml, setM_bf hP hB hA (by omega) hlt2 hr, Or.inr ⟨rfl, fun v hv => ?_, i, by omega, ?_⟩⟩
        · rw [setM_lb hr]
          dsimp only
          split
          · rename_i e; subst e; omega
          · exact Int.le_refl _
        · rw [setM_lb hr]
          dsimp only
          rw [if_pos rfl]
          exact hlt2
theorem LESS.tr {σ σ1 σ2 : Mem} (h1 : LESS σ σ1) (h2 : LESS σ1 σ2) : LESS σ σ2 := by
  obtain ⟨a1, v, a2, a3⟩ := h1
  refine ⟨fun v hv => Int.le_trans (h2.1 v hv) (a1 v hv), v, a2, Int.lt_of_le_of_lt (h2.1 v a2) a3⟩
theorem m_goAlong {σ : Mem} (hR : REL σ n m) (hM : MM σ n m a bb u f) (hP : Pot (Arc u c f) (Src a f) φ 20000) (hB : BFm a u c f φ σ) (hφ : ∀ v, v < 10 → -20000 ≤ φ v) {w : Nat} (hw : w < 25) (hc : c w = gnW σ n m w) (hcb : -20000 ≤ c w ∧ c w ≤ 20000) :
    ∃ r σ', fX3_goAlong (nI w) σ = some (r, σ') ∧ SML σ σ' ∧ BFm a u c f φ σ' ∧ ((r = 0 ∧ σ' = σ ∧ (f w < u w → lbM σ (w / 5) < FRm → lbM σ (5 + w % 5) ≤ lbM σ (w / 5) + c w) ∧ (0 < f w → lbM σ (5 + w % 5) < FRm → lbM σ (w / 5) ≤ lbM σ (5 + w % 5) - c w)) ∨ (r = 1 ∧ LESS σ σ')) := by
  have h5 := hR.1.1
  have hww : 5 * (w / 5) + w % 5 = w := by omega
  have hoff : ¬ (w / 5 < n ∧ w % 5 < m) → f w = 0 ∧ u w = 0 := fun h => by
    have h1 := (hM.2.2.1 w hw).2.2.2 h
    have h2 := hM.2.2.2.1 w hw
    omega
  unfold fX3_goAlong fX3_goAlong_e fX3_goAlong_28 ltI
  have e5 : (5 : Int32) + nI (w % 5) = nI (5 + w % 5) := by
    show nI 5 + _ = _
    rw [nI_add]
  dsimp only
  rw [(nI_div5' hw).2, (nI_div5' hw).1, e5]
  have q1 := hR.2.1
  by_cases hi : w / 5 < n
  · rw [if_neg (not_le_nI q1.1 hi (by omega))]
    by_cases hj : w % 5 < m
    · have hlt : nI (w % 5) < rI σ 35 2 := by
        rw [ltI', nI_t (by omega)]
        have : (rI σ 35 2).toInt = m := q1.2
        omega
      rw [if_pos hlt]
      have q46 := (hM.2.2.1 w hw).1
      have q45 := (hM.2.2.1 w hw).2.2.1 ⟨hi, hj⟩
      have hg : fX3_gain (nI w) σ = some (oI (c w), σ) := by rw [hc]; exact m_gain hR hw hi hj
      have b1 := lb_bd hP hB hφ (show w / 5 < 10 by omega)
      have b2 := lb_bd hP hB hφ (show 5 + w % 5 < 10 by omega)
      simp only [inb_n (show w < 25 by omega) (show 25 < 2147483648 by omega), inb_n (show w / 5 < 10 by omega) (show 10 < 2147483648 by omega), inb_n (show 5 + w % 5 < 10 by omega) (show 10 < 2147483648 by omega), grd_t, ix_n (show w < 2147483648 by omega), ix_n (show w / 5 < 2147483648 by omega), ix_n (show 5 + w % 5 < 2147483648 by omega), hg, bnd_s, ltM]
      have key : (f w < u w → lbM σ (w / 5) < FRm → lbM σ (5 + w % 5) ≤ lbM σ (w / 5) + c w) → ∃ r σ', fX3_goAlong_108 (nI w) (nI (w / 5)) (nI (5 + w % 5)) 0 σ = some (r, σ') ∧ SML σ σ' ∧ BFm a u c f φ σ' ∧ ((r = 0 ∧ σ' = σ ∧ (f w < u w → lbM σ (w / 5) < FRm → lbM σ (5 + w % 5) ≤ lbM σ (w / 5) + c w) ∧ (0 < f w → lbM σ (5 + w % 5) < FRm → lbM σ (w / 5) ≤ lbM σ (5 + w % 5) - c w)) ∨ (r = 1 ∧ LESS σ σ')) := by
        intro hfw
        obtain ⟨r, σ', z1, z2, z3, z4⟩ := m_go108 hR hM hP hB hφ hi hj (by rw [hww]; exact hc) (by rw [hww]; exact hcb) (v4 := 0) (Or.inl rfl)
        rw [hww] at z1 z4
        refine ⟨r, σ', z1, z2, z3, ?_⟩
        rcases z4 with ⟨z5, z6, z7⟩ | h
        · exact Or.inl ⟨z5, z6, hfw, z7⟩
        · exact Or.inr h
      by_cases hfu : u w ≤ f w
      · rw [if_pos (by rw [leI]; unfold vI at q45 q46; omega)]
        exact key (fun h => by omega)
      · rw [if_neg (by rw [leI]; unfold vI at q45 q46; omega)]
        by_cases hfr : FRm ≤ lbM σ (w / 5)
        · rw [if_pos (by rw [leI, I_far]; exact hfr)]
          exact key (fun _ h => by omega)
        · rw [if_neg (by rw [leI, I_far]; exact hfr)]
          have b3 := b1.2.2 (by omega)
          have e1 : rI σ 47 (w / 5) + oI (c w) = oI (lbM σ (w / 5) + c w) := by rw [oI_v, oI_add]; rfl
          have hr : inR (lbM σ (w / 5) + c w) := by unfold inR; omega
          by_cases hle : lbM σ (5 + w % 5) ≤ lbM σ (w / 5) + c w
          · rw [if_pos (by rw [e1, leI, oI_to hr]; exact hle)]
            exact key (fun _ _ => hle)
          · rw [if_neg (by rw [e1, leI, oI_to hr]; exact hle), e1]
            have hA := fwd_arc (u := u) (cn := c) (f := f) (w / 5) (w % 5) (by omega) (by omega) (by rw [hww]; omega)
            rw [hww] at hA
            have hlt2 : lbM σ (w / 5) + c w < lbM σ (5 + w % 5) := by omega
            have hB2 := setM_bf hP hB hA (by omega) hlt2 hr
            have hS : SML σ (setM σ (5 + w % 5) (lbM σ (w / 5) + c w) (w / 5)) := setM_sml
            have hL : LESS σ (setM σ (5 + w % 5) (lbM σ (w / 5) + c w) (w / 5)) := by
              refine ⟨fun v hv => ?_, 5 + w % 5, by omega, ?_⟩
              · rw [setM_lb hr]
                dsimp only
                split
                · rename_i e; subst e; omega
                · exact Int.le_refl _
              · rw [setM_lb hr]
                dsimp only
                rw [if_pos rfl]
                exact hlt2
            have hg2 : gnW (setM σ (5 + w % 5) (lbM σ (w / 5) + c w) (w / 5)) n m w = gnW σ n m w := by
              have sd := smm_sd (sml_smm hS)
              unfold gnW
              rw [sd_unW sd, sd_v0 sd (by omega), sd_v0 sd (by omega)]
            obtain ⟨r, σ', z1, z2, z3, z4⟩ := m_go108 (smm_rel (sml_smm hS) hR) (sml_mm hS hM) hP hB2 hφ hi hj (by rw [hww, hg2]; exact hc) (by rw [hww]; exact hcb) (v4 := 1) (Or.inr rfl)
            rw [hww] at z1
            refine ⟨r, σ', z1, hS.tr z2, z3, Or.inr ?_⟩
            rcases z4 with ⟨z5, z6, -⟩ | ⟨z5, z6⟩
            · rw [z5, z6]; exact ⟨rfl, hL⟩
            · exact ⟨z5, hL.tr z6⟩
    · have hlt : ¬ nI (w % 5) < rI σ 35 2 := by
        rw [ltI', nI_t (by omega)]
        have : (rI σ 35 2).toInt = m := q1.2
        omega
      rw [if_neg hlt]
      obtain ⟨z1, z2⟩ := hoff (fun q => hj q.2)
      exact ⟨0, σ, rfl, SML.rf, hB, Or.inl ⟨rfl, rfl, fun h => by omega, fun h => by omega⟩⟩
  · have hle : rI σ 35 1 ≤ nI (w / 5) := by
      rw [leI, nI_t (by omega)]
      have : (rI σ 35 1).toInt = n := q1.1
      omega
    rw [if_pos hle]
    obtain ⟨z1, z2⟩ := hoff (fun q => hi q.1)
    exact ⟨0, σ, rfl, SML.rf, hB, Or.inl ⟨rfl, rfl, fun h => by omega, fun h => by omega⟩⟩
end LABELS
