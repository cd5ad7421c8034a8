/-! The Model: the best hole, a unit along its row of ways. -/
section BESTM
variable {n m : Nat} {a bb u c f φ : Nat → Int}
def NEARM (m : Nat) (bb f : Nat → Int) (k : Nat) (σ : Mem) (r : Int32) : Prop :=
  (r = -1 ∧ ∀ j, j < k → colS f j < bb j → 0 ≤ lbM σ (5 + j)) ∨ ∃ j0, j0 < m ∧ r = nI j0 ∧ colS f j0 < bb j0 ∧ lbM σ (5 + j0) < 0 ∧ ∀ j, j < k → colS f j < bb j → lbM σ (5 + j0) ≤ lbM σ (5 + j)
theorem five_add (j : Nat) : (5 : Int32) + nI j = nI (5 + j) := by
  show nI 5 + _ = _
  rw [nI_add]
theorem m_best {σ : Mem} (hR : REL σ n m) (hM : MM σ n m a bb u f) : ∀ (d j fu : Nat) (r : Int32), j + d = m → d < fu → NEARM m bb f j σ r →
    ∃ r', fX3_carryOne_111 fu r (nI j) σ = (if r' = -1 then fX3_carryOne_204 r' (-1) σ else fX3_carryOne_204 r' (5 + r') σ) ∧ NEARM m bb f m σ r' := by
  have h5 := hR.1.1
  intro d
  induction d with
  | zero =>
    intro j fu r h1 h2 hI
    obtain ⟨fu, rfl⟩ : ∃ q, fu = q + 1 := ⟨fu - 1, by omega⟩
    have hj : j = m := by omega
    subst hj
    refine ⟨r, ?_, hI⟩
    show fX3_carryOne_111b _ _ _ _ = _
    unfold fX3_carryOne_111b
    rw [if_pos (le_nI hR.2.1.2 (by omega))]
  | succ d ih =>
    intro j fu r h1 h2 hI
    obtain ⟨fu, rfl⟩ : ∃ q, fu = q + 1 := ⟨fu - 1, by omega⟩
    have hj : j < m := by omega
    have hbj := hM.2.1 j (by omega)
    have hcol : colS (vI σ 46) j = colS f j := col_congr (fun w hw => (hM.2.2.1 w hw).1) (by omega)
    have hc0 : 0 ≤ colS f j := sm_nonneg (fun i hi => (hM.2.2.2.1 _ (by omega)).1)
    have hcb := hM.2.2.2.2.2 j (by omega)
    have hkeep : (colS f j < bb j → 0 ≤ lbM σ (5 + j) ∨ ∃ j0, j0 < m ∧ r = nI j0 ∧ lbM σ (5 + j0) ≤ lbM σ (5 + j)) → NEARM m bb f (j + 1) σ r := by
      intro h
      rcases hI with ⟨e1, e2⟩ | ⟨j0, e1, e2, e3, e4, e5⟩
      · refine Or.inl ⟨e1, fun k hk hl => ?_⟩
        by_cases e : k = j
        · subst e
          rcases h hl with h | ⟨j0, q1, q2, -⟩
          · exact h
          · rw [e1] at q2
            exact absurd q2.symm (nI_neg1 (by omega))
        · exact e2 k (by omega) hl
      · refine Or.inr ⟨j0, e1, e2, e3, e4, fun k hk hl => ?_⟩
        by_cases e : k = j
        · subst e
          rcases h hl with h | ⟨j1, q1, q2, q3⟩
          · omega
          · rw [e2] at q2
            have := (nI_eq (by omega) (by omega)).mp q2
            subst this
            exact q3
        · exact e5 k (by omega) hl
    have hnew : colS f j < bb j → lbM σ (5 + j) < 0 → (r = -1 ∨ ∃ j0, j0 < m ∧ r = nI j0 ∧ lbM σ (5 + j) < lbM σ (5 + j0)) → NEARM m bb f (j + 1) σ (nI j) := by
      intro g1 g2 h
      refine Or.inr ⟨j, hj, rfl, g1, g2, fun k hk hl => ?_⟩
      by_cases e : k = j
      · subst e; exact Int.le_refl _
      · rcases hI with ⟨e1, e2⟩ | ⟨j0, e1, e2, e3, e4, e5⟩
        · have := e2 k (by omega) hl; omega
        · have := e5 k (by omega) hl
          rcases h with h | ⟨j1, q1, q2, q3⟩
          · rw [e2] at h; exact absurd h (nI_neg1 (by omega))
          · rw [e2] at q2
            have := (nI_eq (by omega) (by omega)).mp q2
            subst this
            omega
    have hdef : fX3_carryOne_111 (fu + 1) r (nI j) σ = if rI σ 44 j ≤ oI (colS f j) then fX3_carryOne_111 fu r (nI (j + 1)) σ else if 0 ≤ rI σ 47 (5 + j) then fX3_carryOne_111 fu r (nI (j + 1)) σ else if r = -1 then fX3_carryOne_111 fu (nI j) (nI (j + 1)) σ else fX3_carryOne_149 (fX3_carryOne_111 fu) r (nI j) 1 σ := by
      show fX3_carryOne_111b _ _ _ _ = _
      unfold fX3_carryOne_111b fX3_carryOne_148
      rw [if_neg (not_le_nI hR.2.1.2 hj (by omega)), m_got (by omega), bnd_s, inb_n (show j < 5 by omega) (by omega), grd_t, ix_n (n := j) (by omega), five_add, inb_n (show 5 + j < 10 by omega) (by omega), grd_t, ix_n (n := 5 + j) (by omega), hcol]
      have e0 : fX3_carryOne_149 (fX3_carryOne_111 fu) r (nI j) 0 σ = fX3_carryOne_111 fu r (nI (j + 1)) σ := by
        unfold fX3_carryOne_149 fX3_carryOne_184 fX3_carryOne_185
        rw [if_pos rfl, nI_1]
      rw [e0]
      by_cases hr : r = -1
      · rw [if_pos hr]
        have e1 : fX3_carryOne_149 (fX3_carryOne_111 fu) r (nI j) 1 σ = fX3_carryOne_111 fu (nI j) (nI (j + 1)) σ := by
          unfold fX3_carryOne_149 fX3_carryOne_180 fX3_carryOne_185
          rw [if_neg (by decide), if_pos hr, nI_1]
        rw [e1]
      · rw [if_neg hr]
    rw [hdef]
    have ele : rI σ 44 j ≤ oI (colS f j) ↔ bb j ≤ colS f j := by
      rw [leI, oI_to (by unfold inR; omega), ← hbj.1]
      rfl
    by_cases hl : bb j ≤ colS f j
    · rw [if_pos (ele.mpr hl)]
      exact ih (j + 1) fu r (by omega) (by omega) (hkeep (fun h => by omega))
    · rw [if_neg (fun q => hl (ele.mp q))]
      by_cases h0 : 0 ≤ lbM σ (5 + j)
      · rw [if_pos (by rw [leI, I_0]; exact h0)]
        exact ih (j + 1) fu r (by omega) (by omega) (hkeep (fun _ => Or.inl h0))
      · rw [if_neg (by rw [leI, I_0]; exact h0)]
        by_cases hr : r = -1
        · rw [if_pos hr]
          exact ih (j + 1) fu (nI j) (by omega) (by omega) (hnew (by omega) (by omega) (Or.inl hr))
        · rw [if_neg hr]
          rcases hI with ⟨e1, e2⟩ | ⟨j0, e1, e2, e3, e4, e5⟩
          · exact absurd e1 hr
          · have hd2 : fX3_carryOne_149 (fX3_carryOne_111 fu) r (nI j) 1 σ = if rI σ 47 (5 + j0) ≤ rI σ 47 (5 + j) then fX3_carryOne_111 fu r (nI (j + 1)) σ else fX3_carryOne_111 fu (nI j) (nI (j + 1)) σ := by
              unfold fX3_carryOne_149 fX3_carryOne_180 fX3_carryOne_184 fX3_carryOne_185
              rw [if_neg (by decide), if_neg hr, e2, five_add, five_add, inb_n (show 5 + j < 10 by omega) (by omega), grd_t, inb_n (show 5 + j0 < 10 by omega) (by omega), grd_t, ix_n (n := 5 + j) (by omega), ix_n (n := 5 + j0) (by omega), nI_1]
            rw [hd2]
            by_cases hle : lbM σ (5 + j0) ≤ lbM σ (5 + j)
            · rw [if_pos (by rw [leI]; exact hle)]
              exact ih (j + 1) fu r (by omega) (by omega) (hkeep (fun _ => Or.inr ⟨j0, e1, e2, hle⟩))
            · rw [if_neg (by rw [leI]; exact hle)]
              exact ih (j + 1) fu (nI j) (by omega) (by omega) (hnew (by omega) (by omega) (Or.inr ⟨j0, e1, e2, by omega⟩))
theorem prm_hole {σ : Mem} (hB : BFm a u c f φ σ) {h : Nat} (hh : h < 5) (hf : lbM σ (5 + h) < FRm) : ∃ i : Nat, i < 5 ∧ vI σ 48 (5 + h) = i ∧ prM σ (5 + h) = some i ∧ lbM σ i < FRm ∧ f (5 * i + h) < u (5 * i + h) := by
  cases hpar : prM σ (5 + h) with
  | none =>
    have := (hB.1.2.2.1 (5 + h) (by omega) hf hpar).1.1
    omega
  | some i =>
    obtain ⟨h1, h2, h3, l, h4, h5⟩ := hB.1.2.1 (5 + h) i (by omega) hpar
    have h9 := hB.2 (5 + h) (by omega) hf
    rcases h4 with ⟨i', j', hi', hj', e1, e2, e3, e4⟩ | ⟨i', j', hi', hj', e1, e2, e3, e4⟩
    · subst e1
      have : j' = h := by omega
      subst this
      unfold prM at hpar
      rw [if_pos (show vI σ 47 (5 + j') < FRm from hf)] at hpar
      unfold ptr at hpar
      split at hpar
      · cases hpar
      · have h6 := Option.some.inj hpar
        exact ⟨i, hi', by omega, rfl, h3, e3⟩
    · omega
theorem prm_heap {σ : Mem} (hB : BFm a u c f φ σ) {i : Nat} (hi : i < 5) (hf : lbM σ i < FRm) : (vI σ 48 i = -1 ∧ prM σ i = none ∧ rowS f i < a i) ∨ ∃ j : Nat, j < 5 ∧ vI σ 48 i = (5 + j : Nat) ∧ prM σ i = some (5 + j) ∧ lbM σ (5 + j) < FRm ∧ 0 < f (5 * i + j) := by
  cases hpar : prM σ i with
  | none =>
    have h1 := (hB.1.2.2.1 i (by omega) hf hpar).1.2
    unfold prM at hpar
    rw [if_pos (show vI σ 47 i < FRm from hf)] at hpar
    unfold ptr at hpar
    split at hpar
    · rename_i h; exact Or.inl ⟨h, rfl, h1⟩
    · cases hpar
  | some x =>
    obtain ⟨h1, h2, h3, l, h4, h5⟩ := hB.1.2.1 i x (by omega) hpar
    have h9 := hB.2 i (by omega) hf
    rcases h4 with ⟨i', j', hi', hj', e1, e2, e3, e4⟩ | ⟨i', j', hi', hj', e1, e2, e3, e4⟩
    · omega
    · subst e2
      subst e1
      unfold prM at hpar
      rw [if_pos (show vI σ 47 i < FRm from hf)] at hpar
      unfold ptr at hpar
      split at hpar
      · cases hpar
      · have h6 := Option.some.inj hpar
        exact Or.inr ⟨j', hj', by omega, rfl, h3, e3⟩
theorem way_m5 (i j : Nat) (h : 5 * i + j < 1000) : 5 * nI i + nI (5 + j) - 5 = nI (5 * i + j) := by
  rw [nI_way5, eqI, tI_sub, nI_t (by omega), nI_t (by omega), I_5]
  · omega
  · rw [nI_t (by omega), I_5]; unfold inR; omega
/-- where a unit's carrying has come to -/
def CARM (u f : Nat → Int) (σ0 : Mem) (t : Nat) (σ : Mem) (rows cols : Nat → Int) : Prop :=
  ((∀ k, k ≠ 46 → σ.1 k = σ0.1 k) ∧ σ.2 = σ0.2) ∧ (∀ w, w < 25 → 0 ≤ vI σ 46 w ∧ vI σ 46 w ≤ u w) ∧
  (∀ i j, i < 5 → j < 5 → vI σ 46 (5 * i + j) = f (5 * i + j) ∨ (onch (prM σ0) (5 + t) (5 + j) ∧ prM σ0 (5 + j) = some i) ∨ (onch (prM σ0) (5 + t) i ∧ prM σ0 i = some (5 + j))) ∧
  (∀ i, i < 5 → rowS (vI σ 46) i = rowS f i + rows i) ∧ ∀ j, j < 5 → colS (vI σ 46) j = colS f j + cols j
theorem w46 {σ : Mem} {w : Nat} {x : Int} (hr : inR (vI σ 46 w + x)) : vI (wI σ 46 w (oI (vI σ 46 w + x))) 46 = fun k => if k = w then vI σ 46 k + x else vI σ 46 k := by
  funext k
  rw [vI_w]
  by_cases e : k = w
  · subst e; rw [if_pos ⟨rfl, rfl⟩, if_pos rfl, oI_to hr]
  · rw [if_neg (fun q => e q.2), if_neg e]
theorem m_path {σ0 : Mem} (hB : BFm a u c f φ σ0) (hfu : ∀ w, w < 25 → 0 ≤ f w ∧ f w ≤ u w ∧ u w ≤ 40) {rk : Nat → Nat} (hrk : ∀ v x, v < 10 → prM σ0 v = some x → rk x < rk v) {t : Nat} (ht : t < 5) (v2 : Int32) :
    ∀ (d step fu h : Nat) (σ : Mem) (vis : List Nat), step + d = 5 → 2 * d + 2 < fu → h < 5 → lbM σ0 (5 + h) < FRm → onch (prM σ0) (5 + t) (5 + h) → vis.Nodup → vis.length = step → (∀ y ∈ vis, y < 5 ∧ rk (5 + h) < rk y) →
      CARM u f σ0 t σ (fun _ => 0) (fun j => (if j = t then 1 else 0) - (if j = h then 1 else 0)) → (∀ i j, i < 5 → j < 5 → rk i < rk (5 + h) → rk (5 + j) ≤ rk (5 + h) → vI σ 46 (5 * i + j) = f (5 * i + j)) →
      ∃ (σ' : Mem) (i0 : Nat), fX3_carryOne_205 fu v2 (nI (5 + h)) σ = fX3_carryOne_276 v2 σ' ∧ i0 < 5 ∧ onch (prM σ0) (5 + t) i0 ∧ prM σ0 i0 = none ∧ CARM u f σ0 t σ' (fun i => if i = i0 then 1 else 0) (fun j => if j = t then 1 else 0) := by
  intro d
  induction d with
  | zero =>
    intro step fu h σ vis h1 h2 hh hf hon v1 v2 v3 hC hU
    exfalso
    obtain ⟨i, hi, e1, e2, e3, e4⟩ := prm_hole hB hh hf
    have hr := hrk _ _ (by omega) e2
    have h9 := nodup_len 5 (i :: vis) (List.nodup_cons.mpr ⟨fun q => by have := (v3 i q).2; omega, v1⟩) (fun y hy => by
      rcases List.mem_cons.mp hy with rfl | hy
      · exact hi
      · exact (v3 y hy).1)
    rw [List.length_cons] at h9
    omega
  | succ d ih =>
    intro step fu h σ vis h1 h2 hh hf hon v1 v2' v3 hC hU
    obtain ⟨fu, rfl⟩ : ∃ q, fu = q + 2 := ⟨fu - 2, by omega⟩
    obtain ⟨i, hi, e1, e2, e3, e4⟩ := prm_hole hB hh hf
    have hr := hrk _ _ (by omega) e2
    obtain ⟨⟨c1, c1'⟩, c2, c3, c4, c5⟩ := hC
    have c4 : ∀ i, i < 5 → rowS (vI σ 46) i = rowS f i := fun i hi => by
      have h := c4 i hi
      dsimp only at h
      omega
    have honi : onch (prM σ0) (5 + t) i := onch_next hon e2
    have eg : vI σ 46 (5 * i + h) = f (5 * i + h) := hU i h hi hh hr (Nat.le_refl _)
    have b0 := hfu (5 * i + h) (by omega)
    have e48 : ∀ v, vI σ 48 v = vI σ0 48 v := fun v => by unfold vI rI; rw [c1 48 (by omega)]
    have hr1 : inR (vI σ 46 (5 * i + h) + 1) := by unfold inR; omega
    have g1 := w46 (σ := σ) (w := 5 * i + h) hr1
    have hneg : ∀ k : Nat, k < 1000 → ¬ (nI k = -1) := fun k hk => nI_neg1 (by omega)
    have er : rI σ 48 (5 + h) = nI i := nI_eqI _ (by show vI σ 48 (5 + h) = _; rw [e48]; exact e1)
    have hs1 : fX3_carryOne_205 (fu + 2) v2 (nI (5 + h)) σ = fX3_carryOne_205 (fu + 1) v2 (nI i) (wI σ 46 (5 * i + h) (oI (vI σ 46 (5 * i + h) + 1))) := by
      show fX3_carryOne_205b _ _ _ _ = _
      unfold fX3_carryOne_205b fX3_carryOne_256 fX3_carryOne_268 ltI ltM
      rw [if_neg (hneg _ (by omega)), inb_n (show 5 + h < 10 by omega) (by omega), grd_t, ix_n (n := 5 + h) (by omega), er, if_neg (hneg _ (by omega)), grd_t]
      dsimp only
      have hge : ¬ nI (5 + h) < 5 := by rw [ltI', nI_t (by omega), I_5]; omega
      rw [if_neg hge, way_m5 i h (by omega), inb_n (show 5 * i + h < 25 by omega) (by omega), grd_t, if_neg hge, grd_t, ix_n (n := 5 * i + h) (by omega), oI_v]
      have : (1 : Int32) = oI 1 := rfl
      rw [this, oI_add]
    have hM1 : ∀ i' j, i' < 5 → j < 5 → vI (wI σ 46 (5 * i + h) (oI (vI σ 46 (5 * i + h) + 1))) 46 (5 * i' + j) = f (5 * i' + j) ∨ (onch (prM σ0) (5 + t) (5 + j) ∧ prM σ0 (5 + j) = some i') ∨ (onch (prM σ0) (5 + t) i' ∧ prM σ0 i' = some (5 + j)) := by
      intro i' j hi' hj
      rw [g1]
      dsimp only
      by_cases e : 5 * i' + j = 5 * i + h
      · have e5 : i' = i := by omega
        have e6 : j = h := by omega
        subst e5; subst e6
        exact Or.inr (Or.inl ⟨hon, e2⟩)
      · rw [if_neg e]; exact c3 i' j hi' hj
    have hrow1 : ∀ k, k < 5 → rowS (vI (wI σ 46 (5 * i + h) (oI (vI σ 46 (5 * i + h) + 1))) 46) k = rowS f k + (if k = i then 1 else 0) := by
      intro k hk
      rw [g1, rowS_upd hh hk hi, c4 k hk]
    have hcol1 : ∀ k, k < 5 → colS (vI (wI σ 46 (5 * i + h) (oI (vI σ 46 (5 * i + h) + 1))) 46) k = colS f k + (if k = t then 1 else 0) := by
      intro k hk
      rw [g1, colS_upd hh hi hk, c5 k hk]
      dsimp only
      split <;> split <;> omega
    have hbd1 : ∀ w, w < 25 → 0 ≤ vI (wI σ 46 (5 * i + h) (oI (vI σ 46 (5 * i + h) + 1))) 46 w ∧ vI (wI σ 46 (5 * i + h) (oI (vI σ 46 (5 * i + h) + 1))) 46 w ≤ u w := by
      intro w hw
      rw [g1]
      dsimp only
      have := c2 w hw
      by_cases e : w = 5 * i + h
      · subst e; rw [if_pos rfl]; omega
      · rw [if_neg e]; omega
    have hfr1 : ∀ k, k ≠ 46 → (wI σ 46 (5 * i + h) (oI (vI σ 46 (5 * i + h) + 1))).1 k = σ0.1 k := fun k hk => (wI_ne σ _ _ hk).1.trans (c1 k hk)
    rw [hs1]
    generalize hσ1 : wI σ 46 (5 * i + h) (oI (vI σ 46 (5 * i + h) + 1)) = σ1 at *
    have hfr2 : σ1.2 = σ0.2 := by rw [← hσ1]; exact c1'
    have e48' : ∀ v, vI σ1 48 v = vI σ0 48 v := fun v => by unfold vI rI; rw [hfr1 48 (by omega)]
    rcases prm_heap hB hi e3 with ⟨q1, q2, q3⟩ | ⟨j, hj, q1, q2, q3, q4⟩
    · refine ⟨σ1, i, ?_, hi, honi, q2, ⟨hfr1, hfr2⟩, hbd1, hM1, hrow1, hcol1⟩
      show fX3_carryOne_205b _ _ _ _ = _
      unfold fX3_carryOne_205b
      rw [if_neg (hneg _ (by omega)), inb_n (show i < 10 by omega) (by omega), grd_t, ix_n (n := i) (by omega), if_pos ((vIe I_m1).mpr (by rw [e48']; exact q1))]
    · have hr2 := hrk _ _ (by omega) q2
      have hjh : j ≠ h := by intro e; subst e; omega
      have eg2 : vI σ1 46 (5 * i + j) = f (5 * i + j) := by
        rw [g1]
        dsimp only
        rw [if_neg (by omega)]
        exact hU i j hi hj hr (by omega)
      have bj := hfu (5 * i + j) (by omega)
      have er2 : rI σ1 48 i = nI (5 + j) := nI_eqI _ (by show vI σ1 48 i = _; rw [e48']; exact q1)
      have hr3 : inR (vI σ1 46 (5 * i + j) + -1) := by unfold inR; omega
      have g2 := w46 (σ := σ1) (w := 5 * i + j) hr3
      have hs2 : fX3_carryOne_205 (fu + 1) v2 (nI i) σ1 = fX3_carryOne_205 fu v2 (nI (5 + j)) (wI σ1 46 (5 * i + j) (oI (vI σ1 46 (5 * i + j) + -1))) := by
        show fX3_carryOne_205b _ _ _ _ = _
        unfold fX3_carryOne_205b fX3_carryOne_256 fX3_carryOne_268 ltI ltM
        rw [if_neg (hneg _ (by omega)), inb_n (show i < 10 by omega) (by omega), grd_t, ix_n (n := i) (by omega), er2, if_neg (hneg _ (by omega)), grd_t]
        dsimp only
        have hlt : nI i < 5 := by rw [ltI', nI_t (by omega), I_5]; omega
        rw [if_pos hlt, way_m5 i j (by omega), inb_n (show 5 * i + j < 25 by omega) (by omega), grd_t, if_pos hlt, grd_t, ix_n (n := 5 * i + j) (by omega), oI_v]
        have : (-1 : Int32) = oI (-1) := by decide
        rw [this, oI_add]
      rw [hs2]
      refine ih (step + 1) fu j _ (i :: vis) (by omega) (by omega) hj q3 (onch_next honi q2) (List.nodup_cons.mpr ⟨fun q => by have := (v3 i q).2; omega, v1⟩) (by rw [List.length_cons, v2']) (fun y hy => by
        rcases List.mem_cons.mp hy with rfl | hy
        · exact ⟨hi, hr2⟩
        · have := v3 y hy; omega) ⟨⟨fun k hk => (wI_ne σ1 _ _ hk).1.trans (hfr1 k hk), hfr2⟩, ?_, ?_, ?_, ?_⟩ ?_
      · intro w hw
        rw [g2]
        dsimp only
        have := hbd1 w hw
        by_cases e : w = 5 * i + j
        · subst e; rw [if_pos rfl]; omega
        · rw [if_neg e]; omega
      · intro i' j' hi' hj'
        rw [g2]
        dsimp only
        by_cases e : 5 * i' + j' = 5 * i + j
        · have e5 : i' = i := by omega
          have e6 : j' = j := by omega
          subst e5; subst e6
          exact Or.inr (Or.inr ⟨honi, q2⟩)
        · rw [if_neg e]; exact hM1 i' j' hi' hj'
      · intro k hk
        dsimp only
        have hx := rowS_upd (g := vI σ1 46) (x := -1) hj hk hi
        rw [g2, hx, hrow1 k hk]
        split <;> omega
      · intro k hk
        dsimp only
        have hx := colS_upd (g := vI σ1 46) (x := -1) hj hi hk
        rw [g2, hx, hcol1 k hk]
        split <;> split <;> omega
      · intro i' j' hi' hj' r1 r2
        rw [g2, g1]
        have e5 : i' ≠ i := by intro e; subst e; omega
        dsimp only
        rw [if_neg (by omega), if_neg (by omega)]
        exact hU i' j' hi' hj' (by omega) (by omega)
end BESTM
