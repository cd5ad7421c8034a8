/-! What the carrier answers of its plans. -/
def okN (n m : Nat) (v x : Int32) : Prop := 0 ≤ x.toInt ∧ x.toInt < szOf n m v
def okW (n m : Nat) (x y : Int32) : Prop := (0 ≤ x.toInt ∧ x.toInt < n) ∧ 0 ≤ y.toInt ∧ y.toInt < m
section ASK
variable {σ : Mem} {n m : Nat}
theorem s_least (hI : INV σ n m) : ∃ z σ', fX2_least σ = some (z, σ') ∧ SQ σ σ' ∧ INV σ' n m ∧ Lst (aW σ n) (bW σ m) (uW σ n m) (unW σ n m) (vI σ 0 12) (vI σ 0 13) z.toInt := by
  obtain ⟨σ', e1, s1, I1, P1, p, q, C1⟩ := s_planned hI
  unfold fX2_least fX2_least_e
  rw [e1, bnd_s, show decide (13 = 13) = true by decide, grd_t]
  exact ⟨_, σ', rfl, s1, I1, (best_of P1 C1).1⟩
theorem s_carried {x y : Int32} (hI : INV σ n m) : (¬ okW n m x y ∧ fX2_carried x y σ = some (Sum.inr 0, σ)) ∨ (okW n m x y ∧ ∃ z σ' f, fX2_carried x y σ = some (Sum.inl z, σ') ∧ SQ σ σ' ∧ INV σ' n m ∧ Lex (aW σ n) (bW σ m) (uW σ n m) (unW σ n m) (vI σ 0 12) (vI σ 0 13) f ∧ z.toInt = f (5 * ix x + ix y)) := by
  unfold fX2_carried fX2_carried_e
  rw [s_checkWay hI.1]
  by_cases h1 : (0 ≤ x.toInt ∧ x.toInt < n) ∧ 0 ≤ y.toInt ∧ y.toInt < m
  · rw [if_pos h1, bndX_l]
    have h5 := hI.1.1
    obtain ⟨i, hi, rfl⟩ := nI_ex h1.1
    obtain ⟨j, hj, rfl⟩ := nI_ex h1.2
    obtain ⟨σ', e1, s1, I1, P1, p, q, C1⟩ := s_planned hI
    rw [e1, bnd_s, show decide (13 = 13) = true by decide, grd_t, s_wayOf, bnd_s, inb_n (show 5 * i + j < 25 by omega) (by omega), grd_t, ix_n (n := 5 * i + j) (by omega)]
    refine Or.inr ⟨h1, _, σ', fl 13 σ', rfl, s1, I1, (best_of P1 C1).2, ?_⟩
    rw [ix_n (n := i) (by omega), ix_n (n := j) (by omega)]
    rfl
  · rw [if_neg h1, bndX_r]
    exact Or.inl ⟨h1, rfl⟩
theorem s_left {v x : Int32} (hI : INV σ n m) : (¬ okN n m v x ∧ fX2_left v x σ = some (Sum.inr 0, σ)) ∨ (okN n m v x ∧ ∃ z σ' f, fX2_left v x σ = some (Sum.inl z, σ') ∧ SQ σ σ' ∧ INV σ' n m ∧ Lex (aW σ n) (bW σ m) (uW σ n m) (unW σ n m) (vI σ 0 12) (vI σ 0 13) f ∧ z.toInt = if v = 0 then aW σ n (ix x) - rowS f (ix x) else bW σ m (ix x) - colS f (ix x)) := by
  unfold fX2_left fX2_left_e fX2_left_31
  rw [s_checkNumber hI.1]
  by_cases h1 : 0 ≤ x.toInt ∧ x.toInt < szOf n m v
  · rw [if_pos h1, bndX_l]
    have h5 := hI.1.1
    have h6 : szOf n m v ≤ 5 := by unfold szOf; split <;> omega
    obtain ⟨i, hi, rfl⟩ := nI_ex h1
    obtain ⟨σ', e1, s1, I1, P1, p, q, C1⟩ := s_planned hI
    rw [e1, ix_n (n := i) (by omega)]
    by_cases hv : v = 0
    · rw [if_pos hv, bnd_s, show decide (13 = 13) = true by decide, grd_t, inb_n (show i < 5 by omega) (by omega), grd_t]
      exact Or.inr ⟨h1, _, σ', fl 13 σ', rfl, s1, I1, (best_of P1 C1).2, by rw [if_pos hv]; exact (P1.2.2.1 i (by omega)).1⟩
    · rw [if_neg hv, bnd_s, show decide (13 = 13) = true by decide, grd_t, inb_n (show i < 5 by omega) (by omega), grd_t]
      exact Or.inr ⟨h1, _, σ', fl 13 σ', rfl, s1, I1, (best_of P1 C1).2, by rw [if_neg hv]; exact (P1.2.2.2.1 i (by omega)).1⟩
  · rw [if_neg h1, bndX_r]
    exact Or.inl ⟨h1, rfl⟩
/-- a difference of two least costs -/
def DLst (a bb u un : Nat → Int) (a' bb' u' : Nat → Int) (lo mi z : Int) : Prop := ∃ c c', Lst a bb u un lo mi c ∧ Lst a' bb' u' un lo mi c' ∧ z = c' - c
theorem dlst_uni {a bb u un a' bb' u' : Nat → Int} {lo mi z z' : Int} (h : DLst a bb u un a' bb' u' lo mi z) (h' : DLst a bb u un a' bb' u' lo mi z') : z = z' := by
  obtain ⟨c, d, h1, h2, h3⟩ := h
  obtain ⟨c', d', h1', h2', h3'⟩ := h'
  have := lst_uni h1 h1'
  have := lst_uni h2 h2'
  omega
theorem lay_close {b : Nat} {σ : Mem} {a bb u un : Nat → Int} {lo mi : Int} {w : Nat} (h : LAY b σ a bb u un lo mi) : LAY b (wI σ (b + 4) w 0) a bb (fun k => if k = w then 0 else u k) un lo mi := by
  obtain ⟨h1, h2, h3, h4, h5, h6, h7, h8⟩ := h
  have hb24 := opx_24 h8
  refine ⟨fun k hk => ?_, fun j hj => ?_, fun k hk => ?_, fun k hk => ⟨?_, fun hpos => ?_⟩, ?_, ?_, ?_, opx_mono (fun v hv hp => by by_cases e : v = w <;> simp [e] at hp <;> exact hp) (opx_keep (by rw [vI_wne (by omega)]) (fun k => by rw [vI_wne (by omega)]) h8)⟩
  · rw [vI_wne (by omega)]; exact h1 k hk
  · rw [vI_wne (by omega)]; exact h2 j hj
  · unfold fl
    rw [vI_wne (by omega)]; exact h3 k hk
  · show _ = if k = w then 0 else u k
    rw [vI_w]
    by_cases e : k = w
    · rw [if_pos ⟨rfl, e⟩, if_pos e]; decide
    · rw [if_neg (fun q => e q.2), if_neg e]; exact (h4 k hk).1
  · have hpos : 0 < if k = w then 0 else u k := hpos
    by_cases e : k = w
    · rw [if_pos e] at hpos; omega
    · rw [if_neg e] at hpos
      rw [vI_wne (by omega), vJ_wI]
      exact (h4 k hk).2 hpos
  · rw [vI_wne (by omega)]; exact h5
  · rw [vI_wne (by omega)]; exact h6
  · rw [vI_wne (by omega)]; exact h7
theorem s_without {x y : Int32} (hI : INV σ n m) : (¬ okW n m x y ∧ fX2_without x y σ = some (Sum.inr 0, σ)) ∨ (okW n m x y ∧ ∃ z σ', fX2_without x y σ = some (Sum.inl z, σ') ∧ SQ σ σ' ∧ INV σ' n m ∧ DLst (aW σ n) (bW σ m) (uW σ n m) (unW σ n m) (aW σ n) (bW σ m) (fun k => if k = 5 * ix x + ix y then 0 else uW σ n m k) (vI σ 0 12) (vI σ 0 13) z.toInt) := by
  unfold fX2_without fX2_without_e
  rw [s_checkWay hI.1]
  by_cases h1 : (0 ≤ x.toInt ∧ x.toInt < n) ∧ 0 ≤ y.toInt ∧ y.toInt < m
  · rw [if_pos h1, bndX_l]
    have hD := hI.1
    have h5 := hD.1
    obtain ⟨i, hi, rfl⟩ := nI_ex h1.1
    obtain ⟨j, hj, rfl⟩ := nI_ex h1.2
    obtain ⟨σ1, e1, s1, L1⟩ := s_layOut (b := 24) rfl hD
    have L2 := lay_close (w := 5 * i + j) L1
    obtain ⟨σ2, σ3, e2, e3, s3, I3, h24, K1, K2, b1, b2⟩ := other_cost (σ := wI σ1 (24 + 4) (5 * i + j) 0) hI (s1.tr (wI_smi (by omega))) L2 (fun i hi => by have := aW_bd hD i hi; omega) (bW_bd hD) (fun k hk => by
      have := uW_bd hD k hk
      split <;> omega)
    rw [e1, bnd_s, s_wayOf, bnd_s, inb_n (show 5 * i + j < 25 by omega) (by omega), grd_t, ix_n (n := 5 * i + j) (by omega)]
    unfold ltM
    have e2' : fX0_improve 24 (wI σ1 28 (5 * i + j) 0) = some (0, σ2) := e2
    dsimp only
    rw [e2', bnd_s, e3, bnd_s, show decide (13 = 13) = true by decide, grd_t]
    refine Or.inr ⟨h1, _, σ3, rfl, s3, I3, vI σ3 13 4, vI σ2 24 4, K2, ?_, ?_⟩
    · rw [ix_n (n := i) (by omega), ix_n (n := j) (by omega)]; exact K1
    · rw [tI_sub]
      · rfl
      · unfold vI at b1 b2; unfold inR; omega
  · rw [if_neg h1, bndX_r]
    exact Or.inl ⟨h1, rfl⟩
theorem s_heapPrice {i : Nat} (hI : INV σ n m) (hi : i < n) : ∃ z σ', fX2_heapPrice (nI i) σ = some (z, σ') ∧ SQ σ σ' ∧ INV σ' n m ∧ (-200000000 ≤ z.toInt ∧ z.toInt ≤ 200000000) ∧ DLst (aW σ n) (bW σ m) (uW σ n m) (unW σ n m) (fun k => if k = i then aW σ n k + 1 else aW σ n k) (bW σ m) (uW σ n m) (vI σ 0 12) (vI σ 0 13) z.toInt := by
  have hD := hI.1
  have h5 := hD.1
  unfold fX2_heapPrice fX2_heapPrice_e
  obtain ⟨σ1, e1, s1, L1⟩ := s_layOut (b := 24) rfl hD
  obtain ⟨σ1', e1', s1', L2, -⟩ := s_letStay (i := i) (x := 1) L1 (by omega) hD.2.2.2.2.2.2.2.2 (by decide) (fun i hi => by have := aW_bd hD i hi; omega) (fun i hi => by have := bW_bd hD i hi; omega)
  obtain ⟨σ2, σ3, e2, e3, s3, I3, h24, K1, K2, b1, b2⟩ := other_cost (σ := σ1') hI (s1.tr s1') L2 (fun k hk => by
      have := aW_bd hD k hk
      have := I_1
      split <;> omega) (bW_bd hD) (uW_bd hD)
  rw [e1, bnd_s, e1', bnd_s, e2, bnd_s, e3, bnd_s, show decide (13 = 13) = true by decide, grd_t]
  have hz : (rI σ2 24 4 - rI σ3 13 4).toInt = vI σ2 24 4 - vI σ3 13 4 := by
    rw [tI_sub]
    · rfl
    · unfold vI at b1 b2; unfold inR; omega
  exact ⟨_, σ3, rfl, s3, I3, by rw [hz]; omega, _, _, K2, K1, hz⟩
theorem s_holePrice {i : Nat} (hI : INV σ n m) (hi : i < m) : ∃ z σ', fX2_holePrice (nI i) σ = some (z, σ') ∧ SQ σ σ' ∧ INV σ' n m ∧ (-200000000 ≤ z.toInt ∧ z.toInt ≤ 200000000) ∧ DLst (aW σ n) (bW σ m) (uW σ n m) (unW σ n m) (aW σ n) (fun k => if k = i then bW σ m k - 1 else bW σ m k) (uW σ n m) (vI σ 0 12) (vI σ 0 13) (- z.toInt) := by
  have hD := hI.1
  have h5 := hD.1
  unfold fX2_holePrice fX2_holePrice_e
  obtain ⟨σ1, e1, s1, L1⟩ := s_layOut (b := 24) rfl hD
  obtain ⟨σ1', e1', s1', L2, -⟩ := s_letLack (i := i) (x := -1) L1 (by omega) hD.2.2.2.2.2.2.2.2 (by decide) (fun i hi => by have := aW_bd hD i hi; omega) (fun i hi => by have := bW_bd hD i hi; omega)
  have hbi : 1 ≤ bW σ m i := by
    unfold bW
    rw [if_pos hi]
    exact (hD.2.2.1 i hi).2.2.1
  have L3 : LAY 24 σ1' (aW σ n) (fun k => if k = i then bW σ m k - 1 else bW σ m k) (uW σ n m) (unW σ n m) (vI σ 0 12) (vI σ 0 13) := lay_congr L2 (fun _ _ => rfl) (fun k _ => by rw [I_m1]; rfl) (fun _ _ => rfl)
  obtain ⟨σ2, σ3, e2, e3, s3, I3, h24, K1, K2, b1, b2⟩ := other_cost (σ := σ1') hI (s1.tr s1') L3 (fun i hi => by have := aW_bd hD i hi; omega) (fun k hk => by
      have := bW_bd hD k hk
      split
      · rename_i e; subst e; omega
      · omega) (uW_bd hD)
  rw [e1, bnd_s, e1', bnd_s, e2, bnd_s, e3, bnd_s, show decide (13 = 13) = true by decide, grd_t]
  have hz : (rI σ3 13 4 - rI σ3 24 4).toInt = vI σ3 13 4 - vI σ2 24 4 := by
    rw [tI_sub, ← h24]
    · rfl
    · rw [← h24] at b1; unfold vI at b1 b2; unfold inR; omega
  exact ⟨_, σ3, rfl, s3, I3, by rw [hz]; omega, _, _, K2, K1, by rw [hz]; omega⟩
end ASK
