/-! Values that are one: least costs, first plans; prices, tolls, the proof. -/
abbrev oI (z : Int) : Int32 := Int32.ofInt z
theorem oI_t (x : Int32) : oI x.toInt = x := Int32.ofInt_toInt x
theorem oI_e {x : Int32} {z : Int} (h : x.toInt = z) : x = oI z := by rw [← h, oI_t]
theorem oI_add (x y : Int) : oI x + oI y = oI (x + y) := (Int32.ofInt_add x y).symm
theorem oI_sub (x y : Int) : oI x - oI y = oI (x - y) := (Int32.ofInt_sub x y).symm
theorem oI_mul (x y : Int) : oI x * oI y = oI (x * y) := (Int32.ofInt_mul x y).symm
theorem oI_neg (x : Int) : - oI x = oI (- x) := (Int32.ofInt_neg x).symm
theorem oI_to {z : Int} (h : inR z) : (oI z).toInt = z := by
  unfold inR at h
  exact Int32.toInt_ofInt_of_le (by omega) (by omega)
theorem oI_nat (n : Nat) : nI n = oI n := rfl
theorem oI_v (σ : Mem) (k i : Nat) : rI σ k i = oI (vI σ k i) := (oI_t _).symm
noncomputable def LV (a bb u un : Nat → Int) (lo mi : Int) : Int := Classical.epsilon (fun c => Lst a bb u un lo mi c)
theorem lv_of {a bb u un : Nat → Int} {lo mi c : Int} (h : Lst a bb u un lo mi c) : c = LV a bb u un lo mi := lst_uni h (Classical.epsilon_spec ⟨c, h⟩)
noncomputable def LF (a bb u un : Nat → Int) (lo mi : Int) : Nat → Int := Classical.epsilon (fun f => Lex a bb u un lo mi f)
theorem lf_of {a bb u un : Nat → Int} {lo mi : Int} {f : Nat → Int} (h : Lex a bb u un lo mi f) : ∀ w, w < 25 → f w = LF a bb u un lo mi w := fun w hw => lex_uni h (Classical.epsilon_spec ⟨f, h⟩) 25 w hw hw
noncomputable def lv (σ : Mem) (n m : Nat) : Int := LV (aW σ n) (bW σ m) (uW σ n m) (unW σ n m) (vI σ 0 12) (vI σ 0 13)
noncomputable def lf (σ : Mem) (n m : Nat) : Nat → Int := LF (aW σ n) (bW σ m) (uW σ n m) (unW σ n m) (vI σ 0 12) (vI σ 0 13)
noncomputable def hPr (σ : Mem) (n m i : Nat) : Int := LV (fun k => if k = i then aW σ n k + 1 else aW σ n k) (bW σ m) (uW σ n m) (unW σ n m) (vI σ 0 12) (vI σ 0 13) - lv σ n m
noncomputable def jPr (σ : Mem) (n m j : Nat) : Int := lv σ n m - LV (aW σ n) (fun k => if k = j then bW σ m k - 1 else bW σ m k) (uW σ n m) (unW σ n m) (vI σ 0 12) (vI σ 0 13)
noncomputable def woF (σ : Mem) (n m w : Nat) : Int := LV (aW σ n) (bW σ m) (fun k => if k = w then 0 else uW σ n m k) (unW σ n m) (vI σ 0 12) (vI σ 0 13) - lv σ n m
def tlF (c P Q u : Int) : Int := if c = -1 then 0 else max 0 (P + Q - u)
noncomputable def tlW (σ : Mem) (n m i j : Nat) : Int := tlF (vI σ 8 (5 * i + j)) (hPr σ n m i) (jPr σ n m j) (unD σ i j)
section SDV
variable {σ σ' : Mem} {n m : Nat}
theorem sd_lv (h : SD σ σ') : lv σ' n m = lv σ n m := by
  unfold lv
  rw [sd_aW h, sd_bW h, sd_uW h, sd_unW h, sd_v0 h (by omega), sd_v0 h (by omega)]
theorem sd_lf (h : SD σ σ') : lf σ' n m = lf σ n m := by
  unfold lf
  rw [sd_aW h, sd_bW h, sd_uW h, sd_unW h, sd_v0 h (by omega), sd_v0 h (by omega)]
theorem sd_hPr (h : SD σ σ') (i : Nat) : hPr σ' n m i = hPr σ n m i := by
  unfold hPr
  rw [sd_lv h, sd_aW h, sd_bW h, sd_uW h, sd_unW h, sd_v0 h (by omega), sd_v0 h (by omega)]
theorem sd_jPr (h : SD σ σ') (i : Nat) : jPr σ' n m i = jPr σ n m i := by
  unfold jPr
  rw [sd_lv h, sd_aW h, sd_bW h, sd_uW h, sd_unW h, sd_v0 h (by omega), sd_v0 h (by omega)]
theorem sd_tlW (h : SD σ σ') (i j : Nat) : tlW σ' n m i j = tlW σ n m i j := by
  unfold tlW
  rw [sd_hPr h, sd_jPr h, sd_unD h, sd_vI h (by omega) (by omega)]
end SDV
section PRICES
variable {σ : Mem} {n m : Nat}
theorem v_least (hI : INV σ n m) : ∃ σ', fX2_least σ = some (oI (lv σ n m), σ') ∧ SQ σ σ' ∧ INV σ' n m := by
  obtain ⟨z, σ', e, s, I, h⟩ := s_least hI
  exact ⟨σ', by rw [e, oI_e (lv_of h)]; rfl, s, I⟩
theorem v_carried {x y : Int32} (hI : INV σ n m) : (¬ okW n m x y ∧ fX2_carried x y σ = some (Sum.inr 0, σ)) ∨ (okW n m x y ∧ ∃ σ', fX2_carried x y σ = some (Sum.inl (oI (lf σ n m (5 * ix x + ix y))), σ') ∧ SQ σ σ' ∧ INV σ' n m) := by
  rcases s_carried (x := x) (y := y) hI with h | ⟨h, z, σ', f, e, s, I, hL, hz⟩
  · exact Or.inl h
  · have h5 := hI.1.1
    have hw : 5 * ix x + ix y < 25 := by
      obtain ⟨i, hi, rfl⟩ := nI_ex h.1
      obtain ⟨j, hj, rfl⟩ := nI_ex h.2
      rw [ix_n (n := i) (by omega), ix_n (n := j) (by omega)]
      omega
    rw [lf_of hL _ hw] at hz
    exact Or.inr ⟨h, σ', by rw [e, oI_e hz]; rfl, s, I⟩
theorem row_congr {f g : Nat → Int} (h : ∀ w, w < 25 → f w = g w) {i : Nat} (hi : i < 5) : rowS f i = rowS g i := sm_congr (fun j _ => h _ (by omega))
theorem col_congr {f g : Nat → Int} (h : ∀ w, w < 25 → f w = g w) {j : Nat} (hj : j < 5) : colS f j = colS g j := sm_congr (fun i _ => h _ (by omega))
theorem v_left {v x : Int32} (hI : INV σ n m) : (¬ okN n m v x ∧ fX2_left v x σ = some (Sum.inr 0, σ)) ∨ (okN n m v x ∧ ∃ σ', fX2_left v x σ = some (Sum.inl (oI (if v = 0 then aW σ n (ix x) - rowS (lf σ n m) (ix x) else bW σ m (ix x) - colS (lf σ n m) (ix x))), σ') ∧ SQ σ σ' ∧ INV σ' n m) := by
  rcases s_left (v := v) (x := x) hI with h | ⟨h, z, σ', f, e, s, I, hL, hz⟩
  · exact Or.inl h
  · have h5 := hI.1.1
    have hw : ix x < 5 := by
      have h6 : szOf n m v ≤ 5 := by unfold szOf; split <;> omega
      obtain ⟨i, hi, rfl⟩ := nI_ex h
      rw [ix_n (n := i) (by omega)]
      omega
    rw [row_congr (lf_of hL) hw, col_congr (lf_of hL) hw] at hz
    exact Or.inr ⟨h, σ', by rw [e, oI_e hz]; rfl, s, I⟩
theorem v_without {x y : Int32} (hI : INV σ n m) : (¬ okW n m x y ∧ fX2_without x y σ = some (Sum.inr 0, σ)) ∨ (okW n m x y ∧ ∃ σ', fX2_without x y σ = some (Sum.inl (oI (woF σ n m (5 * ix x + ix y))), σ') ∧ SQ σ σ' ∧ INV σ' n m) := by
  rcases s_without (x := x) (y := y) hI with h | ⟨h, z, σ', e, s, I, c, c', h1, h2, hz⟩
  · exact Or.inl h
  · rw [lv_of h1, lv_of h2] at hz
    exact Or.inr ⟨h, σ', by rw [e, oI_e hz]; rfl, s, I⟩
theorem v_heapPrice {i : Nat} (hI : INV σ n m) (hi : i < n) : ∃ σ', fX2_heapPrice (nI i) σ = some (oI (hPr σ n m i), σ') ∧ SQ σ σ' ∧ INV σ' n m ∧ (-200000000 ≤ hPr σ n m i ∧ hPr σ n m i ≤ 200000000) := by
  obtain ⟨z, σ', e, s, I, hb, c, c', h1, h2, hz⟩ := s_heapPrice hI hi
  rw [lv_of h1, lv_of h2] at hz
  have hz : z.toInt = hPr σ n m i := hz
  exact ⟨σ', by rw [e, oI_e hz], s, I, by rw [← hz]; exact hb⟩
theorem v_holePrice {i : Nat} (hI : INV σ n m) (hi : i < m) : ∃ σ', fX2_holePrice (nI i) σ = some (oI (jPr σ n m i), σ') ∧ SQ σ σ' ∧ INV σ' n m ∧ (-200000000 ≤ jPr σ n m i ∧ jPr σ n m i ≤ 200000000) := by
  obtain ⟨z, σ', e, s, I, hb, c, c', h1, h2, hz⟩ := s_holePrice hI hi
  rw [lv_of h1, lv_of h2] at hz
  have hz : z.toInt = jPr σ n m i := by unfold jPr lv; omega
  exact ⟨σ', by rw [e, oI_e hz], s, I, by rw [← hz]; exact hb⟩
theorem v_price {v x : Int32} (hI : INV σ n m) : (¬ okN n m v x ∧ fX2_price v x σ = some (Sum.inr 0, σ)) ∨ (okN n m v x ∧ ∃ σ', fX2_price v x σ = some (Sum.inl (oI (if v = 0 then hPr σ n m (ix x) else jPr σ n m (ix x))), σ') ∧ SQ σ σ' ∧ INV σ' n m) := by
  unfold fX2_price fX2_price_e fX2_price_23
  rw [s_checkNumber hI.1]
  by_cases h1 : 0 ≤ x.toInt ∧ x.toInt < szOf n m v
  · rw [if_pos h1, bndX_l]
    have h5 := hI.1.1
    have hh := h1
    unfold szOf at hh
    by_cases hv : v = 0
    · rw [if_pos hv] at hh
      obtain ⟨i, hi, rfl⟩ := nI_ex hh
      obtain ⟨σ', e, s, I, -⟩ := v_heapPrice hI hi
      rw [if_pos hv, e, bnd_s, ix_n (n := i) (by omega)]
      exact Or.inr ⟨h1, σ', by rw [if_pos hv], s, I⟩
    · rw [if_neg hv] at hh
      obtain ⟨i, hi, rfl⟩ := nI_ex hh
      obtain ⟨σ', e, s, I, -⟩ := v_holePrice hI hi
      rw [if_neg hv, e, bnd_s, ix_n (n := i) (by omega)]
      exact Or.inr ⟨h1, σ', by rw [if_neg hv], s, I⟩
  · rw [if_neg h1, bndX_r]
    exact Or.inl ⟨h1, rfl⟩
theorem mxI_t (x y : Int32) : (mxI x y).toInt = max x.toInt y.toInt := by
  unfold mxI
  split
  · rename_i h; rw [ltI'] at h; omega
  · rename_i h; rw [ltI'] at h; omega
theorem v_tollOf {i j : Nat} {P Q : Int} (hD : DAT σ n m) (hi : i < n) (hj : j < m) (hP : -200000000 ≤ P ∧ P ≤ 200000000) (hQ : -200000000 ≤ Q ∧ Q ≤ 200000000) : fX2_tollOf (nI i) (nI j) (oI P) (oI Q) σ = some (oI (tlF (vI σ 8 (5 * i + j)) P Q (unD σ i j)), σ) := by
  have h5 := hD.1
  unfold fX2_tollOf fX2_tollOf_e tlF
  rw [s_wayOf, bnd_s, inb_n (show 5 * i + j < 25 by omega) (by omega), grd_t, ix_n (n := 5 * i + j) (by omega)]
  by_cases h : vI σ 8 (5 * i + j) = -1
  · rw [if_pos ((vIe I_m1).mpr h), if_pos h]; rfl
  · obtain ⟨z, e, hz⟩ := s_unitCost hD hi hj
    have hb := unD_bd hD hi hj
    rw [if_neg (fun e => h ((vIe I_m1).mp e)), if_neg h, e, bnd_s, oI_e hz, oI_add, oI_sub]
    have : mxI 0 (oI (P + Q - unD σ i j)) = oI (max 0 (P + Q - unD σ i j)) := oI_e (by rw [mxI_t, I_0, oI_to (by unfold inR; omega)])
    rw [this]
theorem v_toll {x y : Int32} (hI : INV σ n m) : (¬ okW n m x y ∧ fX2_toll x y σ = some (Sum.inr 0, σ)) ∨ (okW n m x y ∧ ∃ σ', fX2_toll x y σ = some (Sum.inl (oI (tlW σ n m (ix x) (ix y))), σ') ∧ SQ σ σ' ∧ INV σ' n m) := by
  unfold fX2_toll fX2_toll_e
  rw [s_checkWay hI.1]
  by_cases h1 : (0 ≤ x.toInt ∧ x.toInt < n) ∧ 0 ≤ y.toInt ∧ y.toInt < m
  · rw [if_pos h1, bndX_l]
    have h5 := hI.1.1
    obtain ⟨i, hi, rfl⟩ := nI_ex h1.1
    obtain ⟨j, hj, rfl⟩ := nI_ex h1.2
    obtain ⟨σ1, e1, s1, I1, b1⟩ := v_heapPrice hI hi
    obtain ⟨σ2, e2, s2, I2, b2⟩ := v_holePrice I1 hj
    rw [sd_jPr (sq_sd s1)] at e2 b2
    have s12 := s1.tr s2
    have e3 := v_tollOf I2.1 hi hj b1 b2
    rw [sd_unD (sq_sd s12), sd_vI (sq_sd s12) (by omega) (by omega)] at e3
    rw [e1, bnd_s, e2, bnd_s, e3, bnd_s]
    refine Or.inr ⟨h1, σ2, ?_, s12, I2⟩
    rw [ix_n (n := i) (by omega), ix_n (n := j) (by omega)]
    rfl
  · rw [if_neg h1, bndX_r]
    exact Or.inl ⟨h1, rfl⟩
end PRICES
/-- like SQ, but for the scratch rows -/
def SR (σ σ' : Mem) : Prop := (∀ k, 1 ≤ k → k ≤ 9 ∨ 35 ≤ k ∧ k < 35 → σ'.1 k = σ.1 k ∧ σ'.2 k = σ.2 k) ∧ ∀ i, i ≠ 14 → rI σ' 0 i = rI σ 0 i
theorem SR.rf {σ : Mem} : SR σ σ := ⟨fun _ _ _ => ⟨rfl, rfl⟩, fun _ _ => rfl⟩
theorem SR.tr {σ σ1 σ2 : Mem} (h1 : SR σ σ1) (h2 : SR σ1 σ2) : SR σ σ2 := ⟨fun k a c => ⟨(h2.1 k a c).1.trans (h1.1 k a c).1, (h2.1 k a c).2.trans (h1.1 k a c).2⟩, fun i a => (h2.2 i a).trans (h1.2 i a)⟩
theorem sq_sr {σ σ' : Mem} (h : SQ σ σ') : SR σ σ' := ⟨fun k h1 h2 => h.1 k h1 (by omega), h.2⟩
theorem sr_sd {σ σ' : Mem} (h : SR σ σ') : SD σ σ' := ⟨fun k h1 h2 => (h.1 k h1 (by omega)).1, h.2⟩
theorem w_sr {σ : Mem} {k i : Nat} {v : Int32} (h : 10 ≤ k ∧ k < 35) : SR σ (wI σ k i v) := ⟨fun k' h1 h2 => ⟨(wI_ne σ i v (by omega)).1, rfl⟩, fun i' _ => by rw [rI_w, if_neg (by omega)]⟩
theorem inv_sr {σ σ' : Mem} {n m : Nat} (h : SR σ σ') (h13 : ∀ k, 13 ≤ k → k ≤ 23 → σ'.1 k = σ.1 k ∧ σ'.2 k = σ.2 k) (h14 : vI σ' 0 14 = vI σ 0 14) (hI : INV σ n m) : INV σ' n m := by
  have sd3 := sr_sd h
  refine ⟨sd_dat sd3 hI.1, ?_⟩
  rw [h14, sd_aW sd3, sd_bW sd3, sd_uW sd3, sd_unW sd3, sd_v0 sd3 (by omega), sd_v0 sd3 (by omega)]
  rcases hI.2 with h0 | ⟨h1, hB⟩
  · exact Or.inl h0
  · exact Or.inr ⟨h1, plan_eq (fun k h1 h2 => h13 k h1 h2) hB⟩
theorem inv_w {σ : Mem} {n m k i : Nat} {v : Int32} (h : 10 ≤ k ∧ k < 13) (hI : INV σ n m) : INV (wI σ k i v) n m := inv_sr (w_sr (by omega)) (fun k' h1 h2 => ⟨(wI_ne σ i v (by omega)).1, rfl⟩) (vI_wne (by omega)) hI
