/-! All plans tried: numbers of many digits. -/
def VX (B f : Nat → Int) : Nat → Int
  | 0 => 0
  | k + 1 => VX B f k * (B k + 1) + f k
def PXB (B : Nat → Int) : Nat → Int
  | 0 => 1
  | k + 1 => PXB B k * (B k + 1)
theorem px_pos {B : Nat → Int} : ∀ k, (∀ w, w < k → 0 ≤ B w) → 1 ≤ PXB B k
  | 0, _ => Int.le_refl _
  | k + 1, h => by
    have h1 := px_pos (B := B) k (fun w hw => h w (by omega))
    have h2 := h k (by omega)
    have h3 := Int.mul_le_mul_of_nonneg_left (a := 1) (b := B k + 1) (c := PXB B k) (by omega) (by omega)
    simp only [PXB]
    omega
theorem px_mono {B : Nat → Int} (d : Nat) : ∀ k, (∀ w, w < k + d → 0 ≤ B w) → PXB B k ≤ PXB B (k + d) := by
  induction d with
  | zero => intro k _; exact Int.le_refl _
  | succ d ih =>
    intro k h
    have h1 := ih k (fun w hw => h w (by omega))
    have h2 := px_pos (B := B) (k + d) (fun w hw => h w (by omega))
    have h3 := h (k + d) (by omega)
    have h4 := Int.mul_le_mul_of_nonneg_left (a := 1) (b := B (k + d) + 1) (c := PXB B (k + d)) (by omega) (by omega)
    show PXB B k ≤ PXB B (k + d) * (B (k + d) + 1)
    omega
theorem vx_bd {B f : Nat → Int} : ∀ k, (∀ w, w < k → 0 ≤ f w ∧ f w ≤ B w) → 0 ≤ VX B f k ∧ VX B f k + 1 ≤ PXB B k
  | 0, _ => ⟨Int.le_refl _, Int.le_refl _⟩
  | k + 1, h => by
    have h1 := vx_bd (B := B) (f := f) k (fun w hw => h w (by omega))
    have h2 := h k (by omega)
    have h3 : 0 ≤ VX B f k * (B k + 1) := Int.mul_nonneg h1.1 (by omega)
    have h4 := Int.mul_le_mul_of_nonneg_right (c := B k + 1) h1.2 (by omega)
    rw [Int.add_mul] at h4
    simp only [VX, PXB]
    omega
theorem vx_congr {B f g : Nat → Int} : ∀ k, (∀ w, w < k → g w = f w) → VX B g k = VX B f k
  | 0, _ => rfl
  | k + 1, h => by
    simp only [VX]
    rw [vx_congr k (fun w hw => h w (by omega)), h k (by omega)]
theorem vx_first {B f g : Nat → Int} {w0 : Nat} (hp : ∀ w, w < w0 → g w = f w) (hlt : f w0 < g w0) : ∀ k, w0 < k → (∀ w, w < k → 0 ≤ f w ∧ f w ≤ B w) → (∀ w, w < k → 0 ≤ g w ∧ g w ≤ B w) → VX B f k < VX B g k
  | 0, h, _, _ => absurd h (by omega)
  | k + 1, h, hf, hg => by
    simp only [VX]
    by_cases e : w0 = k
    · subst e
      rw [vx_congr w0 hp]
      omega
    · have h1 := vx_first (B := B) hp hlt k (by omega) (fun w hw => hf w (by omega)) (fun w hw => hg w (by omega))
      have h2 := hf k (by omega)
      have h3 := hg k (by omega)
      have h4 := Int.mul_le_mul_of_nonneg_right (a := VX B f k + 1) (b := VX B g k) (c := B k + 1) (by omega) (by omega)
      rw [Int.add_mul] at h4
      omega
theorem first_diff {f g : Nat → Int} : ∀ k, (∀ w, w < k → g w = f w) ∨ ∃ w0, w0 < k ∧ (∀ w, w < w0 → g w = f w) ∧ g w0 ≠ f w0
  | 0 => Or.inl (fun w h => absurd h (by omega))
  | k + 1 => by
    rcases first_diff (f := f) (g := g) k with h | ⟨w0, h1, h2, h3⟩
    · by_cases e : g k = f k
      · refine Or.inl (fun w hw => ?_)
        by_cases e2 : w = k
        · subst e2; exact e
        · exact h w (by omega)
      · exact Or.inr ⟨k, by omega, h, e⟩
    · exact Or.inr ⟨w0, by omega, h2, h3⟩
/-- how many units a way can have -/
def BD (a bb u : Nat → Int) (w : Nat) : Int := min (min (a (w / 5)) (bb (w % 5))) (u w)
theorem fea_bd {a bb u f : Nat → Int} (h : Fea a bb u f) : ∀ w, w < 25 → 0 ≤ f w ∧ f w ≤ BD a bb u w := by
  intro w hw
  have h1 := h.1 w hw
  have h2 := h.2.1 (w / 5) (by omega)
  have h3 := h.2.2 (w % 5) (by omega)
  have e : 5 * (w / 5) + w % 5 = w := by omega
  have r1 := sm_ge_one (n := 5) (k := w % 5) (g := fun j => f (5 * (w / 5) + j)) (by omega) (fun j hj => (h.1 _ (by omega)).1)
  have r2 := sm_ge_one (n := 5) (k := w / 5) (g := fun i => f (5 * i + w % 5)) (by omega) (fun i hi => (h.1 _ (by omega)).1)
  rw [e] at r1 r2
  unfold rowS at h2
  unfold colS at h3
  unfold BD
  omega
theorem cst_congr {a bb un f g : Nat → Int} {lo mi : Int} (h : ∀ w, w < 25 → f w = g w) : cst a bb un lo mi f = cst a bb un lo mi g := by
  unfold cst tot
  rw [sm_congr (fun i hi => sm_congr (fun j hj => ?_))]
  show (un (5 * i + j) - lo - mi) * f (5 * i + j) = (un (5 * i + j) - lo - mi) * g (5 * i + j)
  rw [h (5 * i + j) (by omega)]
theorem rI_same {σ : Mem} {k i : Nat} {v : Int32} (h : v = rI σ k i) : wI σ k i v = σ := by
  subst h
  unfold wI rI
  ext a j
  · simp only
    by_cases e : a = k
    · subst e
      simp only [if_true, upd]
      by_cases e2 : j = i
      · subst e2; simp
      · simp [e2]
    · simp [e]
  · rfl
theorem mvM_zero {b : Nat} {σ : Mem} {h j : Nat} : mvM b σ h j 0 = σ := by
  unfold mvM
  have z : ∀ x : Int32, (0 : Int32) * x = 0 := fun x => by
    rw [eqI, tI_mul] <;> simp [I_0, inR]
  have z1 : ∀ x : Int32, x + 0 = x := fun x => by
    have := tI_rng x
    rw [eqI, tI_add, I_0] <;> simp [I_0, this]
  have z2 : ∀ x : Int32, x - 0 = x := fun x => by
    have := tI_rng x
    rw [eqI, tI_sub, I_0] <;> simp [I_0, this]
  rw [z1, z2, z2, z2, z, z1, rI_same rfl, rI_same rfl, rI_same rfl, rI_same rfl, rI_same rfl]
section ANEW
variable {b : Nat} {a bb u un : Nat → Int} {lo mi : Int}
theorem plan_move {σ : Mem} {i j : Nat} {x : Int32} (hP : PLAN b σ a bb u un lo mi) (hi : i < 5) (hj : j < 5) (hx : -21 ≤ x.toInt ∧ x.toInt ≤ 21) (h1 : 0 ≤ fl b σ (5 * i + j) + x.toInt) (h2 : fl b σ (5 * i + j) + x.toInt ≤ u (5 * i + j)) (hu : 0 < u (5 * i + j)) (hs : 0 ≤ vI σ (b + 1) i - x.toInt) (hl : 0 ≤ vI σ (b + 2) j - x.toInt) :
    PLAN b (mvM b σ i j x) a bb u un lo mi ∧ fl b (mvM b σ i j x) = (fun w => if w = 5 * i + j then fl b σ w + x.toInt else fl b σ w) := by
  have hc := plan_cost hP
  have hr0 := plan_row0 hP hi
  have hc0 := plan_col0 hP hj
  obtain ⟨F, R, S, L, C⟩ := hP
  have hSi := S i hi
  have hLj := L j hj
  obtain ⟨F1, g1, st1, la1, co1⟩ := move_flow F hi hj hx h1 h2 hu (by omega) (by omega) (by omega)
  refine ⟨⟨F1, fun w hw h => by rw [smv_vJ mvM_smv]; exact R w hw h, fun k hk => ?_, fun k hk => ?_, ?_⟩, g1⟩
  · have := S k hk
    rw [st1 k, g1, rowS_upd hj hk hi]
    by_cases e : k = i
    · subst e; rw [if_pos rfl, if_pos rfl]; omega
    · rw [if_neg e, if_neg e]; omega
  · have := L k hk
    rw [la1 k, g1, colS_upd hj hi hk]
    by_cases e : k = j
    · subst e; rw [if_pos rfl, if_pos rfl]; omega
    · rw [if_neg e, if_neg e]; omega
  · rw [co1, g1, tot_upd hi hj, C]
    omega
/-- no plan beyond f first differs at a way from c on -/
def NOG (a bb u f : Nat → Int) (c : Nat) : Prop := ∀ g, Fea a bb u g → ∀ w1, c ≤ w1 → w1 < 25 → (∀ k, k < w1 → g k = f k) → g w1 ≤ f w1
theorem tn_loop {f0 : Nat → Int} {N : Nat} {op : Nat → Nat} (hf0 : ∀ w, w < 25 → 0 ≤ f0 w) : ∀ (k fu : Nat) (σ : Mem), k ≤ N → k < fu → PLAN b σ a bb u un lo mi → OPN b σ u N op → (∀ w, w < 25 → fl b σ w = if w < wat N op k then f0 w else 0) → NOG a bb u f0 (wat N op k) →
    ∃ (r : Int32) (σ' : Mem), fX0_turnToNext_7 fu b (oI ((k : Int) - 1)) σ = some (r, σ') ∧ SMI b σ σ' ∧ PLAN b σ' a bb u un lo mi ∧ OPX b σ' u ∧
      ((r = 1 ∧ ∃ w, w < 25 ∧ (∀ k, k < w → fl b σ' k = f0 k) ∧ fl b σ' w = f0 w + 1 ∧ (∀ k, w < k → k < 25 → fl b σ' k = 0) ∧ NOG a bb u f0 (w + 1)) ∨ (r = 0 ∧ NOG a bb u f0 0)) := by
  intro k
  induction k with
  | zero =>
    intro fu σ h1 h2 hP hO hf hN
    obtain ⟨fu, rfl⟩ : ∃ q, fu = q + 1 := ⟨fu - 1, by omega⟩
    refine ⟨0, σ, ?_, SMI.rf, hP, ⟨N, op, hO⟩, Or.inr ⟨rfl, fun g hg w1 h3 h4 h5 => ?_⟩⟩
    rotate_left
    · by_cases e : w1 < wat N op 0
      · have h6 := opn_gap hO (k := 0) (fun i hi => absurd hi (by omega)) e h4
        have := hg.1 w1 h4
        have := hf0 w1 h4
        omega
      · exact hN g hg w1 (by omega) h4 h5
    show fX0_turnToNext_7b _ _ _ _ = _
    unfold fX0_turnToNext_7b
    rw [if_pos (by decide)]
    rfl
  | succ k ih =>
    intro fu σ h1 h2 hP hO hf hN
    obtain ⟨fu, rfl⟩ : ∃ q, fu = q + 1 := ⟨fu - 1, by omega⟩
    have hkN : k < N := by omega
    have hN25 := hO.2.1
    obtain ⟨hc25, hopk⟩ := hO.2.2.2.1 k hkN
    obtain ⟨c, hck⟩ : ∃ c, c = op k := ⟨_, rfl⟩
    rw [← hck] at hc25 hopk
    have hop2 : rI σ (34 + b / 12) k = nI c := nI_eqI _ hopk
    have hwk : wat N op k = c := by rw [wat_t hkN, hck]
    have hgap : ∀ w, w < 25 → c < w → w < wat N op (k + 1) → ¬ 0 < u w := fun w hw h3 h4 => opn_gap1 hO hkN (by omega) h4 hw
    have hcl : c < wat N op (k + 1) := by
      by_cases e : k + 1 < N
      · rw [wat_t e, hck]; exact hO.2.2.2.2.1 k (k + 1) (by omega) e
      · unfold wat; rw [if_neg e]; exact hc25
    have hf : ∀ w, w < 25 → fl b σ w = if w < c + 1 then f0 w else 0 := fun w hw => by
      by_cases e : w < c + 1
      · rw [if_pos e, hf w hw, if_pos (by omega)]
      · rw [if_neg e]
        by_cases e2 : w < wat N op (k + 1)
        · have := hgap w hw (by omega) e2
          have := hP.1.1 w hw
          omega
        · rw [hf w hw, if_neg e2]
    have hN : NOG a bb u f0 (c + 1) := fun g hg w1 h3 h4 h5 => by
      by_cases e2 : w1 < wat N op (k + 1)
      · have := hgap w1 h4 (by omega) e2
        have := hg.1 w1 h4
        have := hf0 w1 h4
        omega
      · exact hN g hg w1 (by omega) h4 h5
    have hi : c / 5 < 5 := by omega
    have hj : c % 5 < 5 := by omega
    have hw : 5 * (c / 5) + c % 5 = c := by omega
    have hfc : fl b σ c = f0 c := by rw [hf c (by omega), if_pos (by omega)]
    have q0 := hP.1.1 c (by omega)
    have hS := hP.2.2.1 (c / 5) hi
    have hL := hP.2.2.2.1 (c % 5) hj
    have hvc : oI (((k + 1 : Nat) : Int) - 1) = nI k := by rw [oI_nat]; congr 1; omega
    have hvd : nI k + -1 = oI ((k : Int) - 1) := by
      have : (-1 : Int32) = oI (-1) := by decide
      rw [oI_nat, this, oI_add]
      congr 1
    have hneg : ∀ σ : Mem, ∀ r, fX0_turnToNext_65 r b (nI k) (nI c) (nI (c / 5)) (nI (c % 5)) σ = r b (oI ((k : Int) - 1)) (mvM b σ (c / 5) (c % 5) (-(rI σ (b + 3) c))) := fun σ r => by
      unfold fX0_turnToNext_65
      rw [inb_n (show c < 25 by omega) (by omega), grd_t, ix_n (n := c) (by omega), s_move hi hj, bnd_s, hvd]
    have hdef : fX0_turnToNext_7 (fu + 1) b (nI k) σ = if rI σ (b + 4) c ≤ 0 then fX0_turnToNext_7 fu b (oI ((k : Int) - 1)) (mvM b σ (c / 5) (c % 5) (-(rI σ (b + 3) c))) else if rI σ (b + 1) (c / 5) ≤ 0 then fX0_turnToNext_7 fu b (oI ((k : Int) - 1)) (mvM b σ (c / 5) (c % 5) (-(rI σ (b + 3) c))) else if rI σ (b + 2) (c % 5) ≤ 0 then fX0_turnToNext_7 fu b (oI ((k : Int) - 1)) (mvM b σ (c / 5) (c % 5) (-(rI σ (b + 3) c))) else some (1, mvM b σ (c / 5) (c % 5) 1) := by
      show fX0_turnToNext_7b _ _ _ _ = _
      unfold fX0_turnToNext_7b ltI
      rw [if_neg (by rw [ltI', nI_t (by omega), I_0]; omega), inb_n (show k < 25 by omega) (by omega), grd_t, ix_n (show k < 2147483648 by omega), hop2]
      try dsimp only
      rw [nI_mod5 (by omega), nI_div5 (by omega)]
      simp only [inb_n (show c < 25 by omega) (show 25 < 2147483648 by omega), inb_n (show c / 5 < 5 by omega) (show 5 < 2147483648 by omega), inb_n (show c % 5 < 5 by omega) (show 5 < 2147483648 by omega), grd_t, ix_n (show c < 2147483648 by omega), ix_n (show c / 5 < 2147483648 by omega), ix_n (show c % 5 < 2147483648 by omega), hneg, s_move hi hj, bnd_s]
      rfl
    rw [hvc, hdef]
    -- the way is emptied
    have hdown : (∀ g, Fea a bb u g → (∀ k, k < c → g k = f0 k) → g c ≤ f0 c) → ∃ (r : Int32) (σ' : Mem), fX0_turnToNext_7 fu b (oI ((k : Int) - 1)) (mvM b σ (c / 5) (c % 5) (-(rI σ (b + 3) c))) = some (r, σ') ∧ SMI b σ σ' ∧ PLAN b σ' a bb u un lo mi ∧ OPX b σ' u ∧
      ((r = 1 ∧ ∃ w, w < 25 ∧ (∀ k, k < w → fl b σ' k = f0 k) ∧ fl b σ' w = f0 w + 1 ∧ (∀ k, w < k → k < 25 → fl b σ' k = 0) ∧ NOG a bb u f0 (w + 1)) ∨ (r = 0 ∧ NOG a bb u f0 0)) := by
      intro hno
      have hN' : NOG a bb u f0 c := fun g hg w1 h3 h4 h5 => by
        by_cases e : w1 = c
        · subst e; exact hno g hg h5
        · exact hN g hg w1 (by omega) h4 h5
      have hx : (-(rI σ (b + 3) c)).toInt = - fl b σ c := tI_neg (by show inR (- fl b σ c); unfold inR; omega)
      by_cases hz : fl b σ c = 0
      · have e0 : -(rI σ (b + 3) c) = 0 := by rw [eqI, hx, hz, I_0]; rfl
        rw [e0, mvM_zero]
        exact ih fu σ (by omega) (by omega) hP hO (fun w hw' => by
          rw [hwk]
          by_cases e : w = c
          · subst e; rw [if_neg (by omega), hz]
          · rw [hf w hw']
            by_cases e2 : w < c
            · rw [if_pos (by omega), if_pos e2]
            · rw [if_neg (by omega), if_neg e2]) (by rw [hwk]; exact hN')
      · obtain ⟨P2, g2⟩ := plan_move (x := -(rI σ (b + 3) c)) hP hi hj (by rw [hx]; omega) (by rw [hw, hx]; omega) (by rw [hw, hx]; omega) (by rw [hw]; omega) (by rw [hx]; omega) (by rw [hx]; omega)
        obtain ⟨r, σ', w1, w2, w3, w4⟩ := ih fu _ (by omega) (by omega) P2 (smv_opn mvM_smv hO) (fun w hw' => by
          rw [hwk, g2, hw]
          dsimp only
          by_cases e : w = c
          · subst e; rw [if_pos rfl, if_neg (by omega), hx]; omega
          · rw [if_neg e, hf w hw']
            by_cases e2 : w < c
            · rw [if_pos (by omega), if_pos e2]
            · rw [if_neg (by omega), if_neg e2]) (by rw [hwk]; exact hN')
        exact ⟨r, σ', w1, (smv_smi mvM_smv).tr w2, w3, w4⟩
    have hge : ∀ g, Fea a bb u g → (∀ k, k < c → g k = f0 k) → f0 c < g c → ∀ w, w < 25 → (if w = 5 * (c / 5) + c % 5 then fl b σ w + 1 else fl b σ w) ≤ g w := by
      intro g hg hk hlt w hw'
      rw [hw]
      by_cases e : w = c
      · subst e; rw [if_pos rfl, hfc]; omega
      · rw [if_neg e, hf w hw']
        by_cases e2 : w < c
        · rw [if_pos (by omega)]; exact Int.le_of_eq (hk w e2).symm
        · rw [if_neg (by omega)]; exact (hg.1 w hw').1
    by_cases hr : vI σ (b + 4) c ≤ 0
    · rw [if_pos (by rw [leI, I_0]; exact hr)]
      exact hdown (fun g hg _ => by have := (hg.1 c (by omega)).2; omega)
    · rw [if_neg (by rw [leI, I_0]; exact hr)]
      by_cases hst : vI σ (b + 1) (c / 5) ≤ 0
      · rw [if_pos (by rw [leI, I_0]; exact hst)]
        refine hdown (fun g hg hk => ?_)
        rcases Int.lt_or_le (f0 c) (g c) with hlt | hle
        · have h3 := hge g hg hk hlt
          have h4 : rowS (fun w => if w = 5 * (c / 5) + c % 5 then fl b σ w + 1 else fl b σ w) (c / 5) ≤ rowS g (c / 5) := sm_le (fun j hj => h3 (5 * (c / 5) + j) (by omega))
          rw [rowS_upd hj hi hi, if_pos rfl] at h4
          have := hg.2.1 (c / 5) hi
          omega
        · exact hle
      · rw [if_neg (by rw [leI, I_0]; exact hst)]
        by_cases hla : vI σ (b + 2) (c % 5) ≤ 0
        · rw [if_pos (by rw [leI, I_0]; exact hla)]
          refine hdown (fun g hg hk => ?_)
          rcases Int.lt_or_le (f0 c) (g c) with hlt | hle
          · have h3 := hge g hg hk hlt
            have h4 : colS (fun w => if w = 5 * (c / 5) + c % 5 then fl b σ w + 1 else fl b σ w) (c % 5) ≤ colS g (c % 5) := sm_le (fun i hi => h3 (5 * i + c % 5) (by omega))
            rw [colS_upd hj hi hj, if_pos rfl] at h4
            have := hg.2.2 (c % 5) hj
            omega
          · exact hle
        · rw [if_neg (by rw [leI, I_0]; exact hla)]
          obtain ⟨P2, g2⟩ := plan_move (x := 1) hP hi hj (by decide) (by rw [hw, I_1]; omega) (by rw [hw, I_1]; omega) (by rw [hw]; omega) (by rw [I_1]; omega) (by rw [I_1]; omega)
          rw [hw, I_1] at g2
          refine ⟨1, _, rfl, smv_smi mvM_smv, P2, ⟨N, op, smv_opn mvM_smv hO⟩, Or.inl ⟨rfl, c, by omega, fun k hk => ?_, ?_, fun k h3 h4 => ?_, hN⟩⟩
          · rw [g2]; dsimp only; rw [if_neg (by omega), hf k (by omega), if_pos (by omega)]
          · rw [g2]; dsimp only; rw [if_pos rfl, hfc]
          · rw [g2]; dsimp only; rw [if_neg (by omega), hf k h4, if_neg (by omega)]
theorem s_turn {σ : Mem} (hP : PLAN b σ a bb u un lo mi) (hO : OPX b σ u) :
    ∃ (r : Int32) (σ' : Mem), fX0_turnToNext b σ = some (r, σ') ∧ SMI b σ σ' ∧ PLAN b σ' a bb u un lo mi ∧ OPX b σ' u ∧
      ((r = 1 ∧ ∃ w, w < 25 ∧ (∀ k, k < w → fl b σ' k = fl b σ k) ∧ fl b σ' w = fl b σ w + 1 ∧ (∀ k, w < k → k < 25 → fl b σ' k = 0) ∧ NOG a bb u (fl b σ) (w + 1)) ∨ (r = 0 ∧ NOG a bb u (fl b σ) 0)) := by
  obtain ⟨N, op, hO⟩ := hO
  have hN25 := hO.2.1
  have hnr : rI σ b 12 = nI N := nI_eqI _ hO.2.2.1
  have e : rI σ b 12 - 1 = oI ((N : Int) - 1) := by
    rw [hnr]
    exact oI_e (by rw [tI_sub (by rw [nI_t (by omega), I_1]; unfold inR; omega), nI_t (by omega), I_1])
  have h := tn_loop (f0 := fl b σ) (fun w hw => (hP.1.1 w hw).1) N FU σ (Nat.le_refl _) (by unfold FU; omega) hP hO (fun w hw => by rw [wat_e, if_pos hw]) (fun g _ w1 h1 h2 => absurd h1 (by rw [wat_e]; omega))
  unfold fX0_turnToNext fX0_turnToNext_e ltI
  rw [e]
  exact h
end ANEW
