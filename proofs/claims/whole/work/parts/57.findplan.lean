/-! The first of the least plans, way by way. -/
def nmk (w : Nat) (g : Nat → Int) (k : Nat) : Int := if k < w then 0 else g k
def msk (w : Nat) (g : Nat → Int) (k : Nat) : Int := if k < w then g k else 0
section SHIFT
variable {a bb u un F : Nat → Int} {lo mi : Int} {w : Nat}
theorem tot_add (g h : Nat → Int) : tot (fun k => g k + h k) = tot g + tot h := by
  unfold tot
  rw [← sm_add]
  exact sm_congr (fun i _ => sm_add 5 _ _)
theorem tot_congr {g h : Nat → Int} (e : ∀ k, k < 25 → g k = h k) : tot g = tot h := sm_congr (fun i hi => sm_congr (fun j hj => e _ (by omega)))
theorem shift_cst (g : Nat → Int) : cst a bb un lo mi (fun k => F k + g k) = cst (fun i => a i - rowS F i) (fun j => bb j - colS F j) un lo mi g + tot (fun k => un k * F k) := by
  have e1 : sm 5 (rowS F) = tot F := rfl
  have e2 : sm 5 (colS F) = tot F := (sm_swap 5 5 (fun j i => F (5 * i + j)))
  have e3 : tot (fun k => (un k - lo - mi) * (F k + g k)) = tot (fun k => un k * F k) - lo * tot F - mi * tot F + tot (fun k => (un k - lo - mi) * g k) := by
    have h1 : tot (fun k => (un k - lo - mi) * (F k + g k)) = tot (fun k => (un k - lo - mi) * F k) + tot (fun k => (un k - lo - mi) * g k) := by
      rw [← tot_add]
      exact tot_congr (fun k _ => Int.mul_add _ _ _)
    have h2 : tot (fun k => (un k - lo - mi) * F k) = tot (fun k => un k * F k) - lo * tot F - mi * tot F := by
      unfold tot
      rw [← sm_mul, ← sm_mul, ← sm_sub, ← sm_sub]
      refine sm_congr (fun i _ => ?_)
      rw [← sm_mul, ← sm_mul, ← sm_sub, ← sm_sub]
      refine sm_congr (fun j _ => ?_)
      show (un (5 * i + j) - lo - mi) * F (5 * i + j) = un (5 * i + j) * F (5 * i + j) - lo * F (5 * i + j) - mi * F (5 * i + j)
      rw [Int.sub_mul, Int.sub_mul]
    rw [h1, h2]
  unfold cst
  rw [e3, sm_sub, sm_sub]
  have e1' : sm 5 (fun k => rowS F k) = tot F := e1
  have e2' : sm 5 (fun k => colS F k) = tot F := e2
  rw [e1', e2', Int.mul_sub, Int.mul_sub]
  have ea : sm 5 (fun k => a k) = sm 5 a := rfl
  have eb : sm 5 (fun k => bb k) = sm 5 bb := rfl
  rw [ea, eb]
  omega
theorem row_add (g h : Nat → Int) (i : Nat) : rowS (fun k => g k + h k) i = rowS g i + rowS h i := sm_add 5 _ _
theorem col_add (g h : Nat → Int) (i : Nat) : colS (fun k => g k + h k) i = colS g i + colS h i := sm_add 5 _ _
theorem shift_lst (hF0 : ∀ k, w ≤ k → F k = 0) (hFu : ∀ k, k < 25 → 0 ≤ F k ∧ F k ≤ u k) {c0 : Int} (h : Lst (fun i => a i - rowS F i) (fun j => bb j - colS F j) (nmk w u) un lo mi c0) :
    (∃ G, Fea a bb u G ∧ (∀ k, k < w → k < 25 → G k = F k) ∧ cst a bb un lo mi G = c0 + tot (fun k => un k * F k)) ∧ ∀ G, Fea a bb u G → (∀ k, k < w → k < 25 → G k = F k) → c0 + tot (fun k => un k * F k) ≤ cst a bb un lo mi G := by
  obtain ⟨⟨g, g1, g2⟩, g3⟩ := h
  have hgz : ∀ k, k < w → k < 25 → g k = 0 := fun k h1 h2 => by
    have := g1.1 k h2
    unfold nmk at this
    rw [if_pos h1] at this
    omega
  refine ⟨⟨fun k => F k + g k, ⟨fun k hk => ?_, fun i hi => ?_, fun j hj => ?_⟩, fun k h1 h2 => by show F k + g k = F k; rw [hgz k h1 h2]; omega, by rw [shift_cst, g2]⟩, fun G hG hp => ?_⟩
  · show 0 ≤ F k + g k ∧ F k + g k ≤ u k
    have h1 := hFu k hk
    have h2 := g1.1 k hk
    unfold nmk at h2
    by_cases e : k < w
    · have := hgz k e hk; omega
    · rw [if_neg e] at h2
      have := hF0 k (by omega)
      omega
  · have h1 := g1.2.1 i hi
    have h1 : rowS g i ≤ a i - rowS F i := h1
    rw [row_add]; omega
  · have h1 := g1.2.2 j hj
    have h1 : colS g j ≤ bb j - colS F j := h1
    rw [col_add]; omega
  · have hsame : ∀ k, k < 25 → F k + nmk w G k = G k := fun k hk => by
      unfold nmk
      by_cases e : k < w
      · rw [if_pos e, hp k e hk]; omega
      · rw [if_neg e, hF0 k (by omega)]; omega
    have hf : Fea (fun i => a i - rowS F i) (fun j => bb j - colS F j) (nmk w u) (nmk w G) := by
      refine ⟨fun k hk => ?_, fun i hi => ?_, fun j hj => ?_⟩
      · have := hG.1 k hk
        unfold nmk
        split <;> omega
      · show rowS (nmk w G) i ≤ a i - rowS F i
        have h1 := hG.2.1 i hi
        rw [← row_congr hsame hi, row_add] at h1
        omega
      · show colS (nmk w G) j ≤ bb j - colS F j
        have h1 := hG.2.2 j hj
        rw [← col_congr hsame hj, col_add] at h1
        omega
    have h1 := g3 _ hf
    have h2 := shift_cst (a := a) (bb := bb) (un := un) (F := F) (lo := lo) (mi := mi) (nmk w G)
    rw [cst_congr hsame] at h2
    omega
end SHIFT
section FIX
variable {σ : Mem} {n m : Nat} {A B U : Nat → Int}
theorem row_one {i j : Nat} (hi : i < 5) (hj : j < 5) (x : Int) {k : Nat} (hk : k < 5) : rowS (fun w => if w = 5 * i + j then x else 0) k = if k = i then x else 0 := by
  have h := rowS_upd (g := fun _ => 0) (x := x) hj hk hi
  have e : (fun w => if w = 5 * i + j then (0 : Int) + x else 0) = (fun w => if w = 5 * i + j then x else 0) := by funext w; split <;> omega
  rw [e] at h
  rw [h]
  have : rowS (fun _ => 0) k = 0 := sm_zero 5
  omega
theorem col_one {i j : Nat} (hi : i < 5) (hj : j < 5) (x : Int) {k : Nat} (hk : k < 5) : colS (fun w => if w = 5 * i + j then x else 0) k = if k = j then x else 0 := by
  have h := colS_upd (g := fun _ => 0) (x := x) hj hi hk
  have e : (fun w => if w = 5 * i + j then (0 : Int) + x else 0) = (fun w => if w = 5 * i + j then x else 0) := by funext w; split <;> omega
  rw [e] at h
  rw [h]
  have : colS (fun _ => 0) k = 0 := sm_zero 5
  omega
/-- only the Model's scratch but the fixed row -/
def SMT (σ σ' : Mem) : Prop := (∀ k, ¬ (43 ≤ k ∧ k ≤ 48) → σ'.1 k = σ.1 k) ∧ σ'.2 = σ.2
theorem SMT.rf : SMT σ σ := ⟨fun _ _ => rfl, rfl⟩
theorem SMT.tr {σ1 σ2 : Mem} (h1 : SMT σ σ1) (h2 : SMT σ1 σ2) : SMT σ σ2 := ⟨fun k a => (h2.1 k a).trans (h1.1 k a), h2.2.trans h1.2⟩
theorem smt_smm {σ σ' : Mem} (h : SMT σ σ') : SMM σ σ' := ⟨fun k h1 h2 => ⟨h.1 k (by omega), by rw [h.2]⟩, fun i _ => by unfold rI; rw [h.1 35 (by omega)]⟩
theorem smt_w {k i : Nat} {v : Int32} (h : 43 ≤ k ∧ k ≤ 48) : SMT σ (wI σ k i v) := ⟨fun k' h' => (wI_ne σ i v (by omega)).1, rfl⟩
theorem sms_smt {σ σ' : Mem} (h : SMS σ σ') : SMT σ σ' := ⟨fun k hk => h.1 k (by omega) (by omega) (by omega), h.2⟩
theorem smh_smt {σ σ' : Mem} (h : SMH σ σ') : SMT σ σ' := ⟨fun k hk => h.1 k (by omega), h.2⟩
theorem m_withFixed {w : Nat} {x : Int} (hR : REL σ n m) (h0 : M0 σ n m A B U) (hw : w < 25) (hi : w / 5 < n) (hj : w % 5 < m) (hx : 0 ≤ x ∧ x ≤ A (w / 5) ∧ x ≤ B (w % 5)) :
    ∃ σ', fX3_withFixed (nI w) (oI x) σ = some (oI (LV (fun i => A i - (if i = w / 5 then x else 0)) (fun j => B j - (if j = w % 5 then x else 0)) (fun k => if k = w then 0 else U k) (unW σ n m) (vI σ 0 12) (vI σ 0 13) + x * unW σ n m w), σ') ∧ SMT σ σ' ∧ M0 σ' n m A B U ∧
      Lst (fun i => A i - (if i = w / 5 then x else 0)) (fun j => B j - (if j = w % 5 then x else 0)) (fun k => if k = w then 0 else U k) (unW σ n m) (vI σ 0 12) (vI σ 0 13) (LV (fun i => A i - (if i = w / 5 then x else 0)) (fun j => B j - (if j = w % 5 then x else 0)) (fun k => if k = w then 0 else U k) (unW σ n m) (vI σ 0 12) (vI σ 0 13)) := by
  have hi5 : w / 5 < 5 := by omega
  have hj5 : w % 5 < 5 := by omega
  have hA := h0.1 (w / 5) hi5
  have hB := h0.2.1 (w % 5) hj5
  have hU := h0.2.2 w hw
  have s6 : SMT σ (wI (wI (wI σ 43 (w / 5) (oI (A (w / 5) - x))) 44 (w % 5) (oI (B (w % 5) - x))) 45 w 0) := ((smt_w (by omega)).tr (smt_w (by omega))).tr (smt_w (by omega))
  have M6 : M0 (wI (wI (wI σ 43 (w / 5) (oI (A (w / 5) - x))) 44 (w % 5) (oI (B (w % 5) - x))) 45 w 0) n m (fun i => A i - (if i = w / 5 then x else 0)) (fun j => B j - (if j = w % 5 then x else 0)) (fun k => if k = w then 0 else U k) := by
    refine ⟨fun i hi' => ?_, fun j hj' => ?_, fun k hk => ?_⟩
    · have q := h0.1 i hi'
      show _ = A i - (if i = w / 5 then x else 0) ∧ 0 ≤ A i - (if i = w / 5 then x else 0) ∧ A i - (if i = w / 5 then x else 0) ≤ 21 ∧ (n ≤ i → A i - (if i = w / 5 then x else 0) = 0)
      rw [vI_wne (by omega), vI_wne (by omega), vI_w]
      by_cases e : i = w / 5
      · rw [if_pos ⟨rfl, e⟩, if_pos e, oI_to (by unfold inR; omega)]
        rw [e] at q ⊢
        exact ⟨rfl, by omega, by omega, fun h => by omega⟩
      · rw [if_neg (fun z => e z.2), if_neg e]
        exact ⟨by omega, by omega, by omega, fun h => by have := q.2.2.2 h; omega⟩
    · have q := h0.2.1 j hj'
      show _ = B j - (if j = w % 5 then x else 0) ∧ 0 ≤ B j - (if j = w % 5 then x else 0) ∧ B j - (if j = w % 5 then x else 0) ≤ 21 ∧ (m ≤ j → B j - (if j = w % 5 then x else 0) = 0)
      rw [vI_wne (by omega), vI_w]
      by_cases e : j = w % 5
      · rw [if_pos ⟨rfl, e⟩, if_pos e, oI_to (by unfold inR; omega)]
        rw [e] at q ⊢
        exact ⟨rfl, by omega, by omega, fun h => by omega⟩
      · rw [if_neg (fun z => e z.2), if_neg e, vI_wne (by omega)]
        exact ⟨by omega, by omega, by omega, fun h => by have := q.2.2.2 h; omega⟩
    · have q := h0.2.2 k hk
      show 0 ≤ (if k = w then (0 : Int) else U k) ∧ (if k = w then (0 : Int) else U k) ≤ 40 ∧ (_ → _ = if k = w then (0 : Int) else U k) ∧ (_ → (if k = w then (0 : Int) else U k) = 0)
      rw [vI_w]
      by_cases e : k = w
      · rw [if_pos e, if_pos ⟨rfl, e⟩]
        exact ⟨by omega, by omega, fun _ => I_0, fun _ => rfl⟩
      · rw [if_neg e, if_neg (fun z => e z.2), vI_wne (by omega), vI_wne (by omega)]
        exact q
  have R6 := smm_rel (smt_smm s6) hR
  have sd6 := smm_sd (smt_smm s6)
  obtain ⟨σ8, e8, s8, L8⟩ := m_solve R6 M6
  rw [sd_unW sd6, sd_v0 sd6 (show 12 ≠ 14 by omega), sd_v0 sd6 (show 13 ≠ 14 by omega)] at e8 L8
  have R8 := smm_rel (sms_smm s8) R6
  have s08 := s6.tr (sms_smt s8)
  have sd8 := smm_sd (smt_smm s08)
  have e9 := m_unitOf (σ := σ8) R8 hi hj
  rw [sd_unD sd8] at e9
  have hun : unW σ n m w = unD σ (w / 5) (w % 5) := if_pos ⟨hi, hj⟩
  have v43 : ∀ i, vI σ8 43 i = if i = w / 5 then A (w / 5) - x else vI σ 43 i := fun i => by
    rw [sms_vI s8 (by omega) (by omega) (by omega), vI_wne (by omega), vI_wne (by omega), vI_w]
    by_cases e : i = w / 5
    · rw [if_pos ⟨rfl, e⟩, if_pos e, oI_to (by unfold inR; omega)]
    · rw [if_neg (fun z => e z.2), if_neg e]
  have v44 : ∀ i, vI σ8 44 i = if i = w % 5 then B (w % 5) - x else vI σ 44 i := fun i => by
    rw [sms_vI s8 (by omega) (by omega) (by omega), vI_wne (by omega), vI_w]
    by_cases e : i = w % 5
    · rw [if_pos ⟨rfl, e⟩, if_pos e, oI_to (by unfold inR; omega)]
    · rw [if_neg (fun z => e z.2), if_neg e, vI_wne (by omega)]
  have v45 : ∀ i, i ≠ w → vI σ8 45 i = vI σ 45 i := fun i e => by
    rw [sms_vI s8 (by omega) (by omega) (by omega), vI_w, if_neg (fun z => e z.2), vI_wne (by omega), vI_wne (by omega)]
  refine ⟨wI (wI (wI σ8 45 w (rI σ 45 w)) 43 (w / 5) (oI (A (w / 5)))) 44 (w % 5) (oI (B (w % 5))), ?_, (s08.tr ((smt_w (by omega)).tr (smt_w (by omega)))).tr (smt_w (by omega)), ⟨fun i hi' => ?_, fun j hj' => ?_, fun k hk => ?_⟩, L8⟩
  · unfold fX3_withFixed fX3_withFixed_e ltI
    dsimp only
    rw [(nI_div5' hw).2, (nI_div5' hw).1]
    simp only [inb_n (show w / 5 < 5 by omega) (show 5 < 2147483648 by omega), inb_n (show w % 5 < 5 by omega) (show 5 < 2147483648 by omega), inb_n hw (show 25 < 2147483648 by omega), grd_t, ix_n (show w < 2147483648 by omega), ix_n (show w / 5 < 2147483648 by omega), ix_n (show w % 5 < 2147483648 by omega), ltM]
    have q1 : rI σ 43 (w / 5) - oI x = oI (A (w / 5) - x) := by rw [oI_v, hA.1, oI_sub]
    rw [q1]
    have q2 : rI (wI σ 43 (w / 5) (oI (A (w / 5) - x))) 44 (w % 5) - oI x = oI (B (w % 5) - x) := by rw [oI_v, vI_wne (by omega), hB.1, oI_sub]
    rw [q2]
    have q3 : rI (wI (wI σ 43 (w / 5) (oI (A (w / 5) - x))) 44 (w % 5) (oI (B (w % 5) - x))) 45 w = rI σ 45 w := by
      rw [rI_w, if_neg (by omega), rI_w, if_neg (by omega)]
    rw [q3, e8, bnd_s, e9, bnd_s]
    have q4 : rI (wI σ8 45 w (rI σ 45 w)) 43 (w / 5) + oI x = oI (A (w / 5)) := by
      rw [oI_v, vI_wne (by omega), v43, if_pos rfl, oI_add]
      congr 1
      omega
    rw [q4]
    have q5 : rI (wI (wI σ8 45 w (rI σ 45 w)) 43 (w / 5) (oI (A (w / 5)))) 44 (w % 5) + oI x = oI (B (w % 5)) := by
      rw [oI_v, vI_wne (by omega), vI_wne (by omega), v44, if_pos rfl, oI_add]
      congr 1
      omega
    rw [q5, oI_mul, oI_add, hun]
  · have q := h0.1 i hi'
    rw [vI_wne (by omega), vI_w]
    by_cases e : i = w / 5
    · rw [if_pos ⟨rfl, e⟩, oI_to (by unfold inR; omega)]
      rw [e] at q ⊢
      exact ⟨rfl, q.2⟩
    · rw [if_neg (fun z => e z.2), vI_wne (by omega), v43, if_neg e]
      exact q
  · have q := h0.2.1 j hj'
    rw [vI_w]
    by_cases e : j = w % 5
    · rw [if_pos ⟨rfl, e⟩, oI_to (by unfold inR; omega)]
      rw [e] at q ⊢
      exact ⟨rfl, q.2⟩
    · rw [if_neg (fun z => e z.2), vI_wne (by omega), vI_wne (by omega), v44, if_neg e]
      exact q
  · have q := h0.2.2 k hk
    rw [vI_wne (by omega), vI_wne (by omega), vI_w]
    by_cases e : k = w
    · rw [if_pos ⟨rfl, e⟩]
      rw [e] at q ⊢
      exact q
    · rw [if_neg (fun z => e z.2), v45 k e]
      exact q
end FIX
