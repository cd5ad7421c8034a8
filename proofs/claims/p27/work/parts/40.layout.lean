/-! A plan laid out. -/
theorem shl_rank : ∀ w : Fin 25, ((1 : Int64) <<< (((24 : Int32) - nI w.val).toInt64 &&& 63)).toInt = 2 ^ (24 - w.val) := by decide +kernel
def capU (σ : Mem) (w : Nat) : Int := if vI σ 8 w = -1 then 20 else vI σ 8 w
theorem lay_congr {b : Nat} {σ : Mem} {a a' bb bb' u u' un : Nat → Int} {lo mi : Int} (h : LAY b σ a bb u un lo mi) (ha : ∀ i, i < 5 → a i = a' i) (hb : ∀ i, i < 5 → bb i = bb' i) (hu : ∀ w, w < 25 → u w = u' w) : LAY b σ a' bb' u' un lo mi := by
  obtain ⟨h1, h2, h3, h4, h5, h6, h7, h8⟩ := h
  refine ⟨fun i hi => by rw [← ha i hi]; exact h1 i hi, fun i hi => by rw [← hb i hi]; exact h2 i hi, h3, fun w hw => by rw [← hu w hw]; exact h4 w hw, ?_, h6, h7, opx_mono (fun w hw h => by rw [hu w hw]; exact h) h8⟩
  rw [← sm_congr ha, ← sm_congr hb]
  exact h5
theorem vJ_wne {σ : Mem} {k i : Nat} {v : Int64} {k' i' : Nat} (h : k' ≠ k) : vJ (wJ σ k i v) k' i' = vJ σ k' i' := by
  rw [vJ_w, if_neg (fun q => h q.1)]
section LAYO
variable {b : Nat} {a bb u un : Nat → Int} {lo mi : Int}
theorem open_core {σ : Mem} {w : Nat} {c s : Int32} (h : LAY b σ a bb u un lo mi) (hw : w < 25) (hc : c.toInt = un w) (hc2 : 0 ≤ un w ∧ un w ≤ 10000) (hO : OPX b σ (fun k => if k = w then s.toInt else u k)) :
    ∃ σ', fX0_open_49 b (nI w) c s (nI w) σ = some (0, σ') ∧ SMI b σ σ' ∧ LAY b σ' a bb (fun k => if k = w then s.toInt else u k) un lo mi ∧ vI σ' b 12 = vI σ b 12 ∧ ∀ k, vI σ' (34 + b / 12) k = vI σ (34 + b / 12) k := by
  obtain ⟨h1, h2, h3, h4, h5, h6, h7, h8⟩ := h
  have hb24 := opx_24 h8
  unfold fX0_open_49 ltM
  simp only [inb_n hw (show 25 < 2147483648 by omega), grd_t, ix_n (show w < 2147483648 by omega)]
  refine ⟨_, rfl, ((wI_smi (by omega)).tr (wI_smi (by omega))).tr (wJ_smi (by omega)), ⟨fun k hk => ?_, fun j hj => ?_, fun k hk => ?_, fun k hk => ⟨?_, fun hpos => ?_⟩, ?_, ?_, ?_, opx_keep (by rw [vI_wJ, vI_wne (by omega), vI_wne (by omega)]) (fun k => by rw [vI_wJ, vI_wne (by omega), vI_wne (by omega)]) hO⟩, by rw [vI_wJ, vI_wne (by omega), vI_wne (by omega)], fun k => by rw [vI_wJ, vI_wne (by omega), vI_wne (by omega)]⟩
  · rw [vI_wJ, vI_wne (by omega), vI_wne (by omega)]; exact h1 k hk
  · rw [vI_wJ, vI_wne (by omega), vI_wne (by omega)]; exact h2 j hj
  · unfold fl
    rw [vI_wJ, vI_wne (by omega), vI_wne (by omega)]; exact h3 k hk
  · show _ = if k = w then s.toInt else u k
    rw [vI_wJ, vI_wne (by omega), vI_w]
    by_cases e : k = w
    · rw [if_pos ⟨rfl, e⟩, if_pos e]
    · rw [if_neg (fun q => e q.2), if_neg e]; exact (h4 k hk).1
  · have hpos : 0 < if k = w then s.toInt else u k := hpos
    rw [vI_wJ, vI_w, vJ_w]
    by_cases e : k = w
    · subst e
      rw [if_pos ⟨rfl, rfl⟩, if_pos ⟨rfl, rfl⟩]
      refine ⟨hc, ?_⟩
      have e1 := shl25 c (by omega) (by omega)
      have e2 := shl_rank ⟨k, hk⟩
      have hp : (0 : Int) ≤ 2 ^ (24 - k) ∧ (2 : Int) ^ (24 - k) ≤ 2 ^ 24 := by
        refine ⟨Int.le_of_lt (Int.pow_pos (by omega)), ?_⟩
        exact_mod_cast Nat.pow_le_pow_right (n := 2) (by omega) (show 24 - k ≤ 24 by omega)
      dsimp only at e2
      rw [tJ_sub, e1, e2, hc]
      · rfl
      · rw [e1, e2, hc]; unfold inRJ; omega
    · rw [if_neg e] at hpos
      rw [if_neg (fun q => e q.2), if_neg (fun q => e q.2), vI_wne (by omega), vJ_wI, vJ_wI]
      exact (h4 k hk).2 hpos
  · rw [vI_wJ, vI_wne (by omega), vI_wne (by omega)]; exact h5
  · rw [vI_wJ, vI_wne (by omega), vI_wne (by omega)]; exact h6
  · rw [vI_wJ, vI_wne (by omega), vI_wne (by omega)]; exact h7
def TOP (b : Nat) (σ : Mem) (w : Nat) : Prop := ∀ k : Nat, (k : Int) < vI σ b 12 → vI σ (34 + b / 12) k < w
theorem op_ge {N : Nat} {op : Nat → Nat} (h : ∀ i j, i < j → j < N → op i < op j) : ∀ k, k < N → k ≤ op k
  | 0, _ => Nat.zero_le _
  | k + 1, hk => by
    have h1 := op_ge h k (by omega)
    have h2 := h k (k + 1) (by omega) hk
    omega
theorem s_open33 {σ : Mem} {w : Nat} {c s : Int32} (h : LAY b σ a bb u un lo mi) (hw : w < 25) (hc : c.toInt = un w) (hc2 : 0 ≤ un w ∧ un w ≤ 10000) (hO : OPX b σ (fun k => if k = w then (if s.toInt = -1 then 20 else s.toInt) else u k)) :
    ∃ σ', fX0_open_33 b (nI w) c s σ = some (0, σ') ∧ SMI b σ σ' ∧ LAY b σ' a bb (fun k => if k = w then (if s.toInt = -1 then 20 else s.toInt) else u k) un lo mi ∧ vI σ' b 12 = vI σ b 12 ∧ ∀ k, vI σ' (34 + b / 12) k = vI σ (34 + b / 12) k := by
  unfold fX0_open_33
  by_cases e : s.toInt = -1
  · rw [if_pos (by rw [eqI, I_m1]; exact e)]
    simp only [if_pos e] at hO ⊢
    obtain ⟨σ', q1, q2, q3, q4, q5⟩ := open_core (s := 20) h hw hc hc2 (by rw [I_20]; exact hO)
    exact ⟨σ', q1, q2, lay_congr q3 (fun _ _ => rfl) (fun _ _ => rfl) (fun k _ => by rw [I_20]), q4, q5⟩
  · rw [if_neg (by rw [eqI, I_m1]; exact e)]
    simp only [if_neg e] at hO ⊢
    exact open_core (s := s) h hw hc hc2 hO
theorem opn_add {σ σ2 : Mem} {w N : Nat} {op : Nat → Nat} {u' : Nat → Int} (h : OPN b σ u N op) (hw : w < 25) (hN : N < 25) (ht : ∀ k, k < N → op k < w) (hu : ∀ v, v ≠ w → 0 < u' v → 0 < u v) (h12 : vI σ2 b 12 = N + 1) (hc : ∀ k, vI σ2 (34 + b / 12) k = if k = N then (w : Int) else vI σ (34 + b / 12) k) : OPX b σ2 u' := by
  obtain ⟨q1, q2, q3, q4, q5, q6⟩ := h
  refine ⟨N + 1, fun k => if k = N then w else op k, q1, by omega, by rw [h12]; omega, fun k hk => ?_, fun i j hij hj => ?_, fun v hv hp => ?_⟩
  · rw [hc]
    by_cases e : k = N
    · rw [if_pos e]
      simp only [if_pos e]
      exact ⟨hw, trivial⟩
    · rw [if_neg e]
      simp only [if_neg e]
      exact q4 k (by omega)
  · dsimp only
    rw [if_neg (show i ≠ N by omega)]
    by_cases e : j = N
    · rw [if_pos e]; exact ht i (by omega)
    · rw [if_neg e]; exact q5 i j hij (by omega)
  · by_cases e : v = w
    · exact ⟨N, by omega, by dsimp only; rw [if_pos rfl, e]⟩
    · obtain ⟨k, hk, hk2⟩ := q6 v hv (hu v e hp)
      exact ⟨k, by omega, by dsimp only; rw [if_neg (by omega)]; exact hk2⟩
theorem s_open {σ : Mem} {w : Nat} {c s : Int32} (h : LAY b σ a bb u un lo mi) (hw : w < 25) (hc : c.toInt = un w) (hc2 : 0 ≤ un w ∧ un w ≤ 10000) (hb13 : 13 ≤ b) (hT : TOP b σ w) :
    ∃ σ', fX0_open b (nI w) c s σ = some (0, σ') ∧ SMI b σ σ' ∧ LAY b σ' a bb (fun k => if k = w then (if s.toInt = -1 then 20 else s.toInt) else u k) un lo mi ∧ TOP b σ' (w + 1) := by
  obtain ⟨N, op, hO⟩ := h.2.2.2.2.2.2.2
  obtain ⟨q1, q2, q3, q4, q5, q6⟩ := id hO
  have ht : ∀ k, k < N → op k < w := fun k hk => by
    have := hT k (by rw [q3]; omega)
    rw [(q4 k hk).2] at this
    omega
  have hN : N ≤ w := by
    rcases Nat.eq_zero_or_pos N with e | e
    · omega
    · have := op_ge q5 (N - 1) (by omega)
      have := ht (N - 1) (by omega)
      omega
  have hnr : rI σ b 12 = nI N := nI_eqI _ q3
  unfold fX0_open fX0_open_e
  by_cases e : s = 0
  · rw [if_pos e]
    have hO' : OPX b σ (fun k => if k = w then (if s.toInt = -1 then 20 else s.toInt) else u k) := ⟨N, op, q1, q2, q3, q4, q5, fun v hv hp => by
      dsimp only at hp
      by_cases e2 : v = w
      · rw [if_pos e2, e, I_0, if_neg (by omega)] at hp; omega
      · rw [if_neg e2] at hp; exact q6 v hv hp⟩
    obtain ⟨σ', w1, w2, w3, w4, w5⟩ := s_open33 h hw hc hc2 hO'
    refine ⟨σ', w1, w2, w3, fun k hk => ?_⟩
    rw [w4] at hk
    rw [w5]
    have := hT k hk
    omega
  · rw [if_neg e, hnr, if_neg (by rw [leI, I_25, nI_t (by omega)]; omega), inb_n (by omega) (by omega), grd_t, ix_n (by omega)]
    unfold ltM
    try dsimp only
    rw [show rI (wI σ (34 + b / 12) N (nI w)) b 12 = nI N by rw [rI_w, if_neg (by omega)]; exact hnr, nI_1]
    have c12 : ∀ k, vI (wI (wI σ (34 + b / 12) N (nI w)) b 12 (nI (N + 1))) (34 + b / 12) k = if k = N then (w : Int) else vI σ (34 + b / 12) k := fun k => by
      rw [vI_wne (by omega), vI_w]
      by_cases e2 : k = N
      · rw [if_pos ⟨rfl, e2⟩, if_pos e2, nI_t (by omega)]
      · rw [if_neg (fun q => e2 q.2), if_neg e2]
    have v12 : vI (wI (wI σ (34 + b / 12) N (nI w)) b 12 (nI (N + 1))) b 12 = N + 1 := by
      rw [vI_w, if_pos ⟨rfl, rfl⟩, nI_t (by omega)]; omega
    have hL2 : LAY b (wI (wI σ (34 + b / 12) N (nI w)) b 12 (nI (N + 1))) a bb u un lo mi := by
      obtain ⟨h1, h2, h3, h4, h5, h6, h7, h8⟩ := id h
      refine ⟨fun k hk => ?_, fun k hk => ?_, fun k hk => ?_, fun k hk => ?_, ?_, ?_, ?_, opn_add hO hw (by omega) ht (fun v _ hp => hp) v12 c12⟩
      · rw [vI_wne (by omega), vI_wne (by omega)]; exact h1 k hk
      · rw [vI_wne (by omega), vI_wne (by omega)]; exact h2 k hk
      · unfold fl
        rw [vI_wne (by omega), vI_wne (by omega)]; exact h3 k hk
      · rw [vI_wne (by omega), vI_wne (by omega), vI_wne (by omega), vI_wne (by omega), vJ_wI, vJ_wI]; exact h4 k hk
      · rw [vI_w, if_neg (by omega), vI_wne (by omega)]; exact h5
      · rw [vI_w, if_neg (by omega), vI_wne (by omega)]; exact h6
      · rw [vI_w, if_neg (by omega), vI_wne (by omega)]; exact h7
    obtain ⟨σ', w1, w2, w3, w4, w5⟩ := s_open33 (s := s) hL2 hw hc hc2 (opn_add hO hw (by omega) ht (fun v hv hp => by rw [if_neg hv] at hp; exact hp) v12 c12)
    refine ⟨σ', w1, ((wI_smi (by omega)).tr (wI_smi (by omega))).tr w2, w3, fun k hk => ?_⟩
    rw [w4, v12] at hk
    rw [w5, c12]
    by_cases e2 : k = N
    · rw [if_pos e2]; omega
    · rw [if_neg e2]
      have := hT k (by rw [q3]; omega)
      omega
end LAYO
def uP (σ : Mem) (m i j w : Nat) : Int := if (w / 5 < i ∨ w / 5 = i ∧ w % 5 < j) ∧ w % 5 < m then capU σ w else 0
section LAYOUT
variable {b n m : Nat} {σ0 : Mem}
theorem lo_93 (hb : 13 ≤ b) (hD : DAT σ0 n m) {a bb : Nat → Int} {lo mi : Int} {i : Nat} (hi : i < n) (r80 : Nat → Int32 → Mem → Option (Int32 × Mem)) : ∀ (d j fu : Nat) (σ : Mem), j + d = m → d < fu → SMI b σ0 σ → LAY b σ a bb (uP σ0 m i j) (unW σ0 n m) lo mi → TOP b σ (5 * i + j) →
    ∃ σ', fX2_layOut_93 r80 fu b (nI i) (nI j) σ = r80 b (nI (i + 1)) σ' ∧ SMI b σ0 σ' ∧ LAY b σ' a bb (uP σ0 m (i + 1) 0) (unW σ0 n m) lo mi ∧ TOP b σ' (5 * (i + 1)) := by
  intro d
  induction d with
  | zero =>
    intro j fu σ h1 h2 hs hL hT
    obtain ⟨fu, rfl⟩ : ∃ q, fu = q + 1 := ⟨fu - 1, by omega⟩
    have hD' := sd_dat (smi_sd hs (by omega)) hD
    have hj : j = m := by omega
    subst hj
    refine ⟨σ, ?_, hs, lay_congr hL (fun _ _ => rfl) (fun _ _ => rfl) (fun w hw => ?_), fun k hk => by have := hT k hk; have := hD.1.2.2.2; omega⟩
    · show fX2_layOut_93b _ _ _ _ _ _ = _
      unfold fX2_layOut_93b
      have hj5 := hD.1.2.2.2
      rw [if_pos (by rw [leI, nI_t (by omega)]; exact Int.le_of_eq hD'.1.2.2.1), nI_1]
    · unfold uP
      by_cases h : w % 5 < j
      · by_cases h3 : w / 5 < i + 1
        · rw [if_pos ⟨by omega, h⟩, if_pos ⟨by omega, h⟩]
        · rw [if_neg (by omega), if_neg (by omega)]
      · rw [if_neg (by omega), if_neg (by omega)]
  | succ d ih =>
    intro j fu σ h1 h2 hs hL hT
    obtain ⟨fu, rfl⟩ : ∃ q, fu = q + 1 := ⟨fu - 1, by omega⟩
    have hsd := smi_sd hs (show 10 ≤ b by omega)
    have hD' := sd_dat hsd hD
    have hm5 := hD.1.2.2.2
    have hn5 := hD.1.2.1
    have hj : j < m := by omega
    obtain ⟨z, e1, hz⟩ := s_unitCost hD' hi hj
    rw [sd_unD hsd] at hz
    have hub := unD_bd hD hi hj
    have hw : unW σ0 n m (5 * i + j) = unD σ0 i j := by
      unfold unW
      rw [show (5 * i + j) / 5 = i by omega, show (5 * i + j) % 5 = j by omega, if_pos ⟨hi, hj⟩]
    obtain ⟨σ1, e2, s2, L2, T2⟩ := s_open (w := 5 * i + j) (c := z) (s := rI σ 8 (5 * i + j)) hL (by omega) (by rw [hz, hw]) (by rw [hw]; exact hub) hb hT
    have e8 : (rI σ 8 (5 * i + j)).toInt = vI σ0 8 (5 * i + j) := sd_vI hsd (by omega) (by omega) _
    rw [e8] at L2
    obtain ⟨σ', q1, q2, q3⟩ := ih (j + 1) fu σ1 (by omega) (by omega) (hs.tr s2) (lay_congr L2 (fun _ _ => rfl) (fun _ _ => rfl) (fun w hw => by
      unfold uP
      by_cases e : w = 5 * i + j
      · subst e
        rw [if_pos rfl, if_pos (show ((5 * i + j) / 5 < i ∨ (5 * i + j) / 5 = i ∧ (5 * i + j) % 5 < j + 1) ∧ (5 * i + j) % 5 < m by omega)]
        rfl
      · rw [if_neg e]
        by_cases h : (w / 5 < i ∨ w / 5 = i ∧ w % 5 < j) ∧ w % 5 < m
        · rw [if_pos h, if_pos (by omega)]
        · rw [if_neg h, if_neg (by omega)])) T2
    refine ⟨σ', ?_, q2, q3⟩
    rw [← q1]
    show fX2_layOut_93b _ _ _ _ _ _ = _
    unfold fX2_layOut_93b
    have hle : ¬ rI σ 4 2 ≤ nI j := by
      rw [leI, nI_t (by omega)]
      have : (rI σ 4 2).toInt = m := hD'.1.2.2.1
      omega
    rw [if_neg hle, s_wayOf, bnd_s, e1, bnd_s, s_wayOf, bnd_s, inb_n (show 5 * i + j < 25 by omega) (by omega), grd_t, ix_n (n := 5 * i + j) (by omega), e2, bnd_s, nI_1]
theorem lo_80 (hb : 13 ≤ b) (hD : DAT σ0 n m) {a bb : Nat → Int} {lo mi : Int} : ∀ (d i fu : Nat) (σ : Mem), i + d = n → d < fu → SMI b σ0 σ → LAY b σ a bb (uP σ0 m i 0) (unW σ0 n m) lo mi → TOP b σ (5 * i) →
    ∃ σ', fX2_layOut_80 fu b (nI i) σ = some (0, σ') ∧ SMI b σ0 σ' ∧ LAY b σ' a bb (uW σ0 n m) (unW σ0 n m) lo mi := by
  intro d
  induction d with
  | zero =>
    intro i fu σ h1 h2 hs hL hT
    obtain ⟨fu, rfl⟩ : ∃ q, fu = q + 1 := ⟨fu - 1, by omega⟩
    have hD' := sd_dat (smi_sd hs (by omega)) hD
    have hn5 := hD.1.2.1
    have hj : i = n := by omega
    subst hj
    refine ⟨σ, ?_, hs, lay_congr hL (fun _ _ => rfl) (fun _ _ => rfl) (fun w hw => ?_)⟩
    · show fX2_layOut_80b _ _ _ _ = _
      unfold fX2_layOut_80b
      rw [if_pos (by rw [leI, nI_t (by omega)]; exact Int.le_of_eq hD'.1.1)]
    · unfold uP uW capU
      by_cases h : w / 5 < i ∧ w % 5 < m
      · rw [if_pos (by omega), if_pos h]
      · rw [if_neg (by omega), if_neg h]
  | succ d ih =>
    intro i fu σ h1 h2 hs hL hT
    obtain ⟨fu, rfl⟩ : ∃ q, fu = q + 1 := ⟨fu - 1, by omega⟩
    have hD' := sd_dat (smi_sd hs (by omega)) hD
    have hn5 := hD.1.2.1
    have hm5 := hD.1.2.2.2
    obtain ⟨σ1, e1, s1, L1, T1⟩ := lo_93 hb hD (show i < n by omega) (fX2_layOut_80 fu) m 0 FU σ (by omega) (by unfold FU; omega) hs hL hT
    obtain ⟨σ', q1, q2, q3⟩ := ih (i + 1) fu σ1 (by omega) (by omega) s1 L1 T1
    refine ⟨σ', ?_, q2, q3⟩
    rw [← q1, ← e1]
    show fX2_layOut_80b _ _ _ _ = _
    unfold fX2_layOut_80b
    have hle : ¬ rI σ 1 2 ≤ nI i := by
      rw [leI, nI_t (by omega)]
      have : (rI σ 1 2).toInt = n := hD'.1.1
      omega
    rw [if_neg hle]
    rfl
theorem lo_47 (hb : 13 ≤ b) (hD : DAT σ0 n m) {a : Nat → Int} {lo mi : Int} (hlm : 0 ≤ lo ∧ lo ≤ 10000 ∧ 0 ≤ mi ∧ mi ≤ 10000) (ha : ∀ i, i < 5 → 0 ≤ a i ∧ a i ≤ 21) : ∀ (d j fu : Nat) (σ : Mem), j + d = m → d < fu → SMI b σ0 σ → LAY b σ a (fun k => if k < j then vI σ0 6 k else 0) (fun _ => 0) (unW σ0 n m) lo mi → vI σ b 12 = 0 →
    ∃ σ', fX2_layOut_47 fu b (nI j) σ = some (0, σ') ∧ SMI b σ0 σ' ∧ LAY b σ' a (bW σ0 m) (uW σ0 n m) (unW σ0 n m) lo mi := by
  intro d
  induction d with
  | zero =>
    intro j fu σ h1 h2 hs hL h12
    obtain ⟨fu, rfl⟩ : ∃ q, fu = q + 1 := ⟨fu - 1, by omega⟩
    have hD' := sd_dat (smi_sd hs (by omega)) hD
    have hm5 := hD.1.2.2.2
    have hn5 := hD.1.2.1
    have hj : j = m := by omega
    subst hj
    obtain ⟨σ', q1, q2, q3⟩ := lo_80 (a := a) (bb := bW σ0 j) (lo := lo) (mi := mi) hb hD n 0 FU σ (by omega) (by unfold FU; omega) hs (lay_congr hL (fun _ _ => rfl) (fun _ _ => rfl) (fun w hw => by unfold uP; rw [if_neg (by omega)])) (fun k hk => by rw [h12] at hk; omega)
    refine ⟨σ', ?_, q2, q3⟩
    rw [← q1]
    show fX2_layOut_47b _ _ _ _ = _
    unfold fX2_layOut_47b
    rw [if_pos (by rw [leI, nI_t (by omega)]; exact Int.le_of_eq hD'.1.2.2.1)]
    rfl
  | succ d ih =>
    intro j fu σ h1 h2 hs hL h12
    obtain ⟨fu, rfl⟩ : ∃ q, fu = q + 1 := ⟨fu - 1, by omega⟩
    have hsd := smi_sd hs (show 10 ≤ b by omega)
    have hD' := sd_dat hsd hD
    have hm5 := hD.1.2.2.2
    have e6 : (rI σ 6 j).toInt = vI σ0 6 j := sd_vI hsd (by omega) (by omega) _
    have h3 := hD.2.2.1
    obtain ⟨σ1, e1, s1, L1, z1⟩ := s_letLack (i := j) (x := rI σ 6 j) hL (by omega) hlm (by have := h3 j (by omega); rw [e6]; omega) ha (fun k hk => by
      split
      · have := h3 k (by omega); omega
      · omega)
    rw [e6] at L1
    obtain ⟨σ', q1, q2, q3⟩ := ih (j + 1) fu σ1 (by omega) (by omega) (hs.tr s1) (lay_congr L1 (fun _ _ => rfl) (fun k hk => by
      by_cases e : k = j
      · subst e; rw [if_pos rfl, if_neg (by omega), if_pos (by omega)]; omega
      · rw [if_neg e]
        by_cases h : k < j
        · rw [if_pos h, if_pos (by omega)]
        · rw [if_neg h, if_neg (by omega)]) (fun _ _ => rfl)) (by rw [z1]; exact h12)
    refine ⟨σ', ?_, q2, q3⟩
    rw [← q1]
    show fX2_layOut_47b _ _ _ _ = _
    unfold fX2_layOut_47b
    have hle : ¬ rI σ 4 2 ≤ nI j := by
      rw [leI, nI_t (by omega)]
      have : (rI σ 4 2).toInt = m := hD'.1.2.2.1
      omega
    rw [if_neg hle, inb_n (show j < 5 by omega) (by omega), grd_t, ix_n (n := j) (by omega), e1, bnd_s, nI_1]
theorem lo_14 (hb : 13 ≤ b) (hD : DAT σ0 n m) {lo mi : Int} (hlm : 0 ≤ lo ∧ lo ≤ 10000 ∧ 0 ≤ mi ∧ mi ≤ 10000) : ∀ (d j fu : Nat) (σ : Mem), j + d = n → d < fu → SMI b σ0 σ → LAY b σ (fun k => if k < j then vI σ0 3 k else 0) (fun _ => 0) (fun _ => 0) (unW σ0 n m) lo mi → vI σ b 12 = 0 →
    ∃ σ', fX2_layOut_14 fu b (nI j) σ = some (0, σ') ∧ SMI b σ0 σ' ∧ LAY b σ' (aW σ0 n) (bW σ0 m) (uW σ0 n m) (unW σ0 n m) lo mi := by
  have h2a := hD.2.1
  intro d
  induction d with
  | zero =>
    intro j fu σ h1 h2 hs hL h12
    obtain ⟨fu, rfl⟩ : ∃ q, fu = q + 1 := ⟨fu - 1, by omega⟩
    have hD' := sd_dat (smi_sd hs (by omega)) hD
    have hm5 := hD.1.2.2.2
    have hn5 := hD.1.2.1
    have hj : j = n := by omega
    subst hj
    obtain ⟨σ', q1, q2, q3⟩ := lo_47 (a := aW σ0 j) hb hD hlm (fun k hk => by
      unfold aW
      split
      · have := h2a k (by omega); omega
      · omega) m 0 FU σ (by omega) (by unfold FU; omega) hs (lay_congr hL (fun _ _ => rfl) (fun k hk => by rw [if_neg (by omega)]) (fun _ _ => rfl)) h12
    refine ⟨σ', ?_, q2, q3⟩
    rw [← q1]
    show fX2_layOut_14b _ _ _ _ = _
    unfold fX2_layOut_14b
    rw [if_pos (by rw [leI, nI_t (by omega)]; exact Int.le_of_eq hD'.1.1)]
    rfl
  | succ d ih =>
    intro j fu σ h1 h2 hs hL h12
    obtain ⟨fu, rfl⟩ : ∃ q, fu = q + 1 := ⟨fu - 1, by omega⟩
    have hsd := smi_sd hs (show 10 ≤ b by omega)
    have hD' := sd_dat hsd hD
    have hn5 := hD.1.2.1
    have e6 : (rI σ 3 j).toInt = vI σ0 3 j := sd_vI hsd (by omega) (by omega) _
    obtain ⟨σ1, e1, s1, L1, z1⟩ := s_letStay (i := j) (x := rI σ 3 j) hL (by omega) hlm (by have := h2a j (by omega); rw [e6]; omega) (fun k hk => by
      split
      · have := h2a k (by omega); omega
      · omega) (fun k hk => by omega)
    rw [e6] at L1
    obtain ⟨σ', q1, q2, q3⟩ := ih (j + 1) fu σ1 (by omega) (by omega) (hs.tr s1) (lay_congr L1 (fun k hk => by
      by_cases e : k = j
      · subst e; rw [if_pos rfl, if_neg (by omega), if_pos (by omega)]; omega
      · rw [if_neg e]
        by_cases h : k < j
        · rw [if_pos h, if_pos (by omega)]
        · rw [if_neg h, if_neg (by omega)]) (fun _ _ => rfl) (fun _ _ => rfl)) (by rw [z1]; exact h12)
    refine ⟨σ', ?_, q2, q3⟩
    rw [← q1]
    show fX2_layOut_14b _ _ _ _ = _
    unfold fX2_layOut_14b
    have hle : ¬ rI σ 1 2 ≤ nI j := by
      rw [leI, nI_t (by omega)]
      have : (rI σ 1 2).toInt = n := hD'.1.1
      omega
    rw [if_neg hle, inb_n (show j < 5 by omega) (by omega), grd_t, ix_n (n := j) (by omega), e1, bnd_s, nI_1]
theorem s_layOut (hb : ki b = 3) (hD : DAT σ0 n m) : ∃ σ', fX2_layOut b σ0 = some (0, σ') ∧ SMI b σ0 σ' ∧ LAY b σ' (aW σ0 n) (bW σ0 m) (uW σ0 n m) (unW σ0 n m) (vI σ0 0 12) (vI σ0 0 13) := by
  have hb' : 13 ≤ b := by rcases ki_3 hb with rfl | rfl <;> omega
  obtain ⟨σ1, e1, s1, L1, z1⟩ := s_begin (x := rI σ0 0 12) (y := rI σ0 0 13) (σ := σ0) hb (unW σ0 n m)
  have hn5 := hD.1.2.1
  obtain ⟨σ', q1, q2, q3⟩ := lo_14 hb' hD hD.2.2.2.2.2.2.2.2 n 0 FU σ1 (by omega) (by unfold FU; omega) s1 (lay_congr L1 (fun k hk => by rw [if_neg (by omega)]) (fun _ _ => rfl) (fun _ _ => rfl)) z1
  refine ⟨σ', ?_, q2, q3⟩
  unfold fX2_layOut fX2_layOut_e
  rw [e1, bnd_s]
  exact q1
end LAYOUT
