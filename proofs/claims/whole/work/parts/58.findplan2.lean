/-! The Model's findPlan gives the first of the least plans. -/
section FIND2
variable {n m : Nat}
/-- where findPlan stands at way w -/
def FPL (σ : Mem) (n m : Nat) (f : Nat → Int) (w : Nat) (τ : Mem) : Prop :=
  M0 τ n m (fun i => aW σ n i - rowS (msk w f) i) (fun j => bW σ m j - colS (msk w f) j) (nmk w (uM σ n m)) ∧ ∀ k, k < w → vI τ 49 k = f k
theorem lex_ex {σ : Mem} (hI : INV σ n m) : Lex (aW σ n) (bW σ m) (uM σ n m) (unW σ n m) (vI σ 0 12) (vI σ 0 13) (lf σ n m) := by
  obtain ⟨σ', e1, s1, I1, P1, p, q, C1⟩ := s_planned hI
  have hL := (best_of P1 C1).2
  have hiff := fea_iff (a := aW σ n) (bb := bW σ m) (u := uM σ n m) (u' := uW σ n m) (fun j hj => (bW_bd hI.1 j hj).2) (fun w _ => uM_uW w)
  have h2 : Lex (aW σ n) (bW σ m) (uW σ n m) (unW σ n m) (vI σ 0 12) (vI σ 0 13) (lf σ n m) := Classical.epsilon_spec (p := fun f => Lex (aW σ n) (bW σ m) (uW σ n m) (unW σ n m) (vI σ 0 12) (vI σ 0 13) f) ⟨_, hL⟩
  obtain ⟨g1, g2, g3⟩ := h2
  exact ⟨(hiff _).mpr g1, fun g hg => g2 g ((hiff g).mp hg), fun g hg => g3 g ((hiff g).mp hg)⟩
/-- frame of findPlan -/
def SMF (σ σ' : Mem) : Prop := ∀ k, ¬ (43 ≤ k ∧ k ≤ 49) → σ'.1 k = σ.1 k ∧ σ'.2 k = σ.2 k
theorem SMF.tr {σ σ1 σ2 : Mem} (h1 : SMF σ σ1) (h2 : SMF σ1 σ2) : SMF σ σ2 := fun k a => ⟨(h2 k a).1.trans (h1 k a).1, (h2 k a).2.trans (h1 k a).2⟩
theorem smf_smm {σ σ' : Mem} (h : SMF σ σ') : SMM σ σ' := ⟨fun k h1 h2 => h k h1, fun i _ => by unfold rI; rw [(h 35 (by omega)).1]⟩
theorem smt_smf {σ σ' : Mem} (h : SMT σ σ') : SMF σ σ' := fun k hk => ⟨h.1 k (by omega), by rw [h.2]⟩
theorem smf_w {σ : Mem} {k i : Nat} {v : Int32} (h : 43 ≤ k ∧ k ≤ 49) : SMF σ (wI σ k i v) := fun k' h' => ⟨(wI_ne σ i v (by omega)).1, rfl⟩
variable {σ : Mem} {f : Nat → Int}
theorem msk_le (hF : Fea (aW σ n) (bW σ m) (uM σ n m) f) {w : Nat} (hw : w < 25) : f w ≤ aW σ n (w / 5) - rowS (msk w f) (w / 5) ∧ f w ≤ bW σ m (w % 5) - colS (msk w f) (w % 5) := by
  have e : 5 * (w / 5) + w % 5 = w := by omega
  have key : ∀ k, k < 25 → (if k = 5 * (w / 5) + w % 5 then msk w f k + f w else msk w f k) ≤ f k := fun k hk => by
    rw [e]
    unfold msk
    by_cases h : k = w
    · subst h; rw [if_pos rfl, if_neg (by omega)]; omega
    · rw [if_neg h]
      have := (hF.1 k hk).1
      split <;> omega
  have r1 : rowS (fun k => if k = 5 * (w / 5) + w % 5 then msk w f k + f w else msk w f k) (w / 5) ≤ rowS f (w / 5) := sm_le (fun j hj => key _ (by omega))
  have r2 : colS (fun k => if k = 5 * (w / 5) + w % 5 then msk w f k + f w else msk w f k) (w % 5) ≤ colS f (w % 5) := sm_le (fun i hi => key _ (by omega))
  rw [rowS_upd (by omega) (by omega) (by omega), if_pos rfl] at r1
  rw [colS_upd (by omega) (by omega) (by omega), if_pos rfl] at r2
  have := hF.2.1 (w / 5) (by omega)
  have := hF.2.2 (w % 5) (by omega)
  omega
theorem msk_step {w : Nat} (x : Int) : (fun k => if k = w then x else msk w f k) = fun k => msk w f k + (if k = w then x else 0) := by
  funext k
  unfold msk
  by_cases h : k = w
  · subst h; rw [if_pos rfl, if_neg (by omega), if_pos rfl]; omega
  · rw [if_neg h, if_neg h]; omega
theorem nmk_step {w : Nat} {u : Nat → Int} : (fun k => if k = w then 0 else nmk w u k) = nmk (w + 1) u := by
  funext k
  unfold nmk
  by_cases h : k = w
  · subst h; rw [if_pos rfl, if_pos (by omega)]
  · rw [if_neg h]
    by_cases h2 : k < w
    · rw [if_pos h2, if_pos (by omega)]
    · rw [if_neg h2, if_neg (by omega)]
theorem row_x {w : Nat} (hw : w < 25) (g : Nat → Int) (x : Int) {i : Nat} (hi : i < 5) : rowS (fun k => g k + (if k = w then x else 0)) i = rowS g i + (if i = w / 5 then x else 0) := by
  rw [row_add]
  congr 1
  have e : 5 * (w / 5) + w % 5 = w := by omega
  have h := row_one (i := w / 5) (j := w % 5) (by omega) (by omega) x hi
  rw [e] at h
  exact h
theorem col_x {w : Nat} (hw : w < 25) (g : Nat → Int) (x : Int) {i : Nat} (hi : i < 5) : colS (fun k => g k + (if k = w then x else 0)) i = colS g i + (if i = w % 5 then x else 0) := by
  rw [col_add]
  congr 1
  have e : 5 * (w / 5) + w % 5 = w := by omega
  have h := col_one (i := w / 5) (j := w % 5) (by omega) (by omega) x hi
  rw [e] at h
  exact h
theorem lst_ab {a a' bb bb' u un : Nat → Int} {lo mi c : Int} (ha : ∀ i, i < 5 → a i = a' i) (hb : ∀ j, j < 5 → bb j = bb' j) (h : Lst a bb u un lo mi c) : Lst a' bb' u un lo mi c := by
  have ef : ∀ g, Fea a bb u g ↔ Fea a' bb' u g := fun g => by
    constructor
    · intro hg; exact ⟨hg.1, fun i hi => by rw [← ha i hi]; exact hg.2.1 i hi, fun j hj => by rw [← hb j hj]; exact hg.2.2 j hj⟩
    · intro hg; exact ⟨hg.1, fun i hi => by rw [ha i hi]; exact hg.2.1 i hi, fun j hj => by rw [hb j hj]; exact hg.2.2 j hj⟩
  have ec : ∀ g, cst a bb un lo mi g = cst a' bb' un lo mi g := fun g => by
    unfold cst
    rw [sm_congr ha, sm_congr hb]
  obtain ⟨⟨g, g1, g2⟩, g3⟩ := h
  exact ⟨⟨g, (ef g).mp g1, by rw [← ec]; exact g2⟩, fun g hg => by rw [← ec]; exact g3 g ((ef g).mpr hg)⟩
/-- what the rest costs at least when way w is set to x: due is met just when a first plan can have it -/
theorem due_iff (hL : Lex (aW σ n) (bW σ m) (uM σ n m) (unW σ n m) (vI σ 0 12) (vI σ 0 13) f) {w : Nat} (hw : w < 25) {x L : Int} (hx : f w ≤ x ∧ x ≤ uM σ n m w)
    (h : Lst (fun i => (aW σ n i - rowS (msk w f) i) - (if i = w / 5 then x else 0)) (fun j => (bW σ m j - colS (msk w f) j) - (if j = w % 5 then x else 0)) (fun k => if k = w then 0 else nmk w (uM σ n m) k) (unW σ n m) (vI σ 0 12) (vI σ 0 13) L) :
    (L + x * unW σ n m w = cst (aW σ n) (bW σ m) (unW σ n m) (vI σ 0 12) (vI σ 0 13) f - tot (fun k => unW σ n m k * msk w f k)) ↔ x = f w := by
  obtain ⟨hF, hmin, hlex⟩ := hL
  have hf0 := (hF.1 w hw).1
  have h2 := lst_ab (a' := fun i => aW σ n i - rowS (fun k => if k = w then x else msk w f k) i) (bb' := fun j => bW σ m j - colS (fun k => if k = w then x else msk w f k) j) (fun i hi => by rw [msk_step, row_x hw _ _ hi]; omega) (fun j hj => by rw [msk_step, col_x hw _ _ hj]; omega) h
  rw [nmk_step] at h2
  have hs := shift_lst (w := w + 1) (F := fun k => if k = w then x else msk w f k) (fun k hk => by
    rw [if_neg (by omega)]
    unfold msk
    rw [if_neg (by omega)]) (fun k hk => by
    by_cases e : k = w
    · subst e; rw [if_pos rfl]; omega
    · rw [if_neg e]
      have q1 := hF.1 k hk
      unfold msk
      split <;> omega) h2
  have et : tot (fun k => unW σ n m k * (if k = w then x else msk w f k)) = tot (fun k => unW σ n m k * msk w f k) + x * unW σ n m w := by
    have e : 5 * (w / 5) + w % 5 = w := by omega
    have q := tot_upd (κ := unW σ n m) (g := msk w f) (x := x) (i := w / 5) (h := w % 5) (by omega) (by omega)
    rw [e, Int.mul_comm (unW σ n m w) x] at q
    rw [← q]
    refine tot_congr (fun k _ => ?_)
    by_cases h : k = w
    · subst h
      rw [if_pos rfl, if_pos rfl]
      unfold msk
      rw [if_neg (by omega), Int.zero_add]
    · rw [if_neg h, if_neg h]
  rw [et] at hs
  obtain ⟨⟨G, G1, G2, G3⟩, hall⟩ := hs
  have hGf : ∀ k, k < w → G k = f k := fun k hk => by
    have := G2 k (by omega) (by omega)
    rw [if_neg (by omega)] at this
    unfold msk at this
    rw [if_pos hk] at this
    exact this
  have hGw : G w = x := by
    have := G2 w (by omega) hw
    rw [if_pos rfl] at this
    exact this
  constructor
  · intro he
    have := hlex G G1 (by omega) w hw hGf
    omega
  · intro he
    have h4 := hall f hF (fun k hk hk2 => by
      by_cases e : k = w
      · rw [e, if_pos rfl]; exact he.symm
      · rw [if_neg e]
        unfold msk
        rw [if_pos (by omega)])
    have := hmin G G1
    omega
theorem m_while (hL : Lex (aW σ n) (bW σ m) (uM σ n m) (unW σ n m) (vI σ 0 12) (vI σ 0 13) f) {w : Nat} (hw : w < 25) (hi : w / 5 < n) (hj : w % 5 < m) (due : Int) (hd : due = cst (aW σ n) (bW σ m) (unW σ n m) (vI σ 0 12) (vI σ 0 13) f - tot (fun k => unW σ n m k * msk w f k)) (hD0 : DAT σ n m)
    (hinr : ∀ L x : Int, 0 ≤ x → x ≤ 40 → Lst (fun i => (aW σ n i - rowS (msk w f) i) - (if i = w / 5 then x else 0)) (fun j => (bW σ m j - colS (msk w f) j) - (if j = w % 5 then x else 0)) (fun k => if k = w then 0 else nmk w (uM σ n m) k) (unW σ n m) (vI σ 0 12) (vI σ 0 13) L → inR (L + x * unW σ n m w)) (hdr : inR due) (r7 : Int32 → Int32 → Mem → Option (Int32 × Mem)) :
    ∀ (d fu : Nat) (x : Int) (τ : Mem), x = f w + d → d + 1 < fu → SMF σ τ → REL τ n m → FPL σ n m f w τ → x ≤ uM σ n m w → x ≤ aW σ n (w / 5) - rowS (msk w f) (w / 5) → x ≤ bW σ m (w % 5) - colS (msk w f) (w % 5) →
      ∃ τ', fX3_findPlan_67 r7 fu (oI due) (nI w) (nI (w / 5)) (nI (w % 5)) 1 (oI x) τ = fX3_findPlan_94 r7 (oI due) (nI w) (nI (w / 5)) (nI (w % 5)) 1 (oI (f w)) τ' ∧ SMF σ τ' ∧ REL τ' n m ∧ FPL σ n m f w τ' := by
  have hf0 := (hL.1.1 w hw).1
  have hub := uM_bd hD0 w hw
  intro d
  induction d with
  | zero =>
    intro fu x τ hx hfu hs hR hP h1 h2 h3
    obtain ⟨fu, rfl⟩ : ∃ q, fu = q + 1 := ⟨fu - 1, by omega⟩
    have hxf : x = f w := by omega
    have hdef : ∀ τ', fX3_withFixed (nI w) (oI x) τ = some τ' → 0 < x → fX3_findPlan_67 r7 (fu + 1) (oI due) (nI w) (nI (w / 5)) (nI (w % 5)) 1 (oI x) τ = if τ'.1 = oI due then fX3_findPlan_94 r7 (oI due) (nI w) (nI (w / 5)) (nI (w % 5)) 1 (oI x) τ'.2 else fX3_findPlan_67 r7 fu (oI due) (nI w) (nI (w / 5)) (nI (w % 5)) 1 (oI x + -1) τ'.2 := by
      intro τ' e hp
      show fX3_findPlan_67b _ _ _ _ _ _ _ _ _ = _
      unfold fX3_findPlan_67b
      rw [if_neg (by decide), if_neg (by rw [leI, oI_to (by unfold inR; omega), I_0]; omega), e]
      rfl
    by_cases h0 : x ≤ 0
    · refine ⟨τ, ?_, hs, hR, hP⟩
      show fX3_findPlan_67b _ _ _ _ _ _ _ _ _ = _
      unfold fX3_findPlan_67b
      rw [if_neg (by decide), if_pos (by rw [leI, oI_to (by unfold inR; omega), I_0]; exact h0), hxf]
    · have sd := smm_sd (smf_smm hs)
      obtain ⟨τ1, e1, s1, M1, L1⟩ := m_withFixed (x := x) hR hP.1 hw hi hj ⟨by omega, h2, h3⟩
      rw [sd_unW sd, sd_v0 sd (show 12 ≠ 14 by omega), sd_v0 sd (show 13 ≠ 14 by omega)] at e1 L1
      have hiff := due_iff hL hw ⟨by omega, h1⟩ L1
      rw [← hd] at hiff
      rw [hdef _ e1 (by omega), if_pos (by rw [hiff.mpr hxf])]
      rw [hxf]
      exact ⟨τ1, rfl, hs.tr (smt_smf s1), smm_rel (smt_smm s1) hR, M1, fun k hk => by
        have : vI τ1 49 k = vI τ 49 k := by unfold vI rI; rw [s1.1 49 (by omega)]
        rw [this]; exact hP.2 k hk⟩
  | succ d ih =>
    intro fu x τ hx hfu hs hR hP h1 h2 h3
    obtain ⟨fu, rfl⟩ : ∃ q, fu = q + 1 := ⟨fu - 1, by omega⟩
    have sd := smm_sd (smf_smm hs)
    obtain ⟨τ1, e1, s1, M1, L1⟩ := m_withFixed (x := x) hR hP.1 hw hi hj ⟨by omega, h2, h3⟩
    rw [sd_unW sd, sd_v0 sd (show 12 ≠ 14 by omega), sd_v0 sd (show 13 ≠ 14 by omega)] at e1 L1
    have hiff := due_iff hL hw ⟨by omega, h1⟩ L1
    rw [← hd] at hiff
    have hne : ¬ (oI (LV (fun i => (aW σ n i - rowS (msk w f) i) - (if i = w / 5 then x else 0)) (fun j => (bW σ m j - colS (msk w f) j) - (if j = w % 5 then x else 0)) (fun k => if k = w then 0 else nmk w (uM σ n m) k) (unW σ n m) (vI σ 0 12) (vI σ 0 13) + x * unW σ n m w) = oI due) := by
      intro he
      rw [eqI, oI_to (hinr _ x (by omega) (by omega) L1), oI_to hdr] at he
      have := hiff.mp he
      omega
    have hP1 : FPL σ n m f w τ1 := ⟨M1, fun k hk => by
        have : vI τ1 49 k = vI τ 49 k := by unfold vI rI; rw [s1.1 49 (by omega)]
        rw [this]; exact hP.2 k hk⟩
    obtain ⟨τ', w1, w2, w3, w4⟩ := ih fu (x - 1) τ1 (by omega) (by omega) (hs.tr (smt_smf s1)) (smm_rel (smt_smm s1) hR) hP1 (by omega) (by omega) (by omega)
    refine ⟨τ', ?_, w2, w3, w4⟩
    rw [← w1]
    show fX3_findPlan_67b _ _ _ _ _ _ _ _ _ = _
    unfold fX3_findPlan_67b
    have e2 : oI x + -1 = oI (x - 1) := by
      have : (-1 : Int32) = oI (-1) := by decide
      rw [this, oI_add]
      congr 1
    rw [if_neg (by decide), if_neg (by rw [leI, oI_to (by unfold inR; omega), I_0]; omega), e1, bnd_s, if_neg hne, e2]
end FIND2
