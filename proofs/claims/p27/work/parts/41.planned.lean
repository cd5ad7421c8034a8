/-! Least costs and first plans; the carrier's plan kept. -/
def cst (a bb un : Nat → Int) (lo mi : Int) (f : Nat → Int) : Int := lo * sm 5 a + mi * sm 5 bb + tot (fun w => (un w - lo - mi) * f w)
def Lst (a bb u un : Nat → Int) (lo mi c : Int) : Prop := (∃ f, Fea a bb u f ∧ cst a bb un lo mi f = c) ∧ ∀ g, Fea a bb u g → c ≤ cst a bb un lo mi g
def Lex (a bb u un : Nat → Int) (lo mi : Int) (f : Nat → Int) : Prop := Fea a bb u f ∧ (∀ g, Fea a bb u g → cst a bb un lo mi f ≤ cst a bb un lo mi g) ∧
  ∀ g, Fea a bb u g → cst a bb un lo mi g = cst a bb un lo mi f → ∀ w0, w0 < 25 → (∀ w, w < w0 → g w = f w) → g w0 ≤ f w0
theorem lst_uni {a bb u un : Nat → Int} {lo mi c c' : Int} (h : Lst a bb u un lo mi c) (h' : Lst a bb u un lo mi c') : c = c' := by
  obtain ⟨⟨f, f1, f2⟩, f3⟩ := h
  obtain ⟨⟨g, g1, g2⟩, g3⟩ := h'
  have := f3 g g1
  have := g3 f f1
  omega
theorem lex_lst {a bb u un : Nat → Int} {lo mi : Int} {f : Nat → Int} (h : Lex a bb u un lo mi f) : Lst a bb u un lo mi (cst a bb un lo mi f) := ⟨⟨f, h.1, rfl⟩, h.2.1⟩
theorem lex_uni {a bb u un : Nat → Int} {lo mi : Int} {f g : Nat → Int} (hf : Lex a bb u un lo mi f) (hg : Lex a bb u un lo mi g) : ∀ n w, w < n → w < 25 → f w = g w := by
  have e : cst a bb un lo mi f = cst a bb un lo mi g := lst_uni (lex_lst hf) (lex_lst hg)
  intro n
  induction n with
  | zero => intro w h; omega
  | succ n ih =>
    intro w h1 h2
    by_cases h : w < n
    · exact ih w h h2
    · have hw : w = n := by omega
      subst hw
      have q1 := hf.2.2 g hg.1 e.symm w h2 (fun k hk => (ih k hk (by omega)).symm)
      have q2 := hg.2.2 f hf.1 e w h2 (fun k hk => ih k hk (by omega))
      omega
theorem best_of {b : Nat} {σ : Mem} {a bb u un p q : Nat → Int} {lo mi : Int} (hP : PLAN b σ a bb u un lo mi) (hC : Cert a bb u (cno un) (fl b σ) p q (2 ^ 25 * (lo + mi))) : Lst a bb u un lo mi (vI σ b 4) ∧ Lex a bb u un lo mi (fl b σ) := by
  have hF := plan_fea hP
  have hlm := hP.1.2.1
  have et : ∀ g : Nat → Int, tot (fun w => (un w - lo - mi) * g w) = tot (fun w => (un w - (lo + mi)) * g w) := fun g => by
    congr 1
    funext w
    rw [Int.sub_sub]
  have key := fun g hg => lex_opt (Cb := 20000) (c := un) (T := lo + mi) hC hF (fun w hw => by have := (hP.1.1 w hw).2.2.1; omega) (fun w hw => by have := (hP.1.1 w hw).2.2.2.2; omega) ⟨by omega, by omega⟩ (g := g) hg
  have hL : Lex a bb u un lo mi (fl b σ) := by
    refine ⟨hF, fun g hg => ?_, fun g hg he => ?_⟩
    · have := (key g hg).1
      unfold cst
      rw [et, et]
      omega
    · refine (key g hg).2 ?_
      unfold cst at he
      rw [et, et] at he
      omega
  exact ⟨by have h := lex_lst hL; rw [hP.2.2.2.2]; exact h, hL⟩
def BST (b : Nat) (σ : Mem) (a bb u un : Nat → Int) (lo mi : Int) : Prop := PLAN b σ a bb u un lo mi ∧ ∃ p q, Cert a bb u (cno un) (fl b σ) p q (2 ^ 25 * (lo + mi))
/-- nothing that a plan reads has changed -/
theorem plan_eq {b : Nat} {σ σ' : Mem} {a bb u un : Nat → Int} {lo mi : Int} (h : ∀ k, b ≤ k → k ≤ b + 10 → σ'.1 k = σ.1 k ∧ σ'.2 k = σ.2 k) (hB : BST b σ a bb u un lo mi) : BST b σ' a bb u un lo mi := by
  have e : ∀ k, b ≤ k → k ≤ b + 10 → ∀ i, vI σ' k i = vI σ k i := fun k h1 h2 i => by unfold vI rI; rw [(h k h1 h2).1]
  have eJ : ∀ k, b ≤ k → k ≤ b + 10 → ∀ i, vJ σ' k i = vJ σ k i := fun k h1 h2 i => by unfold vJ rJ; rw [(h k h1 h2).2]
  have ef : fl b σ' = fl b σ := by funext w; exact e _ (by omega) (by omega) w
  obtain ⟨⟨⟨h1, h2, h3, h4⟩, h5, h6, h7, h8⟩, hC⟩ := hB
  refine ⟨⟨⟨fun w hw => ?_, h2, by rw [e _ (by omega) (by omega)]; exact h3, by rw [e _ (by omega) (by omega)]; exact h4⟩, fun w hw hu => by rw [eJ _ (by omega) (by omega)]; exact h5 w hw hu, fun i hi => ?_, fun j hj => ?_, ?_⟩, by rw [ef]; exact hC⟩
  · rw [ef, e _ (by omega) (by omega), e _ (by omega) (by omega)]; exact h1 w hw
  · rw [ef, e _ (by omega) (by omega)]; exact h6 i hi
  · rw [ef, e _ (by omega) (by omega)]; exact h7 j hj
  · rw [ef, e _ (by omega) (by omega)]; exact h8
/-- nothing but the plans and the flag -/
def SQ (σ σ' : Mem) : Prop := (∀ k, 1 ≤ k → k < 13 ∨ 35 ≤ k ∧ k < 35 → σ'.1 k = σ.1 k ∧ σ'.2 k = σ.2 k) ∧ ∀ i, i ≠ 14 → rI σ' 0 i = rI σ 0 i
theorem SQ.rf {σ : Mem} : SQ σ σ := ⟨fun _ _ _ => ⟨rfl, rfl⟩, fun _ _ => rfl⟩
theorem SQ.tr {σ σ1 σ2 : Mem} (h1 : SQ σ σ1) (h2 : SQ σ1 σ2) : SQ σ σ2 := ⟨fun k a c => ⟨(h2.1 k a c).1.trans (h1.1 k a c).1, (h2.1 k a c).2.trans (h1.1 k a c).2⟩, fun i a => (h2.2 i a).trans (h1.2 i a)⟩
theorem sq_sd {σ σ' : Mem} (h : SQ σ σ') : SD σ σ' := ⟨fun k h1 h2 => (h.1 k h1 (by omega)).1, h.2⟩
theorem smi_sq {b : Nat} {σ σ' : Mem} (h : SMI b σ σ') (hb : ki b = 3) : SQ σ σ' := by
  have hb' : 13 ≤ b ∧ b + 10 < 35 := by rcases ki_3 hb with rfl | rfl <;> omega
  exact ⟨fun k h1 h2 => h k (by omega), fun i _ => by unfold rI; rw [(h 0 (by omega)).1]⟩
theorem sq_vI {σ σ' : Mem} (h : SQ σ σ') {k : Nat} (h1 : 1 ≤ k) (h2 : k < 13 ∨ 35 ≤ k ∧ k < 35) (i : Nat) : vI σ' k i = vI σ k i := by
  unfold vI rI; rw [(h.1 k h1 h2).1]
def INV (σ : Mem) (n m : Nat) : Prop := DAT σ n m ∧ (vI σ 0 14 = 0 ∨ (vI σ 0 14 = 1 ∧ BST 13 σ (aW σ n) (bW σ m) (uW σ n m) (unW σ n m) (vI σ 0 12) (vI σ 0 13)))
theorem aW_bd {σ : Mem} {n m : Nat} (hD : DAT σ n m) : ∀ i, i < 5 → 0 ≤ aW σ n i ∧ aW σ n i ≤ 20 := fun i hi => by
  unfold aW
  split
  · have := hD.2.1 i (by omega); omega
  · omega
theorem bW_bd {σ : Mem} {n m : Nat} (hD : DAT σ n m) : ∀ i, i < 5 → 0 ≤ bW σ m i ∧ bW σ m i ≤ 20 := fun i hi => by
  unfold bW
  split
  · have := hD.2.2.1 i (by omega); omega
  · omega
theorem uW_bd {σ : Mem} {n m : Nat} (hD : DAT σ n m) : ∀ w, w < 25 → 0 ≤ uW σ n m w ∧ uW σ n m w ≤ 20 := fun w hw => by
  unfold uW
  have := hD.2.2.2.1 w hw
  split
  · split <;> omega
  · omega
theorem unW_bd {σ : Mem} {n m : Nat} (hD : DAT σ n m) : ∀ w, w < 25 → 0 ≤ unW σ n m w ∧ unW σ n m w ≤ 10000 := fun w hw => by
  unfold unW
  split
  · rename_i h; exact unD_bd hD h.1 h.2
  · omega
theorem sm_bd {a : Nat → Int} {M : Int} (h : ∀ i, i < 5 → 0 ≤ a i ∧ a i ≤ M) : 0 ≤ sm 5 a ∧ sm 5 a ≤ 5 * M := by
  have q0 := h 0 (by omega); have q1 := h 1 (by omega); have q2 := h 2 (by omega); have q3 := h 3 (by omega); have q4 := h 4 (by omega)
  simp only [sm]
  omega
/-- laid out and improved, a plan is best -/
theorem s_best {b : Nat} {σ : Mem} {a bb u un : Nat → Int} {lo mi : Int} (hb : ki b = 3) (h : LAY b σ a bb u un lo mi) (hlm : 0 ≤ lo ∧ lo ≤ 10000 ∧ 0 ≤ mi ∧ mi ≤ 10000) (ha : ∀ i, i < 5 → 0 ≤ a i ∧ a i ≤ 21) (hbb : ∀ j, j < 5 → 0 ≤ bb j ∧ bb j ≤ 20) (hu : ∀ w, w < 25 → 0 ≤ u w ∧ u w ≤ 20) (hun : ∀ w, w < 25 → 0 ≤ un w ∧ un w ≤ 10000) :
    ∃ σ', fX0_improve b σ = some (0, σ') ∧ SMI b σ σ' ∧ BST b σ' a bb u un lo mi := by
  have hP := lay_plan h hlm ha (fun j hj => by have := hbb j hj; omega) hu hun
  obtain ⟨σ', p, q, e1, s1, P1, C1⟩ := s_improve hb hP h.2.2.2.2.2.2.2 h.2.2.1 (by have := sm_bd hbb; omega)
  exact ⟨σ', e1, s1, P1, p, q, C1⟩
theorem s_planned {σ : Mem} {n m : Nat} (hI : INV σ n m) : ∃ σ', fX2_planned σ = some (13, σ') ∧ SQ σ σ' ∧ INV σ' n m ∧ BST 13 σ' (aW σ n) (bW σ m) (uW σ n m) (unW σ n m) (vI σ 0 12) (vI σ 0 13) := by
  obtain ⟨hD, h⟩ := hI
  unfold fX2_planned fX2_planned_e fX2_planned_27 ltM
  rcases h with h0 | ⟨h1, hB⟩
  · rw [if_pos ((vIe I_0).mpr h0)]
    obtain ⟨σ1, e1, s1, L1⟩ := s_layOut (b := 13) rfl hD
    obtain ⟨σ2, e2, s2, B2⟩ := s_best (b := 13) rfl L1 hD.2.2.2.2.2.2.2.2 (fun i hi => by have := aW_bd hD i hi; omega) (bW_bd hD) (uW_bd hD) (unW_bd hD)
    rw [e1, bnd_s, e2, bnd_s]
    have sq2 := smi_sq (s1.tr s2) (b := 13) rfl
    have sq3 : SQ σ (wI σ2 0 14 1) := ⟨fun k h1 h2 => ⟨(wI_ne σ2 14 1 (by omega)).1.trans (sq2.1 k h1 h2).1, (sq2.1 k h1 h2).2⟩, fun i hi => by rw [rI_w, if_neg (fun q => hi q.2)]; exact sq2.2 i hi⟩
    have B3 : BST 13 (wI σ2 0 14 1) (aW σ n) (bW σ m) (uW σ n m) (unW σ n m) (vI σ 0 12) (vI σ 0 13) := plan_eq (fun k h1 h2 => ⟨(wI_ne σ2 14 1 (by omega)).1, rfl⟩) B2
    have sd3 := sq_sd sq3
    refine ⟨_, rfl, sq3, ⟨sd_dat sd3 hD, Or.inr ⟨?_, ?_⟩⟩, B3⟩
    · rw [vI_w, if_pos ⟨rfl, rfl⟩]; decide
    · rw [sd_aW sd3, sd_bW sd3, sd_uW sd3, sd_unW sd3, sd_v0 sd3 (by omega), sd_v0 sd3 (by omega)]
      exact B3
  · rw [if_neg (fun e => by have := (vIe I_0).mp e; omega)]
    exact ⟨σ, rfl, SQ.rf, ⟨hD, Or.inr ⟨h1, hB⟩⟩, hB⟩
theorem bst_24 {σ σ' : Mem} {a bb u un : Nat → Int} {lo mi : Int} (h : SMI 24 σ σ') (hB : BST 13 σ a bb u un lo mi) : BST 13 σ' a bb u un lo mi := plan_eq (fun k h1 h2 => h k (by omega)) hB
theorem inv_24 {σ σ' : Mem} {n m : Nat} (h : SMI 24 σ σ') (hI : INV σ n m) : INV σ' n m := by
  obtain ⟨hD, hF⟩ := hI
  have sd3 := smi_sd h (by omega)
  refine ⟨sd_dat sd3 hD, ?_⟩
  have e : vI σ' 0 14 = vI σ 0 14 := by unfold vI rI; rw [(h 0 (by omega)).1]
  rw [e, sd_aW sd3, sd_bW sd3, sd_uW sd3, sd_unW sd3, sd_v0 sd3 (by omega), sd_v0 sd3 (by omega)]
  rcases hF with h0 | ⟨h1, hB⟩
  · exact Or.inl h0
  · exact Or.inr ⟨h1, bst_24 h hB⟩
/-- the other plan's cost beside the kept one's -/
theorem other_cost {σ0 σ : Mem} {n m : Nat} {a bb u : Nat → Int} (hI : INV σ0 n m) (hs : SMI 24 σ0 σ) (hL : LAY 24 σ a bb u (unW σ0 n m) (vI σ0 0 12) (vI σ0 0 13)) (ha : ∀ i, i < 5 → 0 ≤ a i ∧ a i ≤ 21) (hbb : ∀ j, j < 5 → 0 ≤ bb j ∧ bb j ≤ 20) (hu : ∀ w, w < 25 → 0 ≤ u w ∧ u w ≤ 20) :
    ∃ (σ1 σ2 : Mem), fX0_improve 24 σ = some (0, σ1) ∧ fX2_planned σ1 = some (13, σ2) ∧ SQ σ0 σ2 ∧ INV σ2 n m ∧ vI σ2 24 4 = vI σ1 24 4 ∧ Lst a bb u (unW σ0 n m) (vI σ0 0 12) (vI σ0 0 13) (vI σ1 24 4) ∧ Lst (aW σ0 n) (bW σ0 m) (uW σ0 n m) (unW σ0 n m) (vI σ0 0 12) (vI σ0 0 13) (vI σ2 13 4) ∧ (-100000000 ≤ vI σ1 24 4 ∧ vI σ1 24 4 ≤ 100000000) ∧ (-100000000 ≤ vI σ2 13 4 ∧ vI σ2 13 4 ≤ 100000000) := by
  have hD := hI.1
  obtain ⟨σ1, e1, s1, B1, p, q, C1⟩ := s_best (b := 24) rfl hL hD.2.2.2.2.2.2.2.2 ha hbb hu (unW_bd hD)
  have s01 := hs.tr s1
  have I1 := inv_24 s01 hI
  have sd1 := smi_sd s01 (by omega)
  obtain ⟨σ2, e2, s2, I2, B2⟩ := s_planned I1
  rw [sd_aW sd1, sd_bW sd1, sd_uW sd1, sd_unW sd1, sd_v0 sd1 (by omega), sd_v0 sd1 (by omega)] at B2
  obtain ⟨P2, p', q', C2⟩ := B2
  have h24 : vI σ2 24 4 = vI σ1 24 4 := by
    unfold fX2_planned fX2_planned_e fX2_planned_27 ltM at e2
    by_cases h0 : rI σ1 0 14 = 0
    · rw [if_pos h0] at e2
      obtain ⟨σ3, e3, s3, L3⟩ := s_layOut (b := 13) rfl I1.1
      obtain ⟨σ4, e4, s4, B4⟩ := s_best (b := 13) rfl L3 I1.1.2.2.2.2.2.2.2.2 (fun i hi => by have := aW_bd I1.1 i hi; omega) (bW_bd I1.1) (uW_bd I1.1) (unW_bd I1.1)
      rw [e3, bnd_s, e4, bnd_s] at e2
      have e5 := (Prod.mk.inj (Option.some.inj e2)).2
      rw [← e5, vI_wne (by omega)]
      unfold vI rI
      rw [((s3.tr s4) 24 (by omega)).1]
    · rw [if_neg h0] at e2
      have e5 := (Prod.mk.inj (Option.some.inj e2)).2
      rw [← e5]
  exact ⟨σ1, σ2, e1, e2, (smi_sq s01 rfl).tr s2, I2, h24, (best_of B1 C1).1, (best_of P2 C2).1, plan_cost B1, plan_cost P2⟩
