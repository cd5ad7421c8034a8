/-! The Model's data beside the carrier's; its small methods. -/
def REL (σ : Mem) (n m : Nat) : Prop :=
  DAT σ n m ∧ (vI σ 35 1 = n ∧ vI σ 35 2 = m) ∧ (vI σ 35 7 = vI σ 0 10 ∧ vI σ 35 8 = vI σ 0 11 ∧ vI σ 35 12 = vI σ 0 12 ∧ vI σ 35 13 = vI σ 0 13) ∧
  (∀ i, i < n → vI σ 36 i = vI σ 2 i ∧ vI σ 37 i = vI σ 3 i) ∧ (∀ j, j < m → vI σ 38 j = vI σ 5 j ∧ vI σ 39 j = vI σ 6 j) ∧
  ∀ w, w < 25 → vI σ 40 w = vI σ 7 w ∧ vI σ 41 w = vI σ 8 w ∧ True
/-- only the Model's scratch differs -/
def SMM (σ σ' : Mem) : Prop := (∀ k, ¬ (43 ≤ k ∧ k ≤ 49) → k ≠ 35 → σ'.1 k = σ.1 k ∧ σ'.2 k = σ.2 k) ∧ ∀ i, i ≠ 0 → rI σ' 35 i = rI σ 35 i
theorem SMM.rf {σ : Mem} : SMM σ σ := ⟨fun _ _ _ => ⟨rfl, rfl⟩, fun _ _ => rfl⟩
theorem SMM.tr {σ σ1 σ2 : Mem} (h1 : SMM σ σ1) (h2 : SMM σ1 σ2) : SMM σ σ2 := ⟨fun k a c => ⟨(h2.1 k a c).1.trans (h1.1 k a c).1, (h2.1 k a c).2.trans (h1.1 k a c).2⟩, fun i a => (h2.2 i a).trans (h1.2 i a)⟩
theorem smm_sd {σ σ' : Mem} (h : SMM σ σ') : SD σ σ' := ⟨fun k h1 h2 => (h.1 k (by omega) (by omega)).1, fun i _ => by unfold rI; rw [(h.1 0 (by omega) (by omega)).1]⟩
theorem smm_vI {σ σ' : Mem} (h : SMM σ σ') {k : Nat} (h1 : ¬ (43 ≤ k ∧ k ≤ 49)) (h2 : k ≠ 35) (i : Nat) : vI σ' k i = vI σ k i := by
  unfold vI rI; rw [(h.1 k h1 h2).1]
theorem smm_v35 {σ σ' : Mem} (h : SMM σ σ') {i : Nat} (hi : i ≠ 0) : vI σ' 35 i = vI σ 35 i := by
  unfold vI; rw [h.2 i hi]
/-- the plan by hand is the same -/
def HND (σ : Mem) : Prop := ∀ w, w < 25 → vI σ 42 w = vI σ 9 w
theorem smm_hnd {σ σ' : Mem} (h : SMM σ σ') (hH : HND σ) : HND σ' := fun w hw => by
  rw [smm_vI h (by omega) (by omega), smm_vI h (by omega) (by omega)]
  exact hH w hw
theorem smm_rel {σ σ' : Mem} {n m : Nat} (h : SMM σ σ') (hR : REL σ n m) : REL σ' n m := by
  obtain ⟨h1, ⟨h2, h3⟩, ⟨h4, h5, h6, h7⟩, h8, h9, h10⟩ := hR
  have sd := smm_sd h
  have e : ∀ k, ¬ (43 ≤ k ∧ k ≤ 49) → k ≠ 35 → ∀ i, vI σ' k i = vI σ k i := fun k a c i => smm_vI h a c i
  refine ⟨sd_dat sd h1, ⟨by rw [smm_v35 h (by omega)]; exact h2, by rw [smm_v35 h (by omega)]; exact h3⟩, ⟨?_, ?_, ?_, ?_⟩, fun i hi => ?_, fun i hi => ?_, fun w hw => ?_⟩
  · rw [smm_v35 h (by omega), e 0 (by omega) (by omega)]; exact h4
  · rw [smm_v35 h (by omega), e 0 (by omega) (by omega)]; exact h5
  · rw [smm_v35 h (by omega), e 0 (by omega) (by omega)]; exact h6
  · rw [smm_v35 h (by omega), e 0 (by omega) (by omega)]; exact h7
  · rw [e 36 (by omega) (by omega), e 37 (by omega) (by omega), e 2 (by omega) (by omega), e 3 (by omega) (by omega)]; exact h8 i hi
  · rw [e 38 (by omega) (by omega), e 39 (by omega) (by omega), e 5 (by omega) (by omega), e 6 (by omega) (by omega)]; exact h9 i hi
  · rw [e 40 (by omega) (by omega), e 41 (by omega) (by omega), e 7 (by omega) (by omega), e 8 (by omega) (by omega)]; exact h10 w hw
theorem smm_inv {σ σ' : Mem} {n m : Nat} (h : SMM σ σ') (hI : INV σ n m) : INV σ' n m := by
  have sd := smm_sd h
  refine ⟨sd_dat sd hI.1, ?_⟩
  rw [smm_vI h (by omega) (by omega), sd_aW sd, sd_bW sd, sd_uW sd, sd_unW sd, sd_v0 sd (by omega), sd_v0 sd (by omega)]
  rcases hI.2 with h0 | ⟨h1, hB⟩
  · exact Or.inl h0
  · exact Or.inr ⟨h1, plan_eq (fun k h1 h2 => h.1 k (by omega) (by omega)) hB⟩
theorem w_smm {σ : Mem} {k i : Nat} {v : Int32} (h : 43 ≤ k ∧ k ≤ 49) : SMM σ (wI σ k i v) := ⟨fun k' h1 h2 => ⟨(wI_ne σ i v (by omega)).1, rfl⟩, fun i' _ => by rw [rI_w, if_neg (by omega)]⟩
theorem w_smm0 {σ : Mem} {v : Int32} : SMM σ (wI σ 35 0 v) := ⟨fun k' h1 h2 => ⟨(wI_ne σ 0 v h2).1, rfl⟩, fun i' hi => by rw [rI_w, if_neg (fun q => hi q.2)]⟩
section MODEL
variable {σ : Mem} {n m : Nat}
theorem m_goesWell {x : Int32} : fX3_goesWell x σ = some (if x = 0 then 1 else 0, wI σ 35 0 x) := by
  unfold fX3_goesWell fX3_goesWell_e fX3_goesWell_14 ltM
  dsimp only
  by_cases h : x = 0
  · rw [if_pos h, if_pos h]; rfl
  · rw [if_neg h, if_neg h]; rfl
theorem m_in {x a c : Int32} : fX3_in x a c σ = some (if a.toInt ≤ x.toInt ∧ x.toInt ≤ c.toInt then 1 else 0, σ) := by
  unfold fX3_in fX3_in_e fX3_in_14 fX3_in_15
  by_cases h1 : a.toInt ≤ x.toInt
  · rw [if_neg (by rw [ltI']; omega)]
    by_cases h2 : x.toInt ≤ c.toInt
    · rw [if_neg (by rw [ltI']; omega), if_pos ⟨h1, h2⟩]; rfl
    · rw [if_pos (by rw [ltI']; omega), if_neg (fun q => h2 q.2)]; rfl
  · rw [if_pos (by rw [ltI']; omega), if_neg (fun q => h1 q.1)]; rfl
theorem bool_ok (P : Prop) {_ : Decidable P} : decide ((if P then (1 : Int32) else 0) = 0 ∨ (if P then (1 : Int32) else 0) = 1) = true := by
  by_cases h : P <;> simp [h]
theorem m_isHeap {x : Int32} (hR : REL σ n m) : fX3_isHeap x σ = some (if 0 ≤ x.toInt ∧ x.toInt < n then 1 else 0, σ) := by
  unfold fX3_isHeap fX3_isHeap_e
  have h1 := hR.2.1.1
  have h5 := hR.1.1
  have e : (rI σ 35 1 - 1).toInt = (n : Int) - 1 := by
    unfold vI at h1
    rw [tI_sub, h1, I_1]
    rw [h1, I_1]; unfold inR; omega
  rw [m_in, bnd_s, bool_ok, grd_t, I_0, e]
  by_cases h : 0 ≤ x.toInt ∧ x.toInt < n
  · rw [if_pos (by omega), if_pos h]
  · rw [if_neg (by omega), if_neg h]
theorem m_isHole {x : Int32} (hR : REL σ n m) : fX3_isHole x σ = some (if 0 ≤ x.toInt ∧ x.toInt < m then 1 else 0, σ) := by
  unfold fX3_isHole fX3_isHole_e
  have h1 := hR.2.1.2
  have h5 := hR.1.1
  have e : (rI σ 35 2 - 1).toInt = (m : Int) - 1 := by
    unfold vI at h1
    rw [tI_sub, h1, I_1]
    rw [h1, I_1]; unfold inR; omega
  rw [m_in, bnd_s, bool_ok, grd_t, I_0, e]
  by_cases h : 0 ≤ x.toInt ∧ x.toInt < m
  · rw [if_pos (by omega), if_pos h]
  · rw [if_neg (by omega), if_neg h]
theorem m_isWay {x y : Int32} (hR : REL σ n m) : fX3_isWay x y σ = some (if (0 ≤ x.toInt ∧ x.toInt < n) ∧ 0 ≤ y.toInt ∧ y.toInt < m then 1 else 0, σ) := by
  unfold fX3_isWay fX3_isWay_e fX3_isWay_20 fX3_isWay_21
  rw [m_isHeap hR, bnd_s]
  by_cases h1 : 0 ≤ x.toInt ∧ x.toInt < n
  · rw [if_pos h1, if_neg (by decide), m_isHole hR, bnd_s]
    by_cases h2 : 0 ≤ y.toInt ∧ y.toInt < m
    · rw [if_pos h2, if_neg (by decide), if_pos ⟨h1, h2⟩]; rfl
    · rw [if_neg h2, if_pos rfl, if_neg (fun q => h2 q.2)]; rfl
  · rw [if_neg h1, if_pos rfl, if_neg (fun q => h1 q.1)]; rfl
theorem m_isOne {v x : Int32} (hR : REL σ n m) : fX3_isOne v x σ = some (if 0 ≤ x.toInt ∧ x.toInt < szOf n m v then 1 else 0, σ) := by
  unfold fX3_isOne fX3_isOne_e fX3_isOne_17 szOf
  by_cases h : v = 0
  · rw [if_pos h, if_pos h, m_isHeap hR, bnd_s, bool_ok, grd_t]
  · rw [if_neg h, if_neg h, m_isHole hR, bnd_s, bool_ok, grd_t]
theorem m_isRight {x y : Int32} : fX3_isRight x y σ = some (if (0 ≤ x.toInt ∧ x.toInt ≤ 100) ∧ 1 ≤ y.toInt ∧ y.toInt ≤ 20 then 1 else 0, σ) := by
  unfold fX3_isRight fX3_isRight_e fX3_isRight_24 fX3_isRight_25
  rw [m_in, bnd_s, I_0, I_100]
  by_cases h1 : 0 ≤ x.toInt ∧ x.toInt ≤ 100
  · rw [if_pos h1, if_neg (by decide), m_in, bnd_s, I_1, I_20]
    by_cases h2 : 1 ≤ y.toInt ∧ y.toInt ≤ 20
    · rw [if_pos h2, if_neg (by decide), if_pos ⟨h1, h2⟩]; rfl
    · rw [if_neg h2, if_pos rfl, if_neg (fun q => h2 q.2)]; rfl
  · rw [if_neg h1, if_pos rfl, if_neg (fun q => h1 q.1)]; rfl
theorem m_lesser {x y : Int32} : fX3_lesser x y σ = some (oI (min x.toInt y.toInt), σ) := by
  unfold fX3_lesser fX3_lesser_e fX3_lesser_10
  by_cases h : y.toInt ≤ x.toInt
  · rw [if_pos (by rw [leI]; exact h), Int.min_eq_right h, oI_t]
  · rw [if_neg (by rw [leI]; exact h), Int.min_eq_left (by omega), oI_t]
theorem m_lesserI {x y : Int} (hx : inR x) (hy : inR y) : fX3_lesser (oI x) (oI y) σ = some (oI (min x y), σ) := by
  rw [m_lesser, oI_to hx, oI_to hy]
theorem m_apart {x y : Int32} (hR : REL σ n m) (hx : 0 ≤ x.toInt ∧ x.toInt ≤ 100) (hy : 0 ≤ y.toInt ∧ y.toInt ≤ 100) : fX3_apart x y σ = some (oI (apt (vI σ 0 10) (vI σ 0 11) x.toInt y.toInt), σ) := by
  have h8 := hR.1.2.2.2.2.2.2.2.1
  obtain ⟨e7, e8, -, -⟩ := hR.2.2.1
  have hd := dst_bd hx hy
  have hs : fX3_apart x y σ = fX3_apart_14 (oI (dst x.toInt y.toInt)) σ := by
    unfold fX3_apart fX3_apart_e dst
    by_cases h : y.toInt ≤ x.toInt
    · rw [if_pos (by rw [leI]; exact h), if_neg (by omega), ← oI_sub, oI_t, oI_t]
    · rw [if_neg (by rw [leI]; exact h), if_pos (by omega), ← oI_sub, oI_t, oI_t]
  rw [hs]
  unfold fX3_apart_14 fX3_apart_38 apt
  by_cases h2 : vI σ 0 10 = 2
  · have hl := h8.2.2.2.2 h2
    rw [if_pos ((vIe I_2).mpr (by rw [e7]; exact h2)), if_neg (by omega), if_pos h2]
    have hne : rI σ 35 8 ≠ 0 := fun e => by have := (vIe I_0).mp e; omega
    have er : rI σ 35 8 = nI (vI σ 0 11).toNat := nI_eqI _ (by show vI σ 35 8 = _; omega)
    have ed : oI (dst x.toInt y.toInt) = nI (dst x.toInt y.toInt).toNat := by rw [oI_nat, Int.toNat_of_nonneg hd.1]
    rw [show decide (rI σ 35 8 ≠ 0) = true from decide_eq_true hne, grd_t, grd_t, er, ed, pk_rem (by omega) (by omega) (by omega)]
    have hmod := Nat.mod_le (dst x.toInt y.toInt).toNat (vI σ 0 11).toNat
    have e3 : (((dst x.toInt y.toInt).toNat % (vI σ 0 11).toNat : Nat) : Int) = dst x.toInt y.toInt % vI σ 0 11 := by
      rw [Int.natCast_emod, Int.toNat_of_nonneg hd.1, Int.toNat_of_nonneg (by omega)]
    rw [oI_nat, oI_nat, oI_sub, m_lesserI (by unfold inR; omega) (by unfold inR; omega), bnd_s, e3, Int.toNat_of_nonneg (by omega)]
  · rw [if_neg (fun e => h2 (by rw [← e7]; exact (vIe I_2).mp e)), if_neg h2]
    by_cases h1 : vI σ 0 10 = 1
    · rw [if_pos ((vIe I_1).mpr (by rw [e7]; exact h1)), if_pos h1, oI_mul]
    · rw [if_neg (fun e => h1 (by rw [← e7]; exact (vIe I_1).mp e)), if_neg h1]
theorem nI_way5 (i j : Nat) : 5 * nI i + nI j = nI (5 * i + j) := by
  show nI 5 * nI i + nI j = _
  rw [pk_mul, nI_add]
theorem m_unitOf {i j : Nat} (hR : REL σ n m) (hi : i < n) (hj : j < m) : fX3_unitOf (nI i) (nI j) σ = some (oI (unD σ i j), σ) := by
  have h5 := hR.1.1
  have h2 := hR.1.2.1 i hi
  have h3 := hR.1.2.2.1 j hj
  obtain ⟨e36, -⟩ := hR.2.2.2.1 i hi
  obtain ⟨e38, -⟩ := hR.2.2.2.2.1 j hj
  obtain ⟨e40, -⟩ := hR.2.2.2.2.2 (5 * i + j) (by omega)
  unfold fX3_unitOf fX3_unitOf_e fX3_unitOf_43 unD
  rw [nI_way5, inb_n (show 5 * i + j < 25 by omega) (by omega), grd_t, grd_t, ix_n (n := 5 * i + j) (by omega)]
  by_cases h : vI σ 7 (5 * i + j) = -1
  · rw [if_pos ((vIe I_m1).mpr (by rw [e40]; exact h)), if_pos h, inb_n (show i < 5 by omega) (by omega), grd_t, inb_n (show j < 5 by omega) (by omega), grd_t, ix_n (n := i) (by omega), ix_n (n := j) (by omega)]
    have q1 : (rI σ 36 i).toInt = vI σ 2 i := e36
    have q2 : (rI σ 38 j).toInt = vI σ 5 j := e38
    rw [m_apart hR (by omega) (by omega), bnd_s, q1, q2]
  · rw [if_neg (fun e => h (by rw [← e40]; exact (vIe I_m1).mp e)), if_neg h, oI_v, e40]
theorem nI_div5' {w : Nat} (h : w < 25) : nI w / 5 = nI (w / 5) ∧ nI w - nI w / 5 * 5 = nI (w % 5) := ⟨nI_div5 (by omega), nI_mod5 (by omega)⟩
def gnW (σ : Mem) (n m w : Nat) : Int := unW σ n m w - vI σ 0 12 - vI σ 0 13
theorem m_gain {w : Nat} (hR : REL σ n m) (hw : w < 25) (hi : w / 5 < n) (hj : w % 5 < m) : fX3_gain (nI w) σ = some (oI (gnW σ n m w), σ) := by
  unfold fX3_gain fX3_gain_e gnW unW
  obtain ⟨-, -, e12, e13⟩ := hR.2.2.1
  rw [(nI_div5' hw).2, (nI_div5' hw).1, m_unitOf hR hi hj, bnd_s, if_pos ⟨hi, hj⟩, oI_v, oI_v, e12, e13, oI_sub, oI_sub]
theorem gn_loop {i : Nat} (hi : i < 5) : ∀ (d j fu : Nat), j + d = 5 → d < fu → fX3_given_4 fu (nI i) (oI (sm j (fun j => vI σ 46 (5 * i + j)))) (nI j) σ = some (oI (rowS (vI σ 46) i), σ) := by
  intro d
  induction d with
  | zero =>
    intro j fu h1 h2
    obtain ⟨fu, rfl⟩ : ∃ q, fu = q + 1 := ⟨fu - 1, by omega⟩
    have hj : j = 5 := by omega
    subst hj
    show fX3_given_4b _ _ _ _ _ = _
    unfold fX3_given_4b
    rw [if_pos (by decide)]
    rfl
  | succ d ih =>
    intro j fu h1 h2
    obtain ⟨fu, rfl⟩ : ∃ q, fu = q + 1 := ⟨fu - 1, by omega⟩
    rw [← ih (j + 1) fu (by omega) (by omega)]
    show fX3_given_4b _ _ _ _ _ = _
    unfold fX3_given_4b ltI
    rw [if_neg (by rw [leI, nI_t (by omega), I_5]; omega), nI_way5, inb_n (show 5 * i + j < 25 by omega) (by omega), grd_t, ix_n (n := 5 * i + j) (by omega), oI_v, oI_add, nI_1]
    rfl
theorem m_given {i : Nat} (hi : i < 5) : fX3_given (nI i) σ = some (oI (rowS (vI σ 46) i), σ) := gn_loop hi 5 0 FU (by omega) (by unfold FU; omega)
theorem gt_loop {j : Nat} (hj : j < 5) : ∀ (d i fu : Nat), i + d = 5 → d < fu → fX3_got_4 fu (nI j) (oI (sm i (fun i => vI σ 46 (5 * i + j)))) (nI i) σ = some (oI (colS (vI σ 46) j), σ) := by
  intro d
  induction d with
  | zero =>
    intro i fu h1 h2
    obtain ⟨fu, rfl⟩ : ∃ q, fu = q + 1 := ⟨fu - 1, by omega⟩
    have hj : i = 5 := by omega
    subst hj
    show fX3_got_4b _ _ _ _ _ = _
    unfold fX3_got_4b
    rw [if_pos (by decide)]
    rfl
  | succ d ih =>
    intro i fu h1 h2
    obtain ⟨fu, rfl⟩ : ∃ q, fu = q + 1 := ⟨fu - 1, by omega⟩
    rw [← ih (i + 1) fu (by omega) (by omega)]
    show fX3_got_4b _ _ _ _ _ = _
    unfold fX3_got_4b ltI
    rw [if_neg (by rw [leI, nI_t (by omega), I_5]; omega), nI_way5, inb_n (show 5 * i + j < 25 by omega) (by omega), grd_t, ix_n (n := 5 * i + j) (by omega), oI_v, oI_add, nI_1]
    rfl
theorem m_got {j : Nat} (hj : j < 5) : fX3_got (nI j) σ = some (oI (colS (vI σ 46) j), σ) := gt_loop hj 5 0 FU (by omega) (by unfold FU; omega)
end MODEL
