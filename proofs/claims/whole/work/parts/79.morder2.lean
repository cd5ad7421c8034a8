/-! The Model: by order. -/
section MORDER2
variable {σ : Mem} {n m : Nat}
def sHk (σ : Mem) (n k i : Nat) : Int := if i < n ∧ fst' (vI σ 0 10) (vI σ 0 11) (vI σ 2 i) ≤ (k : Int) then vI σ 3 i else 0
def sJk (σ : Mem) (m k i : Nat) : Int := if i < m ∧ fst' (vI σ 0 10) (vI σ 0 11) (vI σ 5 i) ≤ (k : Int) then vI σ 6 i else 0
theorem sHk_sum (hD : DAT σ n m) (k : Nat) : sm 5 (sHk σ n k) = surH σ n k := by
  have h5 := hD.1
  have z : ∀ i, n ≤ i → i < 5 → sHk σ n k i = 0 := fun i h _ => if_neg (fun q => by omega)
  rw [sm_cut (n := n) (by omega) z]
  refine sm_congr (fun i hi => ?_)
  unfold sHk
  by_cases h : fst' (vI σ 0 10) (vI σ 0 11) (vI σ 2 i) ≤ (k : Int)
  · rw [if_pos ⟨hi, h⟩, if_pos h]
  · rw [if_neg (fun q => h q.2), if_neg h]
theorem sJk_sum (hD : DAT σ n m) (k : Nat) : sm 5 (sJk σ m k) = surJ σ m k := by
  have h5 := hD.1
  have z : ∀ i, m ≤ i → i < 5 → sJk σ m k i = 0 := fun i h _ => if_neg (fun q => by omega)
  rw [sm_cut (n := m) (by omega) z]
  refine sm_congr (fun i hi => ?_)
  unfold sJk
  by_cases h : fst' (vI σ 0 10) (vI σ 0 11) (vI σ 5 i) ≤ (k : Int)
  · rw [if_pos ⟨hi, h⟩, if_pos h]
  · rw [if_neg (fun q => h q.2), if_neg h]
/-- the place as the Model reads it -/
def mpl (σ : Mem) (x : Int32) : Int32 := if rI σ 35 7 = 2 then x - x / rI σ 35 8 * rI σ 35 8 else x
theorem mpl_fst (hR : REL σ n m) {x : Int32} (hx : 0 ≤ x.toInt ∧ x.toInt ≤ 100) : mpl σ x = oI (fst' (vI σ 0 10) (vI σ 0 11) x.toInt) := by
  have h8 := hR.1.2.2.2.2.2.2.2.1
  obtain ⟨e7, e8, -, -⟩ := hR.2.2.1
  unfold mpl fst'
  by_cases h2 : vI σ 0 10 = 2
  · have hl := h8.2.2.2.2 h2
    rw [if_pos ((vIe I_2).mpr (by rw [e7]; exact h2)), if_pos h2]
    have e1 : x = nI x.toInt.toNat := nI_eqI _ (by omega)
    have e2 : rI σ 35 8 = nI (vI σ 0 11).toNat := nI_eqI _ (by show vI σ 35 8 = _; omega)
    rw [e2]
    conv => lhs; rw [e1]
    rw [pk_rem (by omega) (by omega) (by omega), oI_nat]
    congr 1
    rw [Int.natCast_emod, Int.toNat_of_nonneg hx.1, Int.toNat_of_nonneg (by omega)]
  · rw [if_neg (fun q => h2 (by rw [← e7]; exact (vIe I_2).mp q)), if_neg h2, oI_t]
theorem msu_loop (hR : REL σ n m) {k : Nat} (hk : k ≤ 200) : ∀ (d i fu : Nat), i + d = 5 → d < fu → fX3_surplus_4 fu (nI k) (oI (sm i (sHk σ n k) - sm i (sJk σ m k))) (nI i) σ = some (oI (surH σ n k - surJ σ m k), σ) := by
  have hD := hR.1
  have h5 := hD.1
  have h8 := hD.2.2.2.2.2.2.2.1
  obtain ⟨e7, e8, -, -⟩ := hR.2.2.1
  intro d
  induction d with
  | zero =>
    intro i fu h1 h2
    obtain ⟨fu, rfl⟩ : ∃ q, fu = q + 1 := ⟨fu - 1, by omega⟩
    have hi : i = 5 := by omega
    subst hi
    rw [sHk_sum hD, sJk_sum hD]
    show fX3_surplus_4b _ _ _ _ _ = _
    unfold fX3_surplus_4b
    rw [if_pos (by decide)]
  | succ d ih =>
    intro i fu h1 h2
    obtain ⟨fu, rfl⟩ : ∃ q, fu = q + 1 := ⟨fu - 1, by omega⟩
    have hi : i < 5 := by omega
    rw [← ih (i + 1) fu (by omega) (by omega)]
    have e94 : ∀ (v5 : Int32) (s0 A : Int), (i < m → v5 = oI (fst' (vI σ 0 10) (vI σ 0 11) (vI σ 5 i))) → fX3_surplus_94 (fX3_surplus_4 fu) (nI k) (nI i) v5 (oI s0) (oI A) σ = fX3_surplus_4 fu (nI k) (oI (A + s0 - sJk σ m k i)) (nI (i + 1)) σ := fun v5 s0 A hv => by
      unfold fX3_surplus_94 fX3_surplus_120 fX3_surplus_121 sJk ltI
      dsimp only
      by_cases h : i < m
      · have h3 := hD.2.2.1 i h
        have hf := fst_bd (me := vI σ 0 10) (len := vI σ 0 11) (p := vI σ 5 i) ⟨h3.1, h3.2.1⟩ (fun h => ⟨h8.2.2.2.2 h, h8.2.2.2.1⟩)
        have elt : nI k < v5 ↔ ¬ fst' (vI σ 0 10) (vI σ 0 11) (vI σ 5 i) ≤ (k : Int) := by
          rw [hv h, ltI', nI_t (by omega), oI_to (by unfold inR; omega)]
          omega
        rw [if_neg (not_le_nI hR.2.1.2 h (by omega))]
        by_cases hc : fst' (vI σ 0 10) (vI σ 0 11) (vI σ 5 i) ≤ (k : Int)
        · rw [if_neg (fun q => elt.mp q hc), if_pos ⟨h, hc⟩, inb_n hi (by omega), grd_t, ix_n (n := i) (by omega), oI_v, (hR.2.2.2.2.1 i h).2, oI_add, oI_sub, nI_1]
        · rw [if_pos (elt.mpr hc), if_neg (fun q => hc q.2), show (0 : Int32) = oI 0 from rfl, oI_add, oI_sub, nI_1]
      · rw [if_pos (le_nI' hR.2.1.2 (by omega) (by omega)), if_neg (fun q => h q.1), show (0 : Int32) = oI 0 from rfl, oI_add, oI_sub, nI_1]
    have e67 : ∀ (v4 v5 : Int32) (A : Int), (i < n → v4 = oI (fst' (vI σ 0 10) (vI σ 0 11) (vI σ 2 i))) → (i < m → v5 = oI (fst' (vI σ 0 10) (vI σ 0 11) (vI σ 5 i))) → fX3_surplus_67 (fX3_surplus_4 fu) (nI k) (oI A) (nI i) v4 v5 σ = fX3_surplus_4 fu (nI k) (oI (A + sHk σ n k i - sJk σ m k i)) (nI (i + 1)) σ := fun v4 v5 A hv4 hv5 => by
      unfold fX3_surplus_67 fX3_surplus_93
      by_cases h : i < n
      · have h3 := hD.2.1 i h
        have hf := fst_bd (me := vI σ 0 10) (len := vI σ 0 11) (p := vI σ 2 i) ⟨h3.1, h3.2.1⟩ (fun h => ⟨h8.2.2.2.2 h, h8.2.2.2.1⟩)
        have elt : nI k < v4 ↔ ¬ fst' (vI σ 0 10) (vI σ 0 11) (vI σ 2 i) ≤ (k : Int) := by
          rw [hv4 h, ltI', nI_t (by omega), oI_to (by unfold inR; omega)]
          omega
        rw [if_neg (not_le_nI hR.2.1.1 h (by omega))]
        by_cases hc : fst' (vI σ 0 10) (vI σ 0 11) (vI σ 2 i) ≤ (k : Int)
        · have es : sHk σ n k i = vI σ 3 i := if_pos ⟨h, hc⟩
          rw [if_neg (fun q => elt.mp q hc), es, inb_n hi (by omega), grd_t, ix_n (n := i) (by omega), oI_v, (hR.2.2.2.1 i h).2]
          exact e94 v5 _ A hv5
        · have es : sHk σ n k i = 0 := if_neg (fun q => hc q.2)
          rw [if_pos (elt.mpr hc), es]
          exact e94 v5 0 A hv5
      · have es : sHk σ n k i = 0 := if_neg (fun q => h q.1)
        rw [if_pos (le_nI' hR.2.1.1 (by omega) (by omega)), es]
        exact e94 v5 0 A hv5
    have hA : sm (i + 1) (sHk σ n k) - sm (i + 1) (sJk σ m k) = sm i (sHk σ n k) - sm i (sJk σ m k) + sHk σ n k i - sJk σ m k i := by
      show sm i (sHk σ n k) + sHk σ n k i - (sm i (sJk σ m k) + sJk σ m k i) = _
      omega
    have q1 : i < n → mpl σ (rI σ 36 i) = oI (fst' (vI σ 0 10) (vI σ 0 11) (vI σ 2 i)) := fun h => by
      have h3 := hD.2.1 i h
      have e := (hR.2.2.2.1 i h).1
      rw [mpl_fst hR (by show 0 ≤ vI σ 36 i ∧ vI σ 36 i ≤ 100; omega)]
      show oI (fst' _ _ (vI σ 36 i)) = _
      rw [e]
    have q2 : i < m → mpl σ (rI σ 38 i) = oI (fst' (vI σ 0 10) (vI σ 0 11) (vI σ 5 i)) := fun h => by
      have h3 := hD.2.2.1 i h
      have e := (hR.2.2.2.2.1 i h).1
      rw [mpl_fst hR (by show 0 ≤ vI σ 38 i ∧ vI σ 38 i ≤ 100; omega)]
      show oI (fst' _ _ (vI σ 38 i)) = _
      rw [e]
    rw [hA, ← e67 _ _ _ q1 q2]
    unfold mpl
    show fX3_surplus_4b _ _ _ _ _ = _
    unfold fX3_surplus_4b fX3_surplus_37
    rw [if_neg (by rw [leI, nI_t (by omega), I_5]; omega)]
    simp only [inb_n (show i < 5 by omega) (show 5 < 2147483648 by omega), grd_t, ix_n (show i < 2147483648 by omega)]
    by_cases h2 : rI σ 35 7 = 2
    · have hne : rI σ 35 8 ≠ 0 := fun e => by
        have h3 := (vIe I_0).mp e
        have h4 := h8.2.2.2.2 (by rw [← e7]; exact (vIe I_2).mp h2)
        omega
      simp only [if_pos h2]
      rw [show decide (rI σ 35 8 ≠ 0) = true from decide_eq_true hne, grd_t, grd_t]
    · simp only [if_neg h2]
theorem m_surplus (hR : REL σ n m) {k : Nat} (hk : k ≤ 200) : fX3_surplus (nI k) σ = some (oI (surH σ n k - surJ σ m k), σ) := msu_loop hR hk 5 0 FU (by omega) (by unfold FU; omega)
def PM (σ : Mem) : Nat := if vI σ 0 10 = 2 then (vI σ 0 11).toNat else 100
theorem mob_loop (hR : REL σ n m) {o : Int} (ho : -100 ≤ o ∧ o ≤ 100) : ∀ (d k fu : Nat), k + d = PM σ → d < fu → fX3_orderBy_4 fu (oI o) (oI (obF (fun k => surH σ n k - surJ σ m k) k o)) (nI k) σ = some (oI (obF (fun k => surH σ n k - surJ σ m k) (PM σ) o), σ) := by
  have hD := hR.1
  have h8 := hD.2.2.2.2.2.2.2.1
  obtain ⟨e7, e8, -, -⟩ := hR.2.2.1
  have hP : PM σ ≤ 200 := by unfold PM; split <;> omega
  have hdef : ∀ r4 v1 v2 v3, fX3_orderBy_4b r4 v1 v2 v3 σ = fX3_orderBy_22 r4 v1 v2 v3 (nI (PM σ)) v3 σ := fun r4 v1 v2 v3 => by
    unfold fX3_orderBy_4b PM
    by_cases h2 : vI σ 0 10 = 2
    · have e : rI σ 35 8 = nI (vI σ 0 11).toNat := nI_eqI _ (by show vI σ 35 8 = _; omega)
      rw [if_pos ((vIe I_2).mpr (by rw [e7]; exact h2)), if_pos h2, e]
    · rw [if_neg (fun q => h2 (by rw [← e7]; exact (vIe I_2).mp q)), if_neg h2]
      rfl
  intro d
  induction d with
  | zero =>
    intro k fu h1 h2
    obtain ⟨fu, rfl⟩ : ∃ q, fu = q + 1 := ⟨fu - 1, by omega⟩
    have hk : k = PM σ := by omega
    subst hk
    show fX3_orderBy_4b _ _ _ _ _ = _
    rw [hdef]
    unfold fX3_orderBy_22
    rw [if_pos (leI.mpr (Int.le_refl _))]
  | succ d ih =>
    intro k fu h1 h2
    obtain ⟨fu, rfl⟩ : ∃ q, fu = q + 1 := ⟨fu - 1, by omega⟩
    rw [← ih (k + 1) fu (by omega) (by omega)]
    show fX3_orderBy_4b _ _ _ _ _ = _
    rw [hdef]
    unfold fX3_orderBy_22 fX3_orderBy_48 ltI
    have hb := sur_bd hD k
    rw [if_neg (by rw [leI, nI_t (by omega), nI_t (by omega)]; omega), m_surplus hR (by omega), bnd_s, oI_sub]
    have hst : obF (fun k => surH σ n k - surJ σ m k) (k + 1) o = obF (fun k => surH σ n k - surJ σ m k) k o + (if surH σ n k - surJ σ m k - o < 0 then -(surH σ n k - surJ σ m k - o) else surH σ n k - surJ σ m k - o) := rfl
    rw [hst]
    dsimp only
    have ele : (0 : Int32) ≤ oI (surH σ n k - surJ σ m k - o) ↔ ¬ surH σ n k - surJ σ m k - o < 0 := by
      rw [leI, I_0, oI_to (by unfold inR; omega)]
      omega
    by_cases h : surH σ n k - surJ σ m k - o < 0
    · rw [if_neg (show ¬ (0 : Int32) ≤ oI (surH σ n k - surJ σ m k - o) from fun q => ele.mp q h), if_pos h, oI_neg, oI_add, nI_1]
    · rw [if_pos (ele.mpr h), if_neg h, oI_add, nI_1]
theorem m_orderBy (hR : REL σ n m) {o : Int} (ho : -100 ≤ o ∧ o ≤ 100) : fX3_orderBy (oI o) σ = some (oI (obF (fun k => surH σ n k - surJ σ m k) (PM σ) o), σ) := by
  have hP : PM σ ≤ 200 := by
    have h8 := hR.1.2.2.2.2.2.2.2.1
    unfold PM; split <;> omega
  exact mob_loop hR ho (PM σ) 0 FU (by omega) (by unfold FU; omega)
theorem mmo_loop (hR : REL σ n m) (h2 : vI σ 0 10 = 2) : ∀ (d t fu : Nat), t + d = 201 → d < fu → 0 ≤ mnO (fun k => surH σ n k - surJ σ m k) (PM σ) t ∧ mnO (fun k => surH σ n k - surJ σ m k) (PM σ) t ≤ 40000 → fX3_order_30 fu (oI (mnO (fun k => surH σ n k - surJ σ m k) (PM σ) t)) (oI ((t : Int) - 100)) σ = some (oI (mnO (fun k => surH σ n k - surJ σ m k) (PM σ) 201), σ) := by
  have hP : PM σ ≤ 200 := by
    have h8 := hR.1.2.2.2.2.2.2.2.1
    unfold PM; split <;> omega
  obtain ⟨e7, e8, -, -⟩ := hR.2.2.1
  intro d
  induction d with
  | zero =>
    intro t fu h1 h3 hb
    obtain ⟨fu, rfl⟩ : ∃ q, fu = q + 1 := ⟨fu - 1, by omega⟩
    have hj : t = 201 := by omega
    subst hj
    show fX3_order_30b _ _ _ _ = _
    unfold fX3_order_30b
    rw [if_pos (by decide)]
    rfl
  | succ d ih =>
    intro t fu h1 h3 hb
    obtain ⟨fu, rfl⟩ : ∃ q, fu = q + 1 := ⟨fu - 1, by omega⟩
    have ho : -100 ≤ (t : Int) - 100 ∧ (t : Int) - 100 ≤ 100 := by omega
    have hb2 := ob_bd (s := fun k => surH σ n k - surJ σ m k) ho (PM σ) hP (fun k hk => by have := sur_bd hR.1 k; omega)
    have hmn : mnO (fun k => surH σ n k - surJ σ m k) (PM σ) (t + 1) = min (mnO (fun k => surH σ n k - surJ σ m k) (PM σ) t) (obF (fun k => surH σ n k - surJ σ m k) (PM σ) ((t : Int) - 100)) := rfl
    have hnext := ih (t + 1) fu (by omega) (by omega) (by rw [hmn]; omega)
    rw [← hnext]
    show fX3_order_30b _ _ _ _ = _
    unfold fX3_order_30b
    rw [if_neg (by rw [ltI', oI_to (by unfold inR; omega), I_100]; omega), if_pos ((vIe I_2).mpr (by rw [e7]; exact h2)), m_orderBy hR ho, bnd_s, m_lesserI (by unfold inR; omega) (by unfold inR; omega), bnd_s, hmn]
    have e2 : oI ((t : Int) - 100) + 1 = oI (((t + 1 : Nat) : Int) - 100) := by
      have : (1 : Int32) = oI 1 := rfl
      rw [this, oI_add]
      congr 1
      omega
    rw [e2]
theorem m_order13 (hR : REL σ n m) (hc : CGO σ) : (bnd (fX3_orderBy (0 : Int32) σ) fun u3 σ4 => fX3_order_30 FU u3 (-100 : Int32) σ4) = some (oI (orF σ n m), σ) := by
  have h8 := hR.1.2.2.2.2.2.2.2.1
  obtain ⟨e7, e8, -, -⟩ := hR.2.2.1
  have hP : PM σ ≤ 200 := by
    unfold PM; split <;> omega
  have hb2 := ob_bd (s := fun k => surH σ n k - surJ σ m k) (o := 0) (by omega) (PM σ) hP (fun k hk => by have := sur_bd hR.1 k; omega)
  have e0 : fX3_orderBy 0 σ = some (oI (obF (fun k => surH σ n k - surJ σ m k) (PM σ) 0), σ) := m_orderBy hR (o := 0) (by omega)
  rw [e0, bnd_s]
  unfold orF
  by_cases h0 : vI σ 0 10 = 0
  · have hp : PM σ = 100 := if_neg (by omega)
    rw [if_pos h0, hp]
    show fX3_order_30b (fX3_order_30 _) _ _ _ = _
    unfold fX3_order_30b
    rw [if_neg (by decide), if_neg (fun q => by have := (vIe I_2).mp q; omega)]
    rfl
  · have h2 : vI σ 0 10 = 2 := by have := hc.1; omega
    have hp : PM σ = (vI σ 0 11).toNat := if_pos h2
    rw [if_neg h0, ← hp]
    exact mmo_loop hR h2 201 0 FU (by omega) (by unfold FU; omega) (by show 0 ≤ obF _ _ 0 ∧ obF _ _ 0 ≤ 40000; omega)
theorem mt_order (hR : REL σ n m) : (¬ CGO σ ∧ fX3_order σ = some (0, wI σ 35 0 1)) ∨ (CGO σ ∧ fX3_order σ = some (oI (orF σ n m), wI σ 35 0 0)) := by
  unfold fX3_order fX3_order_e fX3_order_13
  rcases m_canOrder hR with ⟨hc, e⟩ | ⟨hc, e⟩
  · rw [e, bnd_s, if_neg n10, m_goesWell, bnd_s, if_pos rfl, if_neg n10]
    have hv : ∀ k, k ≠ 35 → ∀ i, vI (wI σ 35 0 0) k i = vI σ k i := fun k hk i => by rw [vI_w, if_neg (fun q => hk q.1)]
    have hc' : CGO (wI σ 35 0 0) := by
      unfold CGO
      simp only [hv 0 (by omega), hv 3 (by omega), hv 6 (by omega), hv 7 (by omega), hv 8 (by omega)]
      exact hc
    have h := m_order13 (w0_rel (x := 0) hR) hc'
    have ho : orF (wI σ 35 0 0) n m = orF σ n m := by
      unfold orF surH surJ
      simp only [hv 0 (by omega), hv 2 (by omega), hv 3 (by omega), hv 5 (by omega), hv 6 (by omega)]
    rw [ho] at h
    exact Or.inr ⟨hc, h⟩
  · rw [e, bnd_s, if_pos z00, m_goesWell, bnd_s, if_neg n10, if_pos z00]
    exact Or.inl ⟨hc, rfl⟩
end MORDER2
