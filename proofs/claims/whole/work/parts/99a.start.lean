/-! The law from its entry. -/
section START
theorem ngd_in : ∀ x ∈ ngd, Cond.declares x ∈ lw_tbl := by decide +kernel
theorem strs_in : ∀ q ∈ strs, Cond.stringRef RX2 q.1 q.2 ∈ lw_tbl := by decide +kernel
theorem strs_ex : ∀ q ∈ strs, Cond.exactly (.string RX2 q.1) "java/lang/String" ∈ flatC (Jvm.Cond.and given_1 narrow_1) := by decide +kernel
theorem ncs_in : ∀ q ∈ ncs, Cond.not (.castable q.1 q.2) ∈ flatC (Jvm.Cond.and given_1 narrow_1) := by decide +kernel
theorem kf_entry {s : State} {args : Array Value} {ad : Nat → Nat} (hts : ∀ w ∈ lw_tbl, w.before args s = true) (hgv : (Jvm.Cond.and given_1 narrow_1).before args s = true) (hA : ∀ a : Nat, a < s.heap.size → ¬ AA ad s.heap.size a) : KF ad s.heap.size s s.heap := by
  have hs := flat_of_before _ hgv
  refine ⟨va_Nw.of rfl (hts (.methodLinkNest RX0 84 yX2_wayOf RX2) (by decide +kernel)), ⟨va_Nw.of rfl (hts (.castable iIO iIO) (by decide +kernel)), va_Nw.of rfl (hts (.castable iIA iIA) (by decide +kernel)), va_Nw.of rfl (hts (.castable iIS iIS) (by decide +kernel))⟩, fun x hx => va_Nw.of rfl (hts _ (ngd_in x hx)), fun q hq => ?_, fun q hq => va_Nc.of (hs _ (ncs_in q hq)), ?_, ?_⟩
  · have h1 := hts _ (strs_in q hq)
    obtain ⟨a, c, cell, k, q1, -⟩ := Cond.exactly_spec (args := args) (first := s) (o := none) (s := s) (idx := []) (t := .string RX2 q.1) (cls := "java/lang/String") (hs _ (strs_ex q hq))
    exact ⟨a, vk_R.of h1 q1⟩
  · exact vx_Zqof (hts (.laysStatic Bundle.tN "UNASSIGNED_STACK" Bundle.steD) (by decide +kernel)) (hts (.initialized Bundle.tN) (by decide +kernel)) (hs (.isRef (.static Bundle.tN "UNASSIGNED_STACK" Bundle.steD)) (by decide +kernel)) hA
  · exact vx_Zqof (hts (.laysStatic Bundle.tN "SUPPRESSED_SENTINEL" Bundle.listD) (by decide +kernel)) (hts (.initialized Bundle.tN) (by decide +kernel)) (hs (.isRef (.static Bundle.tN "SUPPRESSED_SENTINEL" Bundle.listD)) (by decide +kernel)) hA
theorem arr_known {s : State} {args : Array Value} : ((Cond.arrayClass .int).before args s = true → ∃ cA, ArrOfT s cA .int ∧ va_RA s cA .int) ∧ ((Cond.arrayClass .long).before args s = true → ∃ cA, ArrOfT s cA .long ∧ va_RA s cA .long) := by
  refine ⟨fun h => ?_, fun h => ?_⟩
  · obtain ⟨cA, kA, comp, h1, h2, h3⟩ := Cond.arrayClass_spec h
    exact ⟨cA, fun n z => ⟨fun k h => (by cases h), kA, h2, comp, h3⟩, h1⟩
  · obtain ⟨cA, kA, comp, h1, h2, h3⟩ := Cond.arrayClass_spec h
    exact ⟨cA, fun n z => ⟨fun k h => (by cases h), kA, h2, comp, h3⟩, h1⟩
/-- the memory behind the constructors -/
def mem0 (f7 f8 f40 f41 : Nat → Int32) : Mem := (fun k => if k = 7 then f7 else if k = 8 then f8 else if k = 40 then f40 else if k = 41 then f41 else if k = 0 then (fun i => if i = 12 ∨ i = 13 then 1000 else 0) else if k = 35 then (fun i => if i = 12 ∨ i = 13 then 1000 else 0) else fun _ => 0, fun _ _ => 0)
theorem mem0_wld {f7 f8 f40 f41 : Nat → Int32} (h7 : ∀ w, w < 25 → f7 w = -1) (h8 : ∀ w, w < 25 → f8 w = -1) (h40 : ∀ w, w < 25 → f40 w = -1) (h41 : ∀ w, w < 25 → f41 w = -1) : WLD (mem0 f7 f8 f40 f41) := by
  have v7 : ∀ w, w < 25 → vI (mem0 f7 f8 f40 f41) 7 w = -1 := fun w hw => by show (f7 w).toInt = _; rw [h7 w hw]; decide
  have v8 : ∀ w, w < 25 → vI (mem0 f7 f8 f40 f41) 8 w = -1 := fun w hw => by show (f8 w).toInt = _; rw [h8 w hw]; decide
  have v40 : ∀ w, w < 25 → vI (mem0 f7 f8 f40 f41) 40 w = -1 := fun w hw => by show (f40 w).toInt = _; rw [h40 w hw]; decide
  have v41 : ∀ w, w < 25 → vI (mem0 f7 f8 f40 f41) 41 w = -1 := fun w hw => by show (f41 w).toInt = _; rw [h41 w hw]; decide
  have v0 : ∀ k, k ≠ 7 → k ≠ 8 → k ≠ 40 → k ≠ 41 → ∀ i, i ≠ 12 → i ≠ 13 → vI (mem0 f7 f8 f40 f41) k i = 0 := fun k a1 a2 a3 a4 i b1 b2 => by
    show ((mem0 f7 f8 f40 f41).1 k i).toInt = 0
    unfold mem0
    dsimp only
    rw [if_neg a1, if_neg a2, if_neg a3, if_neg a4]
    by_cases c0 : k = 0
    · rw [if_pos c0, if_neg (by omega)]; rfl
    · rw [if_neg c0]
      by_cases c1 : k = 35
      · rw [if_pos c1, if_neg (by omega)]; rfl
      · rw [if_neg c1]; rfl
  have w0 : ∀ k, k ≠ 7 → k ≠ 8 → k ≠ 40 → k ≠ 41 → k ≠ 0 → k ≠ 35 → ∀ i, vI (mem0 f7 f8 f40 f41) k i = 0 := fun k a1 a2 a3 a4 a5 a6 i => by
    show ((mem0 f7 f8 f40 f41).1 k i).toInt = 0
    unfold mem0
    dsimp only
    rw [if_neg a1, if_neg a2, if_neg a3, if_neg a4, if_neg a5, if_neg a6]
    rfl
  have c1 : vI (mem0 f7 f8 f40 f41) 0 12 = 1000 := by show ((1000 : Int32)).toInt = 1000; decide
  have c2 : vI (mem0 f7 f8 f40 f41) 0 13 = 1000 := by show ((1000 : Int32)).toInt = 1000; decide
  have c3 : vI (mem0 f7 f8 f40 f41) 35 12 = 1000 := by show ((1000 : Int32)).toInt = 1000; decide
  have c4 : vI (mem0 f7 f8 f40 f41) 35 13 = 1000 := by show ((1000 : Int32)).toInt = 1000; decide
  have e10 := v0 0 (by omega) (by omega) (by omega) (by omega) 10 (by omega) (by omega)
  have e11 := v0 0 (by omega) (by omega) (by omega) (by omega) 11 (by omega) (by omega)
  have e14 := v0 0 (by omega) (by omega) (by omega) (by omega) 14 (by omega) (by omega)
  have e7 := v0 35 (by omega) (by omega) (by omega) (by omega) 7 (by omega) (by omega)
  have e8 := v0 35 (by omega) (by omega) (by omega) (by omega) 8 (by omega) (by omega)
  have hD : DAT (mem0 f7 f8 f40 f41) 0 0 := by
    refine ⟨⟨w0 1 (by omega) (by omega) (by omega) (by omega) (by omega) (by omega) 2, by omega, w0 4 (by omega) (by omega) (by omega) (by omega) (by omega) (by omega) 2, by omega⟩, fun i hi => absurd hi (by omega), fun j hj => absurd hj (by omega), fun w hw => ?_, fun i j hi hj _ => ?_, fun i hi _ => w0 3 (by omega) (by omega) (by omega) (by omega) (by omega) (by omega) i, fun i hi _ => w0 6 (by omega) (by omega) (by omega) (by omega) (by omega) (by omega) i, by omega, by omega⟩
    · have z9 := w0 9 (by omega) (by omega) (by omega) (by omega) (by omega) (by omega) w
      rw [v7 w hw, v8 w hw, z9]
      omega
    · exact ⟨v7 _ (by omega), v8 _ (by omega), w0 9 (by omega) (by omega) (by omega) (by omega) (by omega) (by omega) _⟩
  refine ⟨0, 0, ⟨hD, ⟨v0 35 (by omega) (by omega) (by omega) (by omega) 1 (by omega) (by omega), v0 35 (by omega) (by omega) (by omega) (by omega) 2 (by omega) (by omega)⟩, by omega, fun i hi => absurd hi (by omega), fun j hj => absurd hj (by omega), fun w hw => ⟨by rw [v40 w hw, v7 w hw], by rw [v41 w hw, v8 w hw], trivial⟩⟩, fun w hw => ?_, hD, Or.inl e14⟩
  rw [w0 42 (by omega) (by omega) (by omega) (by omega) (by omega) (by omega), w0 9 (by omega) (by omega) (by omega) (by omega) (by omega) (by omega)]
end START
