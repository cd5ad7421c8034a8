/-! The law from its entry. -/
section ENTRY
variable {C : Ctx} {A : Nat → Prop} {b : Nat}
set_option maxHeartbeats 4000000 in
set_option maxRecDepth 100000 in
theorem law_entry (X : EX C A code 7 RL wsL_law room_1) (kk : ∀ (q0 q35 q50 : Nat) (u v : (Nat → Nat) × (Nat → Int32) × (Nat → Int32)), (∀ w, w < 25 → u.2.1 w = -1) → (∀ w, w < 25 → u.2.2 w = -1) → (∀ w, w < 25 → v.2.1 w = -1) → (∀ w, w < 25 → v.2.2 w = -1) →
    GE C A 7 53 888 23 [(4, .int 0), (3, .ref q50), (2, .ref q35), (1, .ref q0), (0, .ref b)] [] (WXX (cI C) (cJ C) q0 u ++ WMD (cI C) q35 v ++ [(q50, .inl (cJ C, 1, .inr (.inl (fun _ => 0))))])) : GE C A 7 0 0 0 [(0, .ref b)] [] [] := by
  refine ge_new (ci := 2) (fs := [.null, .null, .null, .null, .null, .null, .null, .null, .null, .null, .int 0, .int 0, .int 0, .int 0, .int 0]) X inlX2 tyX2_ok (List.mem_of_getElem? (i := 0) rfl) (List.mem_of_getElem? (i := 1) rfl) (List.mem_of_getElem? (i := 2) rfl) rfl (fun j hj => by rcases (show j = 0 ∨ j = 1 ∨ j = 2 ∨ j = 3 ∨ j = 4 ∨ j = 5 ∨ j = 6 ∨ j = 7 ∨ j = 8 ∨ j = 9 ∨ j = 10 ∨ j = 11 ∨ j = 12 ∨ j = 13 ∨ j = 14 by omega) with rfl | rfl | rfl | rfl | rfl | rfl | rfl | rfl | rfl | rfl | rfl | rfl | rfl | rfl | rfl <;> rfl) ⟨Nat.le_of_ble_eq_true rfl, Nat.le_of_ble_eq_true rfl⟩ dL_law_0 (fun q0 => ?_)
  refine ge_dup X dL_law_3 rfl ?_
  refine ge_init (q := q0) X (kX2_init (cL C)) [] 0 (wr := []) (fun s a hts => cwI 0 hts gL_law_X2_init rfl rfl rfl (hts (.initialized RX2) (by decide +kernel)) (hts (.methodLink RL 82 yX2_init) (by decide +kernel)) (hts (.instanceMethod yX2_init) (by decide +kernel)) rfl (by decide +kernel) ⟨Nat.le_of_ble_eq_true rfl, Nat.le_of_ble_eq_true rfl⟩) rfl rfl (by decide) (by decide) dL_law_4 (Nat.le_of_ble_eq_true rfl) ⟨Nat.le_of_ble_eq_true rfl, Nat.le_of_ble_eq_true rfl⟩ (fun u hu => ?_)
  refine ge_astore_n (L' := [(1, .ref q0), (0, .ref b)]) X dL_law_7 rfl (by decide) rfl ?_
  refine ge_new (ci := 3) (fs := [.int 0, .int 0, .int 0, .null, .null, .null, .null, .int 0, .int 0, .null, .null, .null, .int 0, .int 0, .null, .null, .null, .null, .null, .null, .null]) X inlX3 tyX3_ok (List.mem_of_getElem? (i := 3) rfl) (List.mem_of_getElem? (i := 4) rfl) (List.mem_of_getElem? (i := 5) rfl) rfl (fun j hj => by rcases (show j = 0 ∨ j = 1 ∨ j = 2 ∨ j = 3 ∨ j = 4 ∨ j = 5 ∨ j = 6 ∨ j = 7 ∨ j = 8 ∨ j = 9 ∨ j = 10 ∨ j = 11 ∨ j = 12 ∨ j = 13 ∨ j = 14 ∨ j = 15 ∨ j = 16 ∨ j = 17 ∨ j = 18 ∨ j = 19 ∨ j = 20 by omega) with rfl | rfl | rfl | rfl | rfl | rfl | rfl | rfl | rfl | rfl | rfl | rfl | rfl | rfl | rfl | rfl | rfl | rfl | rfl | rfl | rfl <;> rfl) ⟨Nat.le_of_ble_eq_true rfl, Nat.le_of_ble_eq_true rfl⟩ dL_law_8 (fun q35 => ?_)
  refine ge_dup X dL_law_11 rfl ?_
  refine ge_init (q := q35) X (kX3_init (cL C)) [0, 1, 2, 3, 4, 5, 6, 7, 8, 9, 10, 11, 12, 13, 14, 15, 16, 17, 18, 19, 20, 21, 22, 23, 24, 25, 26, 27, 28, 29, 30, 31, 32, 33, 34, 35, 36] 37 (wr := WXX (cI C) (cJ C) q0 u) (fun s a hts => cwI 0 hts gL_law_X3_init rfl rfl rfl (hts (.initialized RX3) (by decide +kernel)) (hts (.methodLink RL 85 yX3_init) (by decide +kernel)) (hts (.instanceMethod yX3_init) (by decide +kernel)) rfl (by decide +kernel) ⟨Nat.le_of_ble_eq_true rfl, Nat.le_of_ble_eq_true rfl⟩) rfl rfl (by decide) (by decide) dL_law_12 (Nat.le_of_ble_eq_true rfl) ⟨Nat.le_of_ble_eq_true rfl, Nat.le_of_ble_eq_true rfl⟩ (fun v hv => ?_)
  refine ge_astore_n (L' := [(2, .ref q35), (1, .ref q0), (0, .ref b)]) X dL_law_15 rfl (by decide) rfl ?_
  refine ge_iconst (v := (1 : Int32)) X dL_law_16 (by decide) ?_
  refine ge_newJ (N := 1) X (List.mem_of_getElem? (i := 6) rfl) (by decide) (by decide) (by decide) ⟨Nat.le_of_ble_eq_true rfl, Nat.le_of_ble_eq_true rfl⟩ dL_law_17 (fun q50 => ?_)
  refine ge_astore_n (L' := [(3, .ref q50), (2, .ref q35), (1, .ref q0), (0, .ref b)]) X dL_law_19 rfl (by decide) rfl ?_
  refine ge_iconst (v := (0 : Int32)) X dL_law_20 (by decide) ?_
  refine ge_istore (L' := [(4, .int 0), (3, .ref q50), (2, .ref q35), (1, .ref q0), (0, .ref b)]) X dL_law_21 (by decide) rfl ?_
  exact kk q0 q35 q50 u v hu.1 hu.2 hv.1 hv.2
/-- the addresses of the whole world: a plan's opened ways lie at its end -/
def adW (q0 q35 q50 : Nat) (u v : Nat → Nat) : Nat → Nat := fun k => if k = 0 then q0 else if k < 18 then u k else if k < 29 then u (k + 1) else if k < 35 then u (k + 2) else if k = 35 then q35 else if k < 50 then v (k - 35) else if k = 50 then q50 else if k = 51 then u 18 else u 30
def permW : List Nat := [0, 1, 2, 3, 4, 5, 6, 7, 8, 9, 10, 11, 12, 13, 14, 15, 16, 17, 19, 20, 21, 22, 23, 24, 25, 26, 27, 28, 29, 31, 32, 33, 34, 35, 36, 37, 38, 39, 40, 41, 42, 43, 44, 45, 46, 47, 48, 49, 50, 51, 52, 18, 30]
set_option maxHeartbeats 4000000 in
set_option maxRecDepth 100000 in
theorem world_all (cI cJ : ClassId) (q0 q35 q50 : Nat) (u v : (Nat → Nat) × (Nat → Int32) × (Nat → Int32)) : permW.filterMap (fun i => (WXX cI cJ q0 u ++ WMD cI q35 v ++ [(q50, .inl (cJ, 1, .inr (.inl (fun _ => 0))))] : va_W)[i]?) = WS cI cJ (adW q0 q35 q50 u.1 v.1) (mem0 u.2.1 u.2.2 v.2.1 v.2.2) := rfl
set_option maxHeartbeats 4000000 in
set_option maxRecDepth 100000 in
theorem world_all2 (cI cJ : ClassId) (q0 q35 q50 : Nat) (u v : (Nat → Nat) × (Nat → Int32) × (Nat → Int32)) : permW.map (fun i => (WXX cI cJ q0 u ++ WMD cI q35 v ++ [(q50, .inl (cJ, 1, .inr (.inl (fun _ => 0))))] : va_W)[i]?) = (WS cI cJ (adW q0 q35 q50 u.1 v.1) (mem0 u.2.1 u.2.2 v.2.1 v.2.2)).map some := rfl
end ENTRY
