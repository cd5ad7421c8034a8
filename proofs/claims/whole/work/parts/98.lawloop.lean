/-! The law: its loop. -/
/-! THE CLAIM OUT OF ONE WALK OF THE LAW'S BODY. Your part is whole_start (and what it stands on); all else here is the same for every law, but numbers. -/
def R_law : String := "HeapcarrierLaw"
def lw_P (b : Addr) (xs : List Int32) (args : Array Value) (s : State) : Prop := args = #[.ref b] ∧ s.IntsAt b xs ∧ xs.length ≤ 2560 ∧ (Jvm.Cond.and given_1 narrow_1).before args s = true
def lw_Q (_ : Array Value) (s : State) (o : Outcome) (t : State) : Prop := o = .returned (some (.int 1)) ∧ Framed s o t [] 1084 9122
def lw_Z (below : List Frame) (a : Array Value) (s : State) : State → Prop := fun t => ∃ o, t.status = .running ∧ Ended t below o ∧ lw_Q a s o t
/-- the law's own end, with 1 on the stack, nothing written that was there before, its room as the claim has it -/
theorem lw_ret {p : Program} {l : Launch} {e : Env} {s : State} {m : MethodId} {below : List Frame} {meth : Method} {c : Code} {b : Nat} (hx : p.tables.exec = Jvm.exec) (hb : c.code = code) (hr : meth.sig.returnType = ret) (hlocks : meth.locks = false) {pc : Nat} {H : Heap} {ls : Array Slot} (hdg : decode code pc = .ok (.ireturn, 1)) : W p l e room_1 s m #[Value.ref b] below meth c H [] 1084 9122 (lw_Z below #[Value.ref b] s) (F0 m pc ls [.int 1]) := by
  intro T hT X
  obtain ⟨fs, hret, hrun, hended, hW, hframe⟩ := X.leave (v := some (.int 1)) (hlocks := hlocks) (fun h => by rw [hr] at h; cases h)
  have hmeth' : T.vm.method? m = some meth := X.method'
  refine ⟨T.setFrames fs, ?_, .returned (some (.int 1)), hrun, hended, rfl, ⟨_, rfl⟩, hW, hframe⟩
  jvm_step X.here [X.here.top, hx, hb, hdg, hmeth', hr, ret, narrow_b1]
  (try refine ⟨rfl, ?_⟩); (try refine ⟨rfl, ?_⟩)
  first | (intro acts; rw [hret _ acts rfl rfl rfl]) | rw [hret _ _ rfl rfl rfl]
  exact Steps.refl _
/-- what holds at the law's entry: the machine, the code, the tables' words (any of lw_tbl by 'hts w (by decide +kernel)'), the script of L ints xs at the cell b, what the Statement gives of the start (any of its parts by flat_of_before) -/
def lw_At (p : Program) (s : State) (m : MethodId) (meth : Method) (c : Code) (b L : Nat) (xs : Nat → Int32) : Prop :=
  p.tables.exec = Jvm.exec ∧ c.code = code ∧ meth.sig.returnType = ret ∧ c.maxLocals = 7 ∧ s.vm.findClass R_law = some m.cls ∧ (∀ w ∈ lw_tbl, w.before #[Value.ref b] s = true) ∧ va_X b L xs s s.heap ∧ b < s.heap.size ∧ meth.locks = false ∧ (Jvm.Cond.and given_1 narrow_1).before #[Value.ref b] s = true
section LAWLOOP
variable {C : Ctx} {kc ks b Ln : Nat} {xs : Nat → Int32} {L : List (Nat × Value)} {σ : Mem}
/-- what the law's own body is -/
def LB (C : Ctx) (b : Nat) : Prop := (∀ k, k < 53 → (cS C).heap.size ≤ adr C k) ∧ cQ C = lw_Z (cB C) #[Value.ref b] (cS C) ∧ cA C = #[Value.ref b]
theorem l_end (X : CX C code 7 RL wsL_law room_1 (some .boolean)) (B : LB C b) (hk : kc ≤ 1084 ∧ ks ≤ 9122) : G C 7 kc ks 1594 L [] σ := by
  obtain ⟨hx, hb, hml, hown, hts, hK, hinj, hR, hlk, hKF, htr, hret⟩ := X
  obtain ⟨hA, hQ, hargs⟩ := B
  intro H locs ls hP hS h
  refine lv_iconst (v := 1) hx hb dL_law_1594 (by decide) ?_
  refine va_forget (fun q hq => ?_) ?_
  · rcases hS.2.2 q hq with ⟨k, hk, e⟩ | h1
    · rw [e]; exact hA k hk
    · exact h1
  · refine W.widen (k := 1084) (n := 9122) hk.1 hk.2 ?_
    rw [hQ, hR, hargs]
    exact lw_ret hx hb hret hlk dL_law_1595
theorem law_loop (X : CX C code 7 RL wsL_law room_1 (some .boolean)) (HX : SX C b Ln xs) (B : LB C b) : ∀ (d k0 kc ks : Nat) (σ : Mem), Ln < k0 + 5 * d + 5 → k0 ≤ 3000 → kc + d ≤ 1084 → ks + 6 * d ≤ 9122 → WLD σ → G C 7 kc ks 23 (LL C b k0) [] σ := by
  have h9 := HX.2.2.2
  intro d
  induction d with
  | zero =>
    intro k0 kc ks σ h1 h2 h3 h4 hS
    refine g_iload X dL_law_23 4 rfl ?_
    refine g_aload_n X dL_law_25 0 rfl rfl ?_
    refine l_slen X HX dL_law_26 ?_
    refine g_iconst (v := 5) X dL_law_27 (by decide) ?_
    refine g_isub X dL_law_28 ?_
    refine l_icmp_gt (tgt := 1594) X dL_law_29 (by decide) (fun hc => ?_) (fun hc => ?_)
    · exact l_end X B ⟨by omega, by omega⟩
    · refine absurd ?_ hc
      have e : nI Ln - 5 = oI ((Ln : Int) - 5) := by rw [oI_nat, show (5 : Int32) = oI 5 from rfl, oI_sub]
      rw [ltI', e, oI_to (by unfold inR; omega), nI_t (by omega)]
      omega
  | succ d ih =>
    intro k0 kc ks σ h1 h2 h3 h4 hS
    have e : nI Ln - 5 = oI ((Ln : Int) - 5) := by rw [oI_nat, show (5 : Int32) = oI 5 from rfl, oI_sub]
    refine g_iload X dL_law_23 4 rfl ?_
    refine g_aload_n X dL_law_25 0 rfl rfl ?_
    refine l_slen X HX dL_law_26 ?_
    refine g_iconst (v := 5) X dL_law_27 (by decide) ?_
    refine g_isub X dL_law_28 ?_
    refine l_icmp_gt (tgt := 1594) X dL_law_29 (by decide) (fun hc => ?_) (fun hc => ?_)
    · exact l_end X B ⟨by omega, by omega⟩
    · rw [ltI', e, oI_to (by unfold inR; omega), nI_t (by omega)] at hc
      have hk : k0 + 5 ≤ Ln := by omega
      refine g_aload_n X dL_law_32 0 rfl rfl ?_
      refine g_iload X dL_law_33 4 rfl ?_
      refine l_sld X HX (k := k0) (by omega) dL_law_35 ?_
      refine g_bipush (v := 31) X dL_law_36 (by decide) ?_
      refine g_iand X dL_law_38 ?_
      generalize xs k0 &&& 31 = y
      have hnext : ∀ (σ' : Mem) (kc' ks' : Nat), kc' ≤ kc + 1 → ks' ≤ ks + 6 → WLD σ' → G C 7 kc' ks' 1588 (LL C b k0) [] σ' := fun σ' kc' ks' g1 g2 hW => by
        refine g_iinc (v := nI (k0 + 5)) (L' := [(4, .int (nI (k0 + 5))), (0, .ref b), (1, .ref (adr C 0)), (2, .ref (adr C 35)), (3, .ref (adr C 50))]) X dL_law_1588 4 rfl (nI_ad k0 5) (by decide) rfl ?_
        refine g_goto (tgt := 23) X dL_law_1591 (by decide) ?_
        refine g_sub [1, 2, 3, 4, 0] (L' := LL C b (k0 + 5)) rfl ?_
        exact ih (k0 + 5) kc' ks' σ' (by omega) (by omega) (by omega) (by omega) hW
      have hn1 : ∀ σ', WLD σ' → G C 7 (kc + 1) (ks + 6) 1588 (LL C b k0) [] σ' := fun σ' hW => hnext σ' _ _ (Nat.le_refl _) (Nat.le_refl _) hW
      have hn0 : ∀ σ', WLD σ' → G C 7 kc ks 1588 (LL C b k0) [] σ' := fun σ' hW => hnext σ' _ _ (by omega) (by omega) hW
      have hr1 : kc + 1 ≤ 1084 ∧ ks + 6 ≤ 9122 := ⟨by omega, by omega⟩
      have hr0 : kc ≤ 1084 ∧ ks ≤ 9122 := ⟨by omega, by omega⟩
      by_cases hy : 0 ≤ y.toInt ∧ y.toInt ≤ 23
      · rcases (show y.toInt = 0 ∨ y.toInt = 1 ∨ y.toInt = 2 ∨ y.toInt = 3 ∨ y.toInt = 4 ∨ y.toInt = 5 ∨ y.toInt = 6 ∨ y.toInt = 7 ∨ y.toInt = 8 ∨ y.toInt = 9 ∨ y.toInt = 10 ∨ y.toInt = 11 ∨ y.toInt = 12 ∨ y.toInt = 13 ∨ y.toInt = 14 ∨ y.toInt = 15 ∨ y.toInt = 16 ∨ y.toInt = 17 ∨ y.toInt = 18 ∨ y.toInt = 19 ∨ y.toInt = 20 ∨ y.toInt = 21 ∨ y.toInt = 22 ∨ y.toInt = 23 by omega) with hc | hc | hc | hc | hc | hc | hc | hc | hc | hc | hc | hc | hc | hc | hc | hc | hc | hc | hc | hc | hc | hc | hc | hc
        · exact g_tsIn (tgt := 148) X dL_law_39 (by omega) (by omega) (by rw [hc]; rfl) (by decide) (law_c0 X HX hk hr1 hS hn1)
        · exact g_tsIn (tgt := 216) X dL_law_39 (by omega) (by omega) (by rw [hc]; rfl) (by decide) (law_c1 X HX hk hr1 hS hn1)
        · exact g_tsIn (tgt := 284) X dL_law_39 (by omega) (by omega) (by rw [hc]; rfl) (by decide) (law_c2 X HX hk hr1 hS hn1)
        · exact g_tsIn (tgt := 392) X dL_law_39 (by omega) (by omega) (by rw [hc]; rfl) (by decide) (law_c3 X HX hk hr1 hS hn1)
        · exact g_tsIn (tgt := 460) X dL_law_39 (by omega) (by omega) (by rw [hc]; rfl) (by decide) (law_c4 X HX hk hr1 hS hn1)
        · exact g_tsIn (tgt := 540) X dL_law_39 (by omega) (by omega) (by rw [hc]; rfl) (by decide) (law_c5 X HX hk hr1 hS hn1)
        · exact g_tsIn (tgt := 620) X dL_law_39 (by omega) (by omega) (by rw [hc]; rfl) (by decide) (law_c6 X HX hk hr1 hS hn1)
        · exact g_tsIn (tgt := 688) X dL_law_39 (by omega) (by omega) (by rw [hc]; rfl) (by decide) (law_c7 X HX hk hr1 hS hn1)
        · exact g_tsIn (tgt := 756) X dL_law_39 (by omega) (by omega) (by rw [hc]; rfl) (by decide) (law_c8 X hr0 hS hn0)
        · exact g_tsIn (tgt := 769) X dL_law_39 (by omega) (by omega) (by rw [hc]; rfl) (by decide) (law_c9 X HX hk hr1 hS hn1)
        · exact g_tsIn (tgt := 813) X dL_law_39 (by omega) (by omega) (by rw [hc]; rfl) (by decide) (law_c10 X HX hk hr1 hS hn1)
        · exact g_tsIn (tgt := 881) X dL_law_39 (by omega) (by omega) (by rw [hc]; rfl) (by decide) (law_c11 X HX hk hr1 hS hn1)
        · exact g_tsIn (tgt := 965) X dL_law_39 (by omega) (by omega) (by rw [hc]; rfl) (by decide) (law_c12 X HX hk hr1 hS hn1)
        · exact g_tsIn (tgt := 1033) X dL_law_39 (by omega) (by omega) (by rw [hc]; rfl) (by decide) (law_c13 X HX hk hr1 hS hn1)
        · exact g_tsIn (tgt := 1117) X dL_law_39 (by omega) (by omega) (by rw [hc]; rfl) (by decide) (law_c14 X HX hk hr1 hS hn1)
        · exact g_tsIn (tgt := 1185) X dL_law_39 (by omega) (by omega) (by rw [hc]; rfl) (by decide) (law_c15 X hr0 hS hn0)
        · exact g_tsIn (tgt := 1198) X dL_law_39 (by omega) (by omega) (by rw [hc]; rfl) (by decide) (law_c16 X HX hk hr1 hS hn1)
        · exact g_tsIn (tgt := 1242) X dL_law_39 (by omega) (by omega) (by rw [hc]; rfl) (by decide) (law_c17 X HX hk hr1 hS hn1)
        · exact g_tsIn (tgt := 1322) X dL_law_39 (by omega) (by omega) (by rw [hc]; rfl) (by decide) (law_c18 X hr0 hS hn0)
        · exact g_tsIn (tgt := 1335) X dL_law_39 (by omega) (by omega) (by rw [hc]; rfl) (by decide) (law_c19 X hr0 hS hn0)
        · exact g_tsIn (tgt := 1348) X dL_law_39 (by omega) (by omega) (by rw [hc]; rfl) (by decide) (law_c20 X HX hk hr1 hS hn1)
        · exact g_tsIn (tgt := 1392) X dL_law_39 (by omega) (by omega) (by rw [hc]; rfl) (by decide) (law_c21 X HX hk hr1 hS hn1)
        · exact g_tsIn (tgt := 1436) X dL_law_39 (by omega) (by omega) (by rw [hc]; rfl) (by decide) (law_c22 X HX hk hr1 hS hn1)
        · exact g_tsIn (tgt := 1532) X dL_law_39 (by omega) (by omega) (by rw [hc]; rfl) (by decide) (law_c23 X HX hk hr1 hS hn1)
      · exact g_tsOut (tgt := 1588) X dL_law_39 (by omega) (by decide) (hn0 σ hS)
end LAWLOOP
