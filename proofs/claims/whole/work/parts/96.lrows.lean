/-! The law: rows. -/
def bz (x : Int32) : Int32 := if x = 0 then 0 else 1
theorem bz01 (x : Int32) : bz x = 0 ∨ bz x = 1 := by
  unfold bz
  split
  · exact Or.inl rfl
  · exact Or.inr rfl
/-- the script, that no cell of the world is -/
def SX (C : Ctx) (b Ln : Nat) (xs : Nat → Int32) : Prop := va_X b Ln xs (cS C) (cS C).heap ∧ b < (cS C).heap.size ∧ ¬ AA (adr C) (cS C).heap.size b ∧ Ln ≤ 2560
/-- the law's locals at its loop's head -/
def LL (C : Ctx) (b k : Nat) : List (Nat × Value) := [(0, .ref b), (1, .ref (adr C 0)), (2, .ref (adr C 35)), (3, .ref (adr C 50)), (4, .int (nI k))]
section LROWS
variable {C : Ctx} {cc : ByteArray} {nL : Nat} {own : String} {Ts : List Cond} {R0 : Room} {ret : Option FieldType}
variable {kc ks pc b Ln k0 : Nat} {xs : Nat → Int32} {L : List (Nat × Value)} {st rest : List Value} {σ : Mem}
theorem l_sld (X : CX C cc nL own Ts R0 ret) (HX : SX C b Ln xs) {k : Nat} (hk : k < Ln) (hd : decode cc pc = .ok (.iaload, 1)) (kk : G C nL kc ks (pc + 1) L (.int (xs k) :: st) σ) : G C nL kc ks pc L (.int (nI k) :: .ref b :: st) σ := by
  obtain ⟨hx, hb, -⟩ := X
  have h9 := HX.2.2.2
  have e : (nI k).toNatClampNeg = k := ix_n (n := k) (by omega)
  rw [← e] at kk
  exact fun H locs ls hP hS h => va_sld hx hb HX.1 HX.2.1 HX.2.2.1 hS (vp_in_nI hk (by omega)) hd (kk H locs ls hP hS h)
theorem l_slen (X : CX C cc nL own Ts R0 ret) (HX : SX C b Ln xs) (hd : decode cc pc = .ok (.arraylength, 1)) (kk : G C nL kc ks (pc + 1) L (.int (nI Ln) :: st) σ) : G C nL kc ks pc L (.ref b :: st) σ := by
  obtain ⟨hx, hb, -⟩ := X
  exact fun H locs ls hP hS h => va_slen hx hb HX.1 HX.2.1 HX.2.2.1 hS hd (kk H locs ls hP hS h)
theorem nI_ad (a c : Nat) : nI a + nI c = nI (a + c) := by
  have h : nI a + nI c = oI ((a : Int) + c) := by rw [oI_nat, oI_nat, oI_add]
  rw [h, ← Int.natCast_add]
  rfl
theorem l_arg (X : CX C cc nL own Ts R0 ret) (HX : SX C b Ln xs) {j p0 p4 : Nat} {jv : Int} (hk : k0 + j < Ln) (hl0 : L[p0]? = some (0, .ref b)) (hl4 : L[p4]? = some (4, .int (nI k0))) (hj : Int32.ofInt jv = nI j)
    (d0 : decode cc pc = .ok (.aload_n 0, 1)) (d1 : decode cc (pc + 1) = .ok (.iload 4, 2)) (d3 : decode cc (pc + 3) = .ok (.iconst jv, 1)) (d4 : decode cc (pc + 4) = .ok (.iadd, 1)) (d5 : decode cc (pc + 5) = .ok (.iaload, 1))
    (kk : G C nL kc ks (pc + 6) L (.int (xs (k0 + j)) :: st) σ) : G C nL kc ks pc L st σ := by
  refine g_aload_n X d0 p0 hl0 rfl ?_
  refine g_iload X d1 p4 hl4 ?_
  refine g_iconst X d3 hj ?_
  refine g_iadd X d4 ?_
  rw [nI_ad]
  exact l_sld X HX hk d5 kk
theorem l_if_eq (X : CX C cc nL own Ts R0 ret) {x : Int32} {off : Int} {tgt : Nat} (hd : decode cc pc = .ok (.ifCond .eq off, 3)) (ht : (pc : Int) + off = (tgt : Int)) (kt : x = 0 → G C nL kc ks tgt L st σ) (kf : ¬ x = 0 → G C nL kc ks (pc + 3) L st σ) : G C nL kc ks pc L (.int x :: st) σ := by
  obtain ⟨hx, hb, -⟩ := X
  exact fun H locs ls hP hS h => lv_if_eq hx hb hd ht (fun hc => kt hc H locs ls hP hS h) (fun hc => kf hc H locs ls hP hS h)
theorem l_if_ne (X : CX C cc nL own Ts R0 ret) {x : Int32} {off : Int} {tgt : Nat} (hd : decode cc pc = .ok (.ifCond .ne off, 3)) (ht : (pc : Int) + off = (tgt : Int)) (kt : ¬ x = 0 → G C nL kc ks tgt L st σ) (kf : x = 0 → G C nL kc ks (pc + 3) L st σ) : G C nL kc ks pc L (.int x :: st) σ := by
  obtain ⟨hx, hb, -⟩ := X
  exact fun H locs ls hP hS h => lv_if_ne hx hb hd ht (fun hc => kt hc H locs ls hP hS h) (fun hc => kf (by first | exact hc | exact Decidable.not_not.mp hc) H locs ls hP hS h)
theorem l_icmp_eq (X : CX C cc nL own Ts R0 ret) {x y : Int32} {off : Int} {tgt : Nat} (hd : decode cc pc = .ok (.if_icmp .eq off, 3)) (ht : (pc : Int) + off = (tgt : Int)) (kt : x = y → G C nL kc ks tgt L st σ) (kf : ¬ x = y → G C nL kc ks (pc + 3) L st σ) : G C nL kc ks pc L (.int y :: .int x :: st) σ := by
  obtain ⟨hx, hb, -⟩ := X
  exact fun H locs ls hP hS h => lv_icmp_eq hx hb hd ht (fun hc => kt hc H locs ls hP hS h) (fun hc => kf hc H locs ls hP hS h)
theorem l_icmp_gt (X : CX C cc nL own Ts R0 ret) {x y : Int32} {off : Int} {tgt : Nat} (hd : decode cc pc = .ok (.if_icmp .gt off, 3)) (ht : (pc : Int) + off = (tgt : Int)) (kt : y < x → G C nL kc ks tgt L st σ) (kf : ¬ y < x → G C nL kc ks (pc + 3) L st σ) : G C nL kc ks pc L (.int y :: .int x :: st) σ := by
  obtain ⟨hx, hb, -⟩ := X
  exact fun H locs ls hP hS h => lv_icmp_gt hx hb hd ht (fun hc => kt hc H locs ls hP hS h) (fun hc => kf hc H locs ls hP hS h)
theorem l_bool (X : CX C cc nL own Ts R0 ret) {x : Int32} {t7 t8 : Nat} (d0 : decode cc pc = .ok (.ifCond .eq 7, 3)) (d3 : decode cc (pc + 3) = .ok (.iconst 1, 1)) (d4 : decode cc (pc + 4) = .ok (.goto 4, 3)) (d7 : decode cc t7 = .ok (.iconst 0, 1)) (h7 : t7 = pc + 7) (h8 : t8 = pc + 8) (kk : G C nL kc ks t8 L (.int (bz x) :: st) σ) : G C nL kc ks pc L (.int x :: st) σ := by
  subst h7 h8
  refine l_if_eq (tgt := pc + 7) X d0 (by omega) (fun hc => ?_) (fun hc => ?_)
  · refine g_iconst (v := 0) X d7 (by decide) ?_
    have e : bz x = 0 := if_pos hc
    rw [e] at kk
    exact kk
  · refine g_iconst (v := 1) X d3 (by decide) ?_
    refine g_goto (tgt := pc + 8) X d4 (by omega) ?_
    have e : bz x = 1 := if_neg hc
    rw [e] at kk
    exact kk
variable {index n maxL : Nat} {vs : List Value} {y : MethodName} {ws : List Cond} {rm : Room} {As : (Nat → Nat) → List Value} {bytes : ByteArray} {rt : Option FieldType} {Cn : String} {hh : List (Nat × Nat × Nat × Nat)}
theorem c_KW (X : CX C cc nL own Ts R0 ret) {F : Option (Int32 × Mem)} {v : Int32} {σ1 : Mem} (hM : KW (cL C) y ws rm As σ F) (cw : ∀ (s : State) (a : Array Value), (∀ w ∈ Ts, w.before a s = true) → vx_CSW R0 s a own index y bytes maxL rt hh ws rm 1 6 n)
    (hAs : As (adr C) = vs) (hn : vs.length = n) (hst : st = vs.reverse ++ rest) (hcat : (rest.map fun v => v.category).sum ≤ 8) (hd : decode cc pc = .ok (.invokestatic index, 3)) (hcs : kc + 1 ≤ R0.cells ∧ ks + 6 ≤ R0.slots) (hF : F = some (v, σ1))
    (kk : G C nL (kc + 1) (ks + 6) (pc + 3) L (.int v :: rest) σ1) : G C nL kc ks pc L st σ := by
  intro H locs ls hP hS h
  have hpre := fun U hU hW => g_pre X hP hS U hU hW
  obtain ⟨hx, hb, hml, hown, hts, hK, hinj, hR, hlk, hKF, htr, hret⟩ := X
  subst hR
  have hM1 := hM (v, σ1) hF htr (cD C) (cI C) (cJ C) (adr C) H.size
  rw [hAs] at hM1
  intro T hT Xs
  obtain ⟨v', st₀, t, T', L9, h0, X', hL, e1, e2, ⟨⟨v2, σ2, hv, ⟨hp1, hp2⟩, hP1⟩, hz, hk⟩, stp⟩ := vx_runSW (rest := rest) ⟨hx, hb, hml, hown, hts⟩ hM1 (cw _ _ hts) ⟨Pre_blind, fun U hU hW => ⟨rfl, hpre U hU hW⟩⟩ (g := F0 (cM C) pc ls st) rfl hn h.1 hst (lv_room hcat) hd hcs T hT Xs
  cases hv
  subst hp1
  subst hp2
  rw [h0] at hz hk
  have hA : ∀ q, AA (adr C) H.size q → AA (adr C) (cS C).heap.size q := fun q hq => hq.elim Or.inl (fun h => Or.inr (Nat.le_trans hS.1 h))
  have hS1 : va_S (AA (adr C) (cS C).heap.size) (cS C).heap T'.heap (locs ++ L9) := ⟨Nat.le_trans hS.1 (by rw [e1]; exact hz), fun q h1 h2 => by rw [e1, hk q (Nat.lt_of_lt_of_le h1 hS.1) (fun z => h2 (hA q z))]; exact hS.2.1 q h1 h2, fun q hq => (List.mem_append.mp hq).elim (hS.2.2 q) (fun h => hA _ (hL q h))⟩
  obtain ⟨t2, a1, b1⟩ := kk T'.heap (locs ++ L9) ls (by rw [e1]; exact hP1) hS1 h T' rfl X'
  exact ⟨t2, stp t2 a1, b1⟩
theorem c_VIeq (X : CX C cc nL own Ts R0 ret) {F : Option (Int32 × Mem)} {v : Int32} {σ1 : Mem} (hM : KI (cL C) y ws rm As σ F) (cw : ∀ (s : State) (a : Array Value), (∀ w ∈ Ts, w.before a s = true) → CallW R0 s a own Cn index y bytes maxL rt ws rm 0 0 n) {q ci : Nat} {fs : (Nat → Nat) → (Nat → Int32) → List Value} {rr : vw_C} (ho : OBJ q ci fs) (hc : vwCl[ci]? = some rr) (hcn : rr.1 = Cn) (hAs : As (adr C) = .ref (adr C q) :: vs) (hn : vs.length = n) (hst : st = vs.reverse ++ .ref (adr C q) :: rest) (hcat : (rest.map fun v => v.category).sum ≤ 8) (hd : decode cc pc = .ok (.invokevirtual index, 3)) (hR : kc ≤ R0.cells ∧ ks ≤ R0.slots) (hF : F = some (v, σ1))
    (kk : G C nL kc ks (pc + 3) L (.int v :: rest) σ1) : G C nL kc ks pc L st σ :=
  c_VI X hM cw ho hc hcn hAs hn hst hcat hd hR (B := fun v σ' => some (v, σ')) (r := (v, σ1)) (by rw [hF]; rfl) (fun v' σ' e => by cases e; exact kk)
theorem lg_self (x : Int64) : lg_cmp x x = 0 := (lg_cmp_eq x x).mpr rfl
end LROWS
section LTAIL
variable {C : Ctx} {kc ks p b k0 : Nat} {σ : Mem} {kv bv : Int32}
/-- the end of a turn: the Model's throw and answer are the class's -/
theorem l_tail (X : CX C code 7 RL wsL_law room_1 (some .boolean)) (h35 : rI σ 35 0 = kv) (h50 : kv = 0 → rJ σ 50 0 = bv.toInt64) (hcs : kc ≤ 1084 ∧ ks ≤ 9122) {off : Int} {p6 p13 p11 p28 : Nat} (e6 : p6 = p + 6) (e13 : p13 = p + 13) (e11 : p11 = p + 11) (e28 : p28 = p + 28)
    (d0 : decode cL_law p = .ok (.aload_n 2, 1)) (d1 : decode cL_law (p + 1) = .ok (.invokevirtual 92, 3)) (d4 : decode cL_law (p + 4) = .ok (.iload 5, 2)) (d6 : decode cL_law p6 = .ok (.if_icmp .eq 5, 3)) (d11 : decode cL_law p11 = .ok (.iload 5, 2)) (d13 : decode cL_law p13 = .ok (.ifCond .ne 15, 3))
    (d16 : decode cL_law (p + 16) = .ok (.aload_n 3, 1)) (d17 : decode cL_law (p + 17) = .ok (.iconst 0, 1)) (d18 : decode cL_law (p + 18) = .ok (.laload, 1)) (d19 : decode cL_law (p + 19) = .ok (.iload 6, 2)) (d21 : decode cL_law (p + 21) = .ok (.i2l, 1)) (d22 : decode cL_law (p + 22) = .ok (.lcmp, 1)) (d23 : decode cL_law (p + 23) = .ok (.ifCond .eq 5, 3)) (d28 : decode cL_law p28 = .ok (.goto off, 3)) (ho : (p28 : Int) + off = (1588 : Nat))
    (kk : G C 7 kc ks 1588 (LL C b k0) [] σ) : G C 7 kc ks p ((6, .int bv) :: (5, .int kv) :: LL C b k0) [] σ := by
  subst e6 e13 e11 e28
  have hend : G C 7 kc ks (p + 28) ((6, .int bv) :: (5, .int kv) :: LL C b k0) [] σ := by
    refine g_goto (tgt := 1588) X d28 ho ?_
    exact g_sub [2, 3, 4, 5, 6] (L' := LL C b k0) rfl kk
  refine g_aload_n X d0 4 rfl rfl ?_
  refine c_VIeq (q := 35) (vs := []) (rest := []) (v := kv) (σ1 := σ) X (kX3_thrown (cL C) σ) (fun s a hts => cwV 0 hts gL_law_X3_thrown rfl rfl rfl (by decide +kernel) ⟨Nat.le_of_ble_eq_true rfl, Nat.le_of_ble_eq_true rfl⟩) obj_m (rfl : vwCl[3]? = some (RX3, TX3, 21)) rfl rfl rfl rfl (Nat.le_of_ble_eq_true rfl) d1 hcs (by rw [← h35]; rfl) ?_
  refine g_iload X d4 1 rfl ?_
  refine l_icmp_eq (tgt := p + 11) X d6 (by omega) (fun _ => ?_) (fun hc => absurd rfl hc)
  refine g_iload X d11 1 rfl ?_
  refine l_if_ne (tgt := p + 28) X d13 (by omega) (fun _ => hend) (fun hz => ?_)
  refine g_aload_n X d16 5 rfl rfl ?_
  refine g_iconst (v := 0) X d17 (by decide) ?_
  refine g_lald (q := 50) (n := 1) (F := some ()) (r := ()) X rfl rfl d18 (by rw [show inb 0 1 = true by decide]; rfl) (fun _ => ?_)
  refine g_iload X d19 0 rfl ?_
  refine g_i2l X d21 ?_
  refine g_lcmp X d22 ?_
  have e : lg_cmp (rJ σ 50 (ix 0)) bv.toInt64 = 0 := by
    rw [show ix 0 = 0 by decide, h50 hz, lg_self]
  rw [e]
  exact l_if_eq (tgt := p + 28) X d23 (by omega) (fun _ => hend) (fun hc => absurd rfl hc)
end LTAIL
