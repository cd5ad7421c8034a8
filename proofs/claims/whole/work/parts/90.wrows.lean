/-! The law's helpers: a call whose throws are caught. -/
section WROWS
theorem met_ofWH {l : Launch} {y : MethodName} {ws ws' : List Cond} {rm : Room} {Pc : Array Value → State → Prop} {Qc : Array Value → State → Outcome → State → Prop} {mc ms : Nat} {free : Addr → Prop} {cc : ByteArray} {maxL : Nat} {rt : Option FieldType} {hh : List (Nat × Nat × Nat × Nat)}
    (hy : plainName y.cls = true) (hw : ws = Cond.codeWith y cc maxL rt hh :: ws')
    (body : ∀ p e s m args below meth c s₁, BodyLoose p l y (headSpec ws rm) cc maxL rt e s m args below meth c s₁ → c.maxLocals = maxL → c.exceptionTable.toList = tableOf hh → Pc args s →
      W p l e (headSpec ws rm).room s m args below meth c s.heap [] 0 0 (MQ below Qc args s mc ms free) (entryFrame m args maxL)) : Met l y ws rm Pc Qc mc ms free := by
  refine MetFree.of_bodyS (code := cc) (maxLocals := maxL) (ret := rt) hy ?_ ?_
  · intro args s m h hn
    obtain ⟨m9, meth, c, hn9, h1, h2, h3, h4, -, h5, h6, -⟩ := Cond.codeWith_spec (atoms_spec (ws := ws) h _ (by rw [hw]; exact List.mem_cons_self))
    cases hn.symm.trans hn9
    exact ⟨meth, c, h1, h2, h3, h4, h5, h6⟩
  · intro p e s m args below meth c s₁ B hml hP _
    have hh0 : s₁.heap = s.heap := by rw [B.state]; rfl
    have ht : c.exceptionTable.toList = tableOf hh := vx_table (x := y) B (atoms_spec (ws := ws) B.pre _ (by rw [hw]; exact List.mem_cons_self))
    obtain ⟨t, a1, o, b1, b2, b3⟩ := body p e s m args below meth c s₁ B hml ht hP s₁ hh0 (Stand.of_body B)
    exact ⟨t, o, a1, b1, b2, ⟨b3.1, b3.2⟩⟩
/-- a helper's contract: it always returns -/
def KW (l : Launch) (y : MethodName) (ws : List Cond) (rm : Room) (As : (Nat → Nat) → List Value) (σ : Mem) (F : Option (Int32 × Mem)) : Prop :=
  ∀ r, F = some r → l.stackTraces = false → ∀ (D : va_G) (cI cJ : ClassId) (ad : Nat → Nat) (sz : Nat), Met l y ws rm (va_Pc (As ad) (Pre D cI cJ ad σ sz)) (QN D cI cJ ad sz (fun v σ' => v = some (.int r.1) ∧ σ' = r.2)) 1 6 (AA ad sz)
def CW (C : Ctx) (r : Int32 × Mem) : Prop := cQ C = MQ (cB C) (QN (cD C) (cI C) (cJ C) (adr C) (cS C).heap.size (fun v σ' => v = some (.int r.1) ∧ σ' = r.2)) (cA C) (cS C) 1 6 (AA (adr C) (cS C).heap.size)
def TH (C : Ctx) (hh : List (Nat × Nat × Nat × Nat)) : Prop := (cC C).exceptionTable.toList = tableOf hh
theorem kw_of {l : Launch} {y : MethodName} {ws ws' : List Cond} {rm : Room} {As : (Nat → Nat) → List Value} {σ : Mem} {F : Option (Int32 × Mem)} {cc : ByteArray} {maxL : Nat} {rt : Option FieldType} {hh : List (Nat × Nat × Nat × Nat)}
    (hy : plainName y.cls = true) (hw : ws = Cond.codeWith y cc maxL rt hh :: ws') (hlen : ∀ ad, (lg_sl (As ad)).length ≤ maxL)
    (body : ∀ r, F = some r → ∀ C : Ctx, CX C cc maxL y.cls ws rm rt → cL C = l → TH C hh → CW C r → G C maxL 0 0 0 (lv_args 0 (As (adr C))) [] σ) : KW l y ws rm As σ F := by
  intro r hr htr D cI cJ ad sz
  refine met_ofWH hy hw ?_
  intro p e s m args below meth c s₁ B hml hth hv
  obtain ⟨rfl, hsz, hP, hK, hinj, hKF⟩ := hv
  subst hsz
  have hts := atoms_spec (ws := ws) B.pre
  have hown : s.vm.findClass y.cls = some m.cls := findClass_of_methodNamed B.named
  have hl := lv_entry (As ad) (n := maxL) (hlen ad)
  rw [lg_entry_eq]
  exact body r hr ((p, l, e, (headSpec ws rm).room, s, m, (As ad).toArray, below, meth, c), (D, cI, cJ, ad), MQ below (QN D cI cJ ad s.heap.size (fun v σ' => v = some (.int r.1) ∧ σ' = r.2)) (As ad).toArray s 1 6 (AA ad s.heap.size)) ⟨B.exec, B.bytes, hml, hown, hts, hK, hinj, rfl, B.notSynchronized, hKF, htr, B.returns⟩ rfl hth rfl s.heap [] _ hP va_S.rf hl
variable {C : Ctx} {cc : ByteArray} {nL : Nat} {own : String} {Ts : List Cond} {R0 : Room} {ret : Option FieldType}
variable {kc ks pc : Nat} {L : List (Nat × Value)} {st rest : List Value} {σ : Mem} {r : Int32 × Mem}
theorem e_iretW (X : CX C cc nL own Ts R0 (some .int)) (hq : CW C r) {v : Int32} (hk : kc ≤ 1 ∧ ks ≤ 6) (hr : r = (v, σ)) (hd : decode cc pc = .ok (.ireturn, 1)) : G C nL kc ks pc L [.int v] σ := by
  obtain ⟨hx, hb, hml, hown, hts, hK, hinj, hR, hlk, hKF, htr, hret⟩ := X
  intro H locs ls hP hS h
  unfold WC
  rw [hq]
  refine W.widen (k := 1) (n := 6) hk.1 hk.2 ?_
  subst hr
  exact W.iret hx hb hret (fun t ht hW => ⟨⟨_, σ, rfl, ⟨rfl, rfl⟩, by rw [ht]; exact hP⟩, hS.F ht⟩) hS.2.2 hd hlk
theorem castW {ad : Nat → Nat} {sz : Nat} {s : State} {H : Heap} {a : Array Value} {E : String} (h : KF ad sz s H) (hE : E = iIO ∨ E = iIA ∨ E = iIS) : (Cond.castable E E).before a s = true := by
  obtain ⟨k1, ⟨c1, c2, c3⟩, -⟩ := h
  rcases hE with rfl | rfl | rfl
  · exact va_Nw.use rfl c1
  · exact va_Nw.use rfl c2
  · exact va_Nw.use rfl c3
/-- the first handler takes it -/
theorem g_catch1 (X : CX C cc nL own Ts R0 ret) {hs : List (Nat × Nat × Nat × Nat)} {a b tgt ct : Nat} (hT : TH C ((a, b, tgt, ct) :: hs)) {E : String} (hE : E = iIO ∨ E = iIA ∨ E = iIS) (hpc : a ≤ pc ∧ pc < b) (h0 : ct ≠ 0) (hl : Cond.classLink own ct E ∈ Ts)
    (kk : ∀ q, G C nL kc ks tgt L [.ref q] σ) : GX C nL kc ks pc L st E σ := by
  obtain ⟨hx, hb, hml, hown, hts, hK, hinj, hR, hlk, hKF, htr, hret⟩ := X
  intro H locs ls q ce hP hS h hcell hv hcl
  exact vx_catch hown [] ⟨a, b, tgt, ct⟩ (tableOf hs) hT (fun z hz => absurd hz List.not_mem_nil) (by simp [covers, hpc.1, hpc.2]) h0 (hts _ hl) (castW hKF hE) hcell hv hcl (kk q H locs ls hP hS h)
/-- the second handler takes it -/
theorem g_catch2 (X : CX C cc nL own Ts R0 ret) {hs : List (Nat × Nat × Nat × Nat)} {a b tgt ct a' b' tgt' ct' : Nat} (hT : TH C ((a', b', tgt', ct') :: (a, b, tgt, ct) :: hs)) {E E' : String} (hE : E = iIO ∨ E = iIA ∨ E = iIS) (hn : (E, E') ∈ ncs) (hpc : a ≤ pc ∧ pc < b) (h0 : ct ≠ 0) (h0' : ct' ≠ 0) (hl : Cond.classLink own ct E ∈ Ts) (hl' : Cond.classLink own ct' E' ∈ Ts)
    (kk : ∀ q, G C nL kc ks tgt L [.ref q] σ) : GX C nL kc ks pc L st E σ := by
  obtain ⟨hx, hb, hml, hown, hts, hK, hinj, hR, hlk, hKF, htr, hret⟩ := X
  intro H locs ls q ce hP hS h hcell hv hcl
  exact vx_catch hown [⟨a', b', tgt', ct'⟩] ⟨a, b, tgt, ct⟩ (tableOf hs) hT (fun z hz => by
    rcases List.mem_singleton.mp hz with rfl
    exact Or.inr ⟨h0', E', hts _ hl', hKF.2.2.2.2.1 (E, E') hn⟩) (by simp [covers, hpc.1, hpc.2]) h0 (hts _ hl) (castW hKF hE) hcell hv hcl (kk q H locs ls hP hS h)
variable {index n maxL : Nat} {vs : List Value} {y : MethodName} {ws : List Cond} {rm : Room} {As : (Nat → Nat) → List Value} {bytes : ByteArray} {rt : Option FieldType} {Cn : String}
theorem c_WXI (X : CX C cc nL own Ts R0 ret) {F : Option (Sum Int32 Nat × Mem)} {t : Nat → Option Int32} (hM : KXI (cL C) y ws rm As σ F) (cw : ∀ (s : State) (a : Array Value), (∀ w ∈ Ts, w.before a s = true) → CallW R0 s a own Cn index y bytes maxL rt ws rm 1 6 n) {q ci : Nat} {fs : (Nat → Nat) → (Nat → Int32) → List Value} {rr : vw_C} (ho : OBJ q ci fs) (hc : vwCl[ci]? = some rr) (hcn : rr.1 = Cn) (hAs : As (adr C) = .ref (adr C q) :: vs) (hn : vs.length = n) (hst : st = vs.reverse ++ .ref (adr C q) :: rest) (hcat : (rest.map fun v => v.category).sum ≤ 8) (hd : decode cc pc = .ok (.invokevirtual index, 3)) (hR : 1 ≤ R0.cells ∧ 6 ≤ R0.slots)
    (hf : wrp t F = some r) (kk : ∀ (v : Int32) (σ' : Mem), r = (0, wJ σ' 50 0 v.toInt64) → G C nL 0 0 (pc + 3) L (.int v :: rest) σ') (kx : ∀ (e : Nat) (k : Int32) (σ' : Mem), t e = some k → r = (k, σ') → GX C nL 1 6 pc L rest (exc e) σ') : G C nL 0 0 pc L st σ := by
  cases hF : F with
  | none => rw [hF] at hf; cases hf
  | some q9 =>
    have hM1 := hM q9 hF
    obtain ⟨o, σ1⟩ := q9
    rw [hF] at hf
    refine g_callV X hM1 cw ho hc hcn hAs hn hst hcat hd (by omega) (fun v' σ' hp => ?_) (fun E σ' hp => ?_)
    · obtain ⟨x, e1, rfl⟩ := hp
      cases e1
      exact kk x _ (Option.some.inj hf).symm
    · obtain ⟨m, e1, rfl⟩ := hp
      cases e1
      have h2 : (t m).bind (fun k => some (k, σ1)) = some r := hf
      cases h3 : t m with
      | none => rw [h3] at h2; cases h2
      | some k =>
        rw [h3] at h2
        exact kx m k _ h3 (Option.some.inj h2).symm
theorem tt_some {a b e : Nat} {k : Int32} (h : tt a b e = some k) : (e = a ∧ k = 1) ∨ ((e = b ∧ b < 9) ∧ k = 2) := by
  unfold tt at h
  split at h
  · rename_i h1; exact Or.inl ⟨h1, (Option.some.inj h).symm⟩
  · split at h
    · rename_i h1; exact Or.inr ⟨⟨h1.2, h1.1⟩, (Option.some.inj h).symm⟩
    · cases h
theorem g_outW (X : CX C cc nL own Ts R0 ret) {v : Int32} (hd : decode cc pc = .ok (.i2l, 1)) (hd2 : decode cc (pc + 1) = .ok (.lastore, 1)) (kk : G C nL kc ks (pc + 2) L [] (wJ σ 50 0 v.toInt64)) : G C nL kc ks pc L [.int v, .int 0, .ref (adr C 50)] σ := by
  refine g_i2l X hd ?_
  refine g_last (q := 50) (n := 1) (F := some ()) (r := ()) X rfl rfl hd2 (by rw [show inb 0 1 = true by decide]; rfl) (fun _ => ?_)
  have e : ix 0 = 0 := by decide
  rw [e]
  exact kk
end WROWS
