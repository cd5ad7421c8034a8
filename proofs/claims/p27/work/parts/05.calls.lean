/-! Ends, calls by typed contracts, a contract out of a body. -/
def wx_MQ (below : List Frame) (Qc : Array Value → State → Outcome → State → Prop) (XC : String → State → State → Prop) (a : Array Value) (s : State) (mn sn mc ms : Nat) (free : Addr → Prop) : State → Prop := fun t =>
  ∃ o, t.status = .running ∧ Ended t below o ∧ wx_Q Qc XC mn sn mc ms free a s o t
theorem wx_ofW {l : Launch} {y : MethodName} {ws ws' : List Cond} {rm : Room} {Pc : Array Value → State → Prop} {Qc : Array Value → State → Outcome → State → Prop} {XC : String → State → State → Prop} {mn sn mc ms : Nat} {free : Addr → Prop} {cc : ByteArray} {maxL : Nat} {ret : Option FieldType}
    (hy : plainName y.cls = true) (hw : ws = Cond.code y cc maxL ret :: ws')
    (body : ∀ p e s m args below meth c s₁, BodyLoose p l y (headSpec ws rm) cc maxL ret e s m args below meth c s₁ → c.maxLocals = maxL → (∀ x ∈ c.exceptionTable.toList, False) → Pc args s →
      W p l e (headSpec ws rm).room s m args below meth c s.heap [] 0 0 (wx_MQ below Qc XC args s mn sn mc ms free) (entryFrame m args maxL)) : wx_Met l y ws rm Pc Qc XC mn sn mc ms free := by
  refine MetFree.of_bodyS (code := cc) (maxLocals := maxL) (ret := ret) hy ?_ ?_
  · intro args s m h hn
    obtain ⟨meth, c, h1, h2, h3, h4, h5, h6, -, -⟩ := Cond.code_spec hn (atoms_spec (ws := ws) h _ (by rw [hw]; exact List.mem_cons_self))
    exact ⟨meth, c, h1, h2, h3, h4, h5, h6⟩
  · intro p e s m args below meth c s₁ B hml hP _
    have hh0 : s₁.heap = s.heap := by rw [B.state]; rfl
    have ht : ∀ x ∈ c.exceptionTable.toList, False := by
      obtain ⟨meth9, c9, h1, h2, -, -, -, -, h7, -⟩ := Cond.code_spec B.named (atoms_spec (ws := ws) B.pre _ (by rw [hw]; exact List.mem_cons_self))
      cases Option.some.inj (h1.symm.trans B.method)
      cases Option.some.inj (h2.symm.trans (Stand.of_body B).code)
      intro x hx
      rw [Array.isEmpty_iff.mp h7] at hx
      cases hx
    obtain ⟨t, a1, o, b1, b2, b3⟩ := body p e s m args below meth c s₁ B hml ht hP s₁ hh0 (Stand.of_body B)
    exact ⟨t, o, a1, b1, b2, b3⟩
/-- the end that a body owes -/
def CQ (C : Ctx) (mx sx : Nat) (post : (Nat → Nat) → Option Value → Mem → Prop) (px : String → Mem → Prop) : Prop :=
  cQ C = wx_MQ (cB C) (QN (cD C) (cI C) (cJ C) (adr C) (cS C).heap.size (post (adr C))) (QX (cD C) (cI C) (cJ C) (adr C) (cS C).heap.size px) (cA C) (cS C) 0 0 mx sx (AA (adr C) (cS C).heap.size)
/-- the method has no handlers -/
def NH (C : Ctx) : Prop := ∀ x ∈ (cC C).exceptionTable.toList, False
theorem kt_of {l : Launch} {y : MethodName} {ws ws' : List Cond} {rm : Room} {mx sx : Nat} {As : (Nat → Nat) → List Value} {σ : Mem} {post : (Nat → Nat) → Option Value → Mem → Prop} {px : String → Mem → Prop} {cc : ByteArray} {maxL : Nat} {ret : Option FieldType}
    (hy : plainName y.cls = true) (hw : ws = Cond.code y cc maxL ret :: ws') (hlen : ∀ ad, (lg_sl (As ad)).length ≤ maxL)
    (body : ∀ C : Ctx, CX C cc maxL y.cls ws rm ret → NH C → CQ C mx sx post px → G C maxL 0 0 0 (lv_args 0 (As (adr C))) [] σ) : KT l y ws rm mx sx As σ post px := by
  intro htr D cI cJ ad sz
  refine wx_ofW hy hw ?_
  intro p e s m args below meth c s₁ B hml hne hv
  obtain ⟨rfl, hsz, hP, hK, hinj, hKF⟩ := hv
  subst hsz
  have hts := atoms_spec (ws := ws) B.pre
  have hown : s.vm.findClass y.cls = some m.cls := findClass_of_methodNamed B.named
  have hl := lv_entry (As ad) (n := maxL) (hlen ad)
  rw [lg_entry_eq]
  exact body ((p, l, e, (headSpec ws rm).room, s, m, (As ad).toArray, below, meth, c), (D, cI, cJ, ad), wx_MQ below (QN D cI cJ ad s.heap.size (post ad)) (QX D cI cJ ad s.heap.size px) (As ad).toArray s 0 0 mx sx (AA ad s.heap.size)) ⟨B.exec, B.bytes, hml, hown, hts, hK, hinj, rfl, B.notSynchronized, hKF, htr, B.returns⟩ hne rfl s.heap [] _ hP va_S.rf hl
/-- a throw, as the outcome r tells it -/
def PX {β : Type} (r : Sum β Nat × Mem) : String → Mem → Prop := fun E σ' => ∃ n, r = (.inr n, σ') ∧ E = exc n
def KI (l : Launch) (y : MethodName) (ws : List Cond) (rm : Room) (As : (Nat → Nat) → List Value) (σ : Mem) (F : Option (Int32 × Mem)) : Prop := ∀ r, F = some r → KT l y ws rm 0 0 As σ (fun _ v σ' => v = some (.int r.1) ∧ σ' = r.2) (fun _ _ => False)
abbrev QI (C : Ctx) (r : Int32 × Mem) : Prop := CQ C 0 0 (fun _ v σ' => v = some (.int r.1) ∧ σ' = r.2) (fun _ _ => False)
def KV (l : Launch) (y : MethodName) (ws : List Cond) (rm : Room) (As : (Nat → Nat) → List Value) (σ : Mem) (F : Option (Int32 × Mem)) : Prop := ∀ r, F = some r → KT l y ws rm 0 0 As σ (fun _ v σ' => v = none ∧ σ' = r.2) (fun _ _ => False)
abbrev QV (C : Ctx) (r : Int32 × Mem) : Prop := CQ C 0 0 (fun _ v σ' => v = none ∧ σ' = r.2) (fun _ _ => False)
def KR (l : Launch) (y : MethodName) (ws : List Cond) (rm : Room) (As : (Nat → Nat) → List Value) (σ : Mem) (F : Option (Nat × Mem)) : Prop := ∀ r, F = some r → KT l y ws rm 0 0 As σ (fun ad v σ' => v = some (.ref (ad r.1)) ∧ σ' = r.2) (fun _ _ => False)
abbrev QR (C : Ctx) (r : Nat × Mem) : Prop := CQ C 0 0 (fun ad v σ' => v = some (.ref (ad r.1)) ∧ σ' = r.2) (fun _ _ => False)
def KJ (l : Launch) (y : MethodName) (ws : List Cond) (rm : Room) (As : (Nat → Nat) → List Value) (σ : Mem) (F : Option (Int64 × Mem)) : Prop := ∀ r, F = some r → KT l y ws rm 0 0 As σ (fun _ v σ' => v = some (.long r.1) ∧ σ' = r.2) (fun _ _ => False)
abbrev QJ (C : Ctx) (r : Int64 × Mem) : Prop := CQ C 0 0 (fun _ v σ' => v = some (.long r.1) ∧ σ' = r.2) (fun _ _ => False)
def KXI (l : Launch) (y : MethodName) (ws : List Cond) (rm : Room) (As : (Nat → Nat) → List Value) (σ : Mem) (F : Option (Sum Int32 Nat × Mem)) : Prop := ∀ r, F = some r → KT l y ws rm 1 6 As σ (fun _ v σ' => ∃ x, r = (.inl x, σ') ∧ v = some (.int x)) (PX r)
abbrev QXI (C : Ctx) (r : Sum Int32 Nat × Mem) : Prop := CQ C 1 6 (fun _ v σ' => ∃ x, r = (.inl x, σ') ∧ v = some (.int x)) (PX r)
def KXV (l : Launch) (y : MethodName) (ws : List Cond) (rm : Room) (As : (Nat → Nat) → List Value) (σ : Mem) (F : Option (Sum Int32 Nat × Mem)) : Prop := ∀ r, F = some r → KT l y ws rm 1 6 As σ (fun _ v σ' => ∃ x, r = (.inl x, σ') ∧ v = none) (PX r)
abbrev QXV (C : Ctx) (r : Sum Int32 Nat × Mem) : Prop := CQ C 1 6 (fun _ v σ' => ∃ x, r = (.inl x, σ') ∧ v = none) (PX r)
section ENDS
variable {C : Ctx} {cc : ByteArray} {nL : Nat} {own : String} {Ts : List Cond} {R0 : Room} {ret : Option FieldType}
variable {kc ks pc mx sx : Nat} {L : List (Nat × Value)} {st rest : List Value} {σ : Mem} {post : (Nat → Nat) → Option Value → Mem → Prop} {px : String → Mem → Prop}
theorem wx_ret {p : Program} {l : Launch} {e : Env} {R : Room} {s : State} {m : MethodId} {args : Array Value} {below : List Frame} {meth : Method} {c : Code} {H : Heap} {locs : List Loc} {cells slots : Nat} {Qc : Array Value → State → Outcome → State → Prop} {XC : String → State → State → Prop} {free : Addr → Prop} {g : JFrame} {mn sn mc ms : Nat} (k : W p l e R s m args below meth c H locs cells slots (MQ below Qc args s mn sn free) g) : W p l e R s m args below meth c H locs cells slots (wx_MQ below Qc XC args s mn sn mc ms free) g := by
  intro T hT X
  obtain ⟨t, a1, o, b1, b2, b3, b4⟩ := k T hT X
  exact ⟨t, a1, o, b1, b2, Or.inl ⟨b3, b4⟩⟩
theorem e_iret (X : CX C cc nL own Ts R0 (some .int)) (hq : CQ C mx sx post px) {v : Int32} (hd : decode cc pc = .ok (.ireturn, 1)) (hp : post (adr C) (some (.int v)) σ) : G C nL 0 0 pc L [.int v] σ := by
  obtain ⟨hx, hb, hml, hown, hts, hK, hinj, hR, hlk, hKF, htr, hret⟩ := X
  intro H locs ls hP hS h
  unfold WC
  rw [hq]
  refine wx_ret ?_
  exact W.iret hx hb hret (fun t ht hW => ⟨⟨_, σ, rfl, hp, by rw [ht]; exact hP⟩, hS.F ht⟩) hS.2.2 hd hlk
theorem e_zret (X : CX C cc nL own Ts R0 (some .boolean)) (hq : CQ C mx sx post px) {v : Int32} (hd : decode cc pc = .ok (.ireturn, 1)) (hv : v = 0 ∨ v = 1) (hp : post (adr C) (some (.int v)) σ) : G C nL 0 0 pc L [.int v] σ := by
  obtain ⟨hx, hb, hml, hown, hts, hK, hinj, hR, hlk, hKF, htr, hret⟩ := X
  intro H locs ls hP hS h
  unfold WC
  rw [hq]
  refine wx_ret ?_
  exact W.zret hx hb hret (by rcases hv with rfl | rfl <;> rfl) (fun t ht hW => ⟨⟨_, σ, rfl, hp, by rw [ht]; exact hP⟩, hS.F ht⟩) hS.2.2 hd hlk
theorem e_vret (X : CX C cc nL own Ts R0 none) (hq : CQ C mx sx post px) (hd : decode cc pc = .ok (.return_, 1)) (hp : post (adr C) none σ) : G C nL 0 0 pc L [] σ := by
  obtain ⟨hx, hb, hml, hown, hts, hK, hinj, hR, hlk, hKF, htr, hret⟩ := X
  intro H locs ls hP hS h
  unfold WC
  rw [hq]
  refine wx_ret ?_
  exact W.vret hx hb hret (fun t ht hW => ⟨⟨_, σ, rfl, hp, by rw [ht]; exact hP⟩, hS.F ht⟩) hS.2.2 hd hlk
theorem e_aret {n : String} (X : CX C cc nL own Ts R0 (some (.object n))) (hq : CQ C mx sx post px) {a : Nat} (hd : decode cc pc = .ok (.areturn, 1)) (hp : post (adr C) (some (.ref a)) σ) : G C nL 0 0 pc L [.ref a] σ := by
  obtain ⟨hx, hb, hml, hown, hts, hK, hinj, hR, hlk, hKF, htr, hret⟩ := X
  intro H locs ls hP hS h
  unfold WC
  rw [hq]
  refine wx_ret ?_
  exact W.aret hx hb hret (Or.inl ⟨_, rfl⟩) (Or.inr ⟨_, rfl⟩) (fun t ht hW => ⟨⟨_, σ, rfl, hp, by rw [ht]; exact hP⟩, hS.F ht⟩) hS.2.2 hd hlk
theorem e_lret (X : CX C cc nL own Ts R0 (some .long)) (hq : CQ C mx sx post px) {v : Int64} (hd : decode cc pc = .ok (.lreturn, 1)) (hp : post (adr C) (some (.long v)) σ) : G C nL 0 0 pc L [.long v] σ := by
  obtain ⟨hx, hb, hml, hown, hts, hK, hinj, hR, hlk, hKF, htr, hret⟩ := X
  intro H locs ls hP hS h
  unfold WC
  rw [hq]
  refine wx_ret ?_
  exact W.lret hx hb hret (fun t ht hW => ⟨⟨_, σ, rfl, hp, by rw [ht]; exact hP⟩, hS.F ht⟩) hS.2.2 hd hlk
theorem wx_ofX {p : Program} {l : Launch} {e : Env} {R : Room} {s : State} {m : MethodId} {args : Array Value} {below : List Frame} {meth : Method} {c : Code} {H : Heap} {locs : List Loc} {cells slots : Nat} {Qc : Array Value → State → Outcome → State → Prop} {XC : String → State → State → Prop} {free : Addr → Prop} {g : JFrame} {mn sn mc ms : Nat} (k : W p l e R s m args below meth c H locs cells slots (vx_MQ below (fun _ _ _ _ => False) XC args s mc ms free) g) : W p l e R s m args below meth c H locs cells slots (wx_MQ below Qc XC args s mn sn mc ms free) g := by
  intro T hT X
  obtain ⟨t, a1, o, b1, b2, b3⟩ := k T hT X
  exact ⟨t, a1, o, b1, b2, b3.elim (fun h => h.1.elim) Or.inr⟩
/-- not caught here -/
theorem e_out (X : CX C cc nL own Ts R0 ret) (hne : NH C) (hq : CQ C mx sx post px) {E : String} (hp : px E σ) (hc : kc ≤ mx) (hs : ks ≤ sx) : GX C nL kc ks pc L st E σ := by
  obtain ⟨hx, hb, hml, hown, hts, hK, hinj, hR, hlk, hKF, htr, hret⟩ := X
  intro H locs ls q ce hP hS hgr h hcell hv hcl
  rw [hq]
  intro T hT Xs
  obtain ⟨t, a1, o, b1, b2, b3⟩ := vx_out (Qc := fun _ _ _ _ => False) (XC := QX (cD C) (cI C) (cJ C) (adr C) (cS C).heap.size px) (mc := mx) (ms := sx) (free := AA (adr C) (cS C).heap.size) (fun x hx => (hne x hx).elim) hlk hcell hv hcl (fun t ht hal => ⟨⟨σ, hp, by rw [ht]; exact hP⟩, hS.F ht, by rw [ht]; exact hgr⟩) hS.2.2 hc hs T hT Xs
  exact ⟨t, a1, o, b1, b2, b3.elim (fun h => h.1.elim) Or.inr⟩
/-- throw new E("text") -/
theorem e_throw (X : CX C cc nL RX2 Ts R0 ret) (hne : NH C) (hq : CQ C mx sx post px) {E text : String} {ik is ic : Nat} (hcls : Bundle.fit E = true)
    (hk : Cond.classLink RX2 ik E ∈ Ts) (hini : Cond.initialized E ∈ Ts) (hstr : (is, text) ∈ strs) (hat : ∀ w ∈ (vx_atS RX2 ic E ["java/lang/RuntimeException", "java/lang/Exception"]).filter goodWord, w ∈ Ts)
    (hng : ∀ w ∈ (vx_atS RX2 ic E ["java/lang/RuntimeException", "java/lang/Exception"]).filter (fun w => !goodWord w), w ∈ Cond.castable E E :: (ngd.map Cond.declares)) (hE : E = iIO ∨ E = iIA ∨ E = iIS)
    (hgood : ∀ w ∈ Cond.classLink RX2 ik E :: Cond.initialized E :: vx_atS RX2 ic E ["java/lang/RuntimeException", "java/lang/Exception"], vx_ot w = true)
    (d0 : decode cc pc = .ok (.new ik, 3)) (d3 : decode cc (pc + 3) = .ok (.dup, 1)) (d4 : decode cc (pc + 4) = .ok (.ldc is, 2)) (d6 : decode cc (pc + 6) = .ok (.invokespecial ic, 3)) (d9 : decode cc (pc + 9) = .ok (.athrow, 1))
    (hRf : 5 < R0.frames) (hRl : (rest.map fun v => v.category).sum + 82 ≤ R0.locals) (hRc : kc + 1 ≤ R0.cells ∧ ks + 6 ≤ R0.slots) (hm : kc + 1 ≤ mx ∧ ks + 6 ≤ sx) (hp : px E σ) : G C nL kc ks pc L rest σ := by
  obtain ⟨hx, hb, hml, hown, hts, hK, hinj, hR, hlk, hKF, htr, hret⟩ := X
  subst hR
  obtain ⟨k1, ⟨c1, c2, c3⟩, k3, k4, k5, k6, k7⟩ := hKF
  obtain ⟨sa, hsa⟩ := k4 _ hstr
  intro H locs ls hP hS h
  unfold WC
  rw [hq]
  refine wx_ofX ?_
  refine vx_throwS (names := ["java/lang/RuntimeException", "java/lang/Exception"]) (A := AA (adr C) (cS C).heap.size) hx hb htr hown hcls (by decide +kernel) (hts _ hk) (hts _ hini) hsa ?_ hgood k6 k7 hS (by rw [hml]; exact h.1) d0 d3 d4 d6 d9 (fun x hx => (hne x hx).elim) hRf hRl hRc.1 hRc.2 hlk ?_ hS.2.2 hm.1 hm.2
  · refine vx_hat (B := Cond.castable E E :: (ngd.map Cond.declares)) (fun w hw => hts _ (hat w hw)) hng ?_
    intro w hw
    rcases List.mem_cons.mp hw with rfl | hw
    · rcases hE with rfl | rfl | rfl
      · exact va_Nw.use rfl c1
      · exact va_Nw.use rfl c2
      · exact va_Nw.use rfl c3
    · obtain ⟨x, hx9, rfl⟩ := List.mem_map.mp hw
      exact va_Nw.use rfl (k3 x hx9)
  · intro t hal hz hkeep
    exact ⟨⟨σ, hp, hP.kept (fun k q hk => hkeep q.1 ((hP k q hk).lt))⟩, ⟨Nat.le_trans hS.1 (Nat.le_of_lt hz), fun q h1 h2 => (hkeep q (Nat.lt_of_lt_of_le h1 hS.1)).trans (hS.2.1 q h1 h2)⟩, Nat.lt_of_le_of_lt hS.1 hz⟩
theorem r_iret {r : Int32 × Mem} (X : CX C cc nL own Ts R0 (some .int)) (hq : QI C r) {v : Int32} (hd : decode cc pc = .ok (.ireturn, 1)) (hf : some (v, σ) = some r) : G C nL 0 0 pc L [.int v] σ := by
  cases hf; exact e_iret X hq hd ⟨rfl, rfl⟩
theorem r_zret {r : Int32 × Mem} (X : CX C cc nL own Ts R0 (some .boolean)) (hq : QI C r) {v : Int32} (hd : decode cc pc = .ok (.ireturn, 1)) (hf : grd (decide (v = 0 ∨ v = 1)) (some (v, σ)) = some r) : G C nL 0 0 pc L [.int v] σ := by
  obtain ⟨h0, hf⟩ := grd_some hf
  cases hf; exact e_zret X hq hd (of_decide_eq_true h0) ⟨rfl, rfl⟩
theorem r_vret {r : Int32 × Mem} (X : CX C cc nL own Ts R0 none) (hq : QV C r) (hd : decode cc pc = .ok (.return_, 1)) (hf : some ((0 : Int32), σ) = some r) : G C nL 0 0 pc L [] σ := by
  cases hf; exact e_vret X hq hd ⟨rfl, rfl⟩
theorem r_aret {r : Nat × Mem} {n : String} (X : CX C cc nL own Ts R0 (some (.object n))) (hq : QR C r) {a : Nat} (hd : decode cc pc = .ok (.areturn, 1)) (hf : some (a, σ) = some r) : G C nL 0 0 pc L [.ref (adr C a)] σ := by
  cases hf; exact e_aret X hq hd ⟨rfl, rfl⟩
theorem r_lret {r : Int64 × Mem} (X : CX C cc nL own Ts R0 (some .long)) (hq : QJ C r) {v : Int64} (hd : decode cc pc = .ok (.lreturn, 1)) (hf : some (v, σ) = some r) : G C nL 0 0 pc L [.long v] σ := by
  cases hf; exact e_lret X hq hd ⟨rfl, rfl⟩
theorem r_iretX {r : Sum Int32 Nat × Mem} (X : CX C cc nL own Ts R0 (some .int)) (hq : QXI C r) {v : Int32} (hd : decode cc pc = .ok (.ireturn, 1)) (hf : some (Sum.inl v, σ) = some r) : G C nL 0 0 pc L [.int v] σ := by
  cases hf; exact e_iret X hq hd ⟨v, rfl, rfl⟩
theorem r_vretX {r : Sum Int32 Nat × Mem} (X : CX C cc nL own Ts R0 none) (hq : QXV C r) (hd : decode cc pc = .ok (.return_, 1)) (hf : some (Sum.inl (0 : Int32), σ) = some r) : G C nL 0 0 pc L [] σ := by
  cases hf; exact e_vret X hq hd ⟨0, rfl, rfl⟩
end ENDS
section TCALLS
variable {C : Ctx} {cc : ByteArray} {nL : Nat} {own : String} {Ts : List Cond} {R0 : Room} {ret : Option FieldType}
variable {kc ks pc index n maxL : Nat} {L : List (Nat × Value)} {st rest vs : List Value} {σ : Mem}
variable {y : MethodName} {ws : List Cond} {rm : Room} {As : (Nat → Nat) → List Value} {bytes : ByteArray} {rt : Option FieldType} {Cn : String}
/-- a private static of the class around, by a nest mate -/
theorem g_callN (X : CX C cc nL own Ts R0 ret) {mx sx : Nat} {post : (Nat → Nat) → Option Value → Mem → Prop} {px : String → Mem → Prop} (hM : KT (cL C) y ws rm mx sx As σ post px) (ho : own = RX0) (hy0 : y = yX2_wayOf) (hix : index = 84) (cw : ∀ (s : State) (a : Array Value), (∀ w ∈ Ts, w.before a s = true) → va_Nw (.methodLinkNest RX0 84 yX2_wayOf RX2) s → va_CN R0 s a RX0 84 yX2_wayOf RX2 bytes maxL rt ws rm mx sx n ∧ (Cond.static yX2_wayOf).before a s = true)
    (hAs : As (adr C) = vs) (hn : vs.length = n) (hst : st = vs.reverse ++ rest) (hcat : (rest.map fun v => v.category).sum ≤ 8) (hd : decode cc pc = .ok (.invokestatic index, 3)) (hf : kc + mx ≤ R0.cells ∧ ks + sx ≤ R0.slots)
    (kk : ∀ (v : Option Value) (σ' : Mem), post (adr C) v σ' → G C nL kc ks (pc + 3) L (v.toList ++ rest) σ')
    (kx : ∀ (E : String) (σ' : Mem), px E σ' → GX C nL (kc + mx) (ks + sx) pc L rest E σ') : G C nL kc ks pc L st σ := by
  subst ho; subst hy0; subst hix
  intro H locs ls hP hS h
  have hpre := fun U hU hW => g_pre X hP hS U hU hW
  obtain ⟨hx, hb, hml, hown, hts, hK, hinj, hR, hlk, hKF, htr, hret⟩ := X
  subst hR
  obtain ⟨⟨⟨c1, c2, c3, c4, c5, c6⟩, hcode, hini, hy, hlen, hl⟩, hstt⟩ := cw (cS C) (cA C) hts hKF.1
  have hM1 := hM htr (cD C) (cI C) (cJ C) (adr C) H.size
  rw [hAs] at hM1
  have hBk := wx_back (R := cR C) (p := cP C) (e := cE C) (below := cB C) (s := cS C) (sargs := cA C) (len := 3) (W9 := 8) (bytes := bytes) (maxL := maxL) (rt := rt) hM1 Pre_blind c1 c2 c3 c4 c5 c6 (fun a' U hW => word_at hW (Or.inl (by first | rfl | simp [Cond.onTables, Cond.keeps, Cond.steady])) hini)
  intro T hT Xs
  rcases wx_callSN Xs hx (bytes := bytes) (maxL := maxL) (ret := rt) (g := F0 (cM C) pc ls st) hown hl hstt hini hcode hy hBk rfl (by rw [hml]; exact h.1) (argsL := vs) (rest := rest) (fun sig hs => hn.trans (hlen sig hs)) hst (lv_room hcat) (by rw [hb]; exact hd)
    (fun vm₁ hW₁ => ⟨hf.1, hf.2, rfl, hpre (T.setVm vm₁) hT hW₁⟩) with ⟨v, vm₁, ⟨U', l2, c2', s2⟩, hW₁, X', ⟨g', mk, t, L', e1, e2, hq, h1, hL, h2, h3⟩, hst2⟩ | ⟨q9, vm₁, ⟨U', l2, c2', s2⟩, hW₁, X', ⟨g', mk, t, L', E, ce, e1, e2, hq, hce, hcv, hcl, h1, hL, h2, h3⟩, hst2⟩
  · dsimp only [Pt.U, Pt.locs, Pt.cells, Pt.slots] at X' e1 e2 h1 h2 h3 hst2
    subst h1; subst h2; subst h3
    exact g_after hT hS h X' e1 hL hq hst2 kk
  · dsimp only [Pt.U, Pt.locs, Pt.cells, Pt.slots] at X' e1 e2 h1 h2 h3 hst2 hcl
    subst h1; subst h2; subst h3
    exact g_afterX hT hS h X' e1 hL hq hce hcv (vx_cls hW₁ hcl) hst2 kx
theorem c_VI (X : CX C cc nL own Ts R0 ret) {F : Option (Int32 × Mem)} (hM : KI (cL C) y ws rm As σ F) (cw : ∀ (s : State) (a : Array Value), (∀ w ∈ Ts, w.before a s = true) → CallW R0 s a own Cn index y bytes maxL rt ws rm 0 0 n) {q ci : Nat} {fs : (Nat → Nat) → (Nat → Int32) → List Value} {rr : vw_C} (ho : OBJ q ci fs) (hc : vwCl[ci]? = some rr) (hcn : rr.1 = Cn) (hAs : As (adr C) = .ref (adr C q) :: vs) (hn : vs.length = n) (hst : st = vs.reverse ++ .ref (adr C q) :: rest) (hcat : (rest.map fun v => v.category).sum ≤ 8) (hd : decode cc pc = .ok (.invokevirtual index, 3)) (hR : kc ≤ R0.cells ∧ ks ≤ R0.slots)
    {ρ : Type} {B : Int32 → Mem → Option ρ} {r : ρ} (hf : bnd F B = some r) (kk : ∀ (v : Int32) (σ' : Mem), B v σ' = some r → G C nL kc ks (pc + 3) L (.int v :: rest) σ') : G C nL kc ks pc L st σ := by
  obtain ⟨v, σ1, h1, h2⟩ := bnd_some hf
  exact g_callV X (hM _ h1) cw ho hc hcn hAs hn hst hcat hd hR (fun v' σ' hp => by obtain ⟨rfl, rfl⟩ := hp; exact kk _ _ h2) (fun E σ' hp => hp.elim)
theorem c_VV (X : CX C cc nL own Ts R0 ret) {F : Option (Int32 × Mem)} (hM : KV (cL C) y ws rm As σ F) (cw : ∀ (s : State) (a : Array Value), (∀ w ∈ Ts, w.before a s = true) → CallW R0 s a own Cn index y bytes maxL rt ws rm 0 0 n) {q ci : Nat} {fs : (Nat → Nat) → (Nat → Int32) → List Value} {rr : vw_C} (ho : OBJ q ci fs) (hc : vwCl[ci]? = some rr) (hcn : rr.1 = Cn) (hAs : As (adr C) = .ref (adr C q) :: vs) (hn : vs.length = n) (hst : st = vs.reverse ++ .ref (adr C q) :: rest) (hcat : (rest.map fun v => v.category).sum ≤ 8) (hd : decode cc pc = .ok (.invokevirtual index, 3)) (hR : kc ≤ R0.cells ∧ ks ≤ R0.slots)
    {ρ : Type} {B : Int32 → Mem → Option ρ} {r : ρ} (hf : bnd F B = some r) (kk : ∀ (v : Int32) (σ' : Mem), B v σ' = some r → G C nL kc ks (pc + 3) L (rest) σ') : G C nL kc ks pc L st σ := by
  obtain ⟨v, σ1, h1, h2⟩ := bnd_some hf
  exact g_callV X (hM _ h1) cw ho hc hcn hAs hn hst hcat hd hR (fun v' σ' hp => by obtain ⟨rfl, rfl⟩ := hp; exact kk _ _ h2) (fun E σ' hp => hp.elim)
theorem c_VR (X : CX C cc nL own Ts R0 ret) {F : Option (Nat × Mem)} (hM : KR (cL C) y ws rm As σ F) (cw : ∀ (s : State) (a : Array Value), (∀ w ∈ Ts, w.before a s = true) → CallW R0 s a own Cn index y bytes maxL rt ws rm 0 0 n) {q ci : Nat} {fs : (Nat → Nat) → (Nat → Int32) → List Value} {rr : vw_C} (ho : OBJ q ci fs) (hc : vwCl[ci]? = some rr) (hcn : rr.1 = Cn) (hAs : As (adr C) = .ref (adr C q) :: vs) (hn : vs.length = n) (hst : st = vs.reverse ++ .ref (adr C q) :: rest) (hcat : (rest.map fun v => v.category).sum ≤ 8) (hd : decode cc pc = .ok (.invokevirtual index, 3)) (hR : kc ≤ R0.cells ∧ ks ≤ R0.slots)
    {ρ : Type} {B : Nat → Mem → Option ρ} {r : ρ} (hf : bnd F B = some r) (kk : ∀ (v : Nat) (σ' : Mem), B v σ' = some r → G C nL kc ks (pc + 3) L (.ref (adr C v) :: rest) σ') : G C nL kc ks pc L st σ := by
  obtain ⟨v, σ1, h1, h2⟩ := bnd_some hf
  exact g_callV X (hM _ h1) cw ho hc hcn hAs hn hst hcat hd hR (fun v' σ' hp => by obtain ⟨rfl, rfl⟩ := hp; exact kk _ _ h2) (fun E σ' hp => hp.elim)
theorem c_VJ (X : CX C cc nL own Ts R0 ret) {F : Option (Int64 × Mem)} (hM : KJ (cL C) y ws rm As σ F) (cw : ∀ (s : State) (a : Array Value), (∀ w ∈ Ts, w.before a s = true) → CallW R0 s a own Cn index y bytes maxL rt ws rm 0 0 n) {q ci : Nat} {fs : (Nat → Nat) → (Nat → Int32) → List Value} {rr : vw_C} (ho : OBJ q ci fs) (hc : vwCl[ci]? = some rr) (hcn : rr.1 = Cn) (hAs : As (adr C) = .ref (adr C q) :: vs) (hn : vs.length = n) (hst : st = vs.reverse ++ .ref (adr C q) :: rest) (hcat : (rest.map fun v => v.category).sum ≤ 8) (hd : decode cc pc = .ok (.invokevirtual index, 3)) (hR : kc ≤ R0.cells ∧ ks ≤ R0.slots)
    {ρ : Type} {B : Int64 → Mem → Option ρ} {r : ρ} (hf : bnd F B = some r) (kk : ∀ (v : Int64) (σ' : Mem), B v σ' = some r → G C nL kc ks (pc + 3) L (.long v :: rest) σ') : G C nL kc ks pc L st σ := by
  obtain ⟨v, σ1, h1, h2⟩ := bnd_some hf
  exact g_callV X (hM _ h1) cw ho hc hcn hAs hn hst hcat hd hR (fun v' σ' hp => by obtain ⟨rfl, rfl⟩ := hp; exact kk _ _ h2) (fun E σ' hp => hp.elim)
theorem c_SI (X : CX C cc nL own Ts R0 ret) {F : Option (Int32 × Mem)} (hM : KI (cL C) y ws rm As σ F) (cw : ∀ (s : State) (a : Array Value), (∀ w ∈ Ts, w.before a s = true) → CallB R0 s a own index y bytes maxL rt ws rm 0 0 n ∧ (Cond.static y).before a s = true) (hAs : As (adr C) = vs) (hn : vs.length = n) (hst : st = vs.reverse ++ rest) (hcat : (rest.map fun v => v.category).sum ≤ 8) (hd : decode cc pc = .ok (.invokestatic index, 3)) (hR : kc ≤ R0.cells ∧ ks ≤ R0.slots)
    {ρ : Type} {B : Int32 → Mem → Option ρ} {r : ρ} (hf : bnd F B = some r) (kk : ∀ (v : Int32) (σ' : Mem), B v σ' = some r → G C nL kc ks (pc + 3) L (.int v :: rest) σ') : G C nL kc ks pc L st σ := by
  obtain ⟨v, σ1, h1, h2⟩ := bnd_some hf
  exact g_callS X (hM _ h1) cw hAs hn hst hcat hd hR (fun v' σ' hp => by obtain ⟨rfl, rfl⟩ := hp; exact kk _ _ h2) (fun E σ' hp => hp.elim)
theorem c_SV (X : CX C cc nL own Ts R0 ret) {F : Option (Int32 × Mem)} (hM : KV (cL C) y ws rm As σ F) (cw : ∀ (s : State) (a : Array Value), (∀ w ∈ Ts, w.before a s = true) → CallB R0 s a own index y bytes maxL rt ws rm 0 0 n ∧ (Cond.static y).before a s = true) (hAs : As (adr C) = vs) (hn : vs.length = n) (hst : st = vs.reverse ++ rest) (hcat : (rest.map fun v => v.category).sum ≤ 8) (hd : decode cc pc = .ok (.invokestatic index, 3)) (hR : kc ≤ R0.cells ∧ ks ≤ R0.slots)
    {ρ : Type} {B : Int32 → Mem → Option ρ} {r : ρ} (hf : bnd F B = some r) (kk : ∀ (v : Int32) (σ' : Mem), B v σ' = some r → G C nL kc ks (pc + 3) L (rest) σ') : G C nL kc ks pc L st σ := by
  obtain ⟨v, σ1, h1, h2⟩ := bnd_some hf
  exact g_callS X (hM _ h1) cw hAs hn hst hcat hd hR (fun v' σ' hp => by obtain ⟨rfl, rfl⟩ := hp; exact kk _ _ h2) (fun E σ' hp => hp.elim)
theorem c_NI (X : CX C cc nL own Ts R0 ret) {F : Option (Int32 × Mem)} (hM : KI (cL C) y ws rm As σ F) (ho : own = RX0) (hy0 : y = yX2_wayOf) (hix : index = 84) (cw : ∀ (s : State) (a : Array Value), (∀ w ∈ Ts, w.before a s = true) → va_Nw (.methodLinkNest RX0 84 yX2_wayOf RX2) s → va_CN R0 s a RX0 84 yX2_wayOf RX2 bytes maxL rt ws rm 0 0 n ∧ (Cond.static yX2_wayOf).before a s = true) (hAs : As (adr C) = vs) (hn : vs.length = n) (hst : st = vs.reverse ++ rest) (hcat : (rest.map fun v => v.category).sum ≤ 8) (hd : decode cc pc = .ok (.invokestatic index, 3)) (hR : kc ≤ R0.cells ∧ ks ≤ R0.slots)
    {ρ : Type} {B : Int32 → Mem → Option ρ} {r : ρ} (hf : bnd F B = some r) (kk : ∀ (v : Int32) (σ' : Mem), B v σ' = some r → G C nL kc ks (pc + 3) L (.int v :: rest) σ') : G C nL kc ks pc L st σ := by
  obtain ⟨v, σ1, h1, h2⟩ := bnd_some hf
  exact g_callN X (hM _ h1) ho hy0 hix cw hAs hn hst hcat hd hR (fun v' σ' hp => by obtain ⟨rfl, rfl⟩ := hp; exact kk _ _ h2) (fun E σ' hp => hp.elim)
theorem c_VXI (X : CX C cc nL own Ts R0 ret) (hne : NH C) {F : Option (Sum Int32 Nat × Mem)} (hM : KXI (cL C) y ws rm As σ F) (cw : ∀ (s : State) (a : Array Value), (∀ w ∈ Ts, w.before a s = true) → CallW R0 s a own Cn index y bytes maxL rt ws rm 1 6 n) {q ci : Nat} {fs : (Nat → Nat) → (Nat → Int32) → List Value} {rr : vw_C} (ho : OBJ q ci fs) (hc : vwCl[ci]? = some rr) (hcn : rr.1 = Cn) (hAs : As (adr C) = .ref (adr C q) :: vs) (hn : vs.length = n) (hst : st = vs.reverse ++ .ref (adr C q) :: rest) (hcat : (rest.map fun v => v.category).sum ≤ 8) (hd : decode cc pc = .ok (.invokevirtual index, 3)) (hR : kc + 1 ≤ R0.cells ∧ ks + 6 ≤ R0.slots) (hm : kc = 0 ∧ ks = 0)
    {β : Type} {B : Int32 → Mem → Option (Sum β Nat × Mem)} {r : Sum β Nat × Mem} {post : (Nat → Nat) → Option Value → Mem → Prop} (hq : CQ C 1 6 post (PX r)) (hf : bndX F B = some r) (kk : ∀ (v : Int32) (σ' : Mem), B v σ' = some r → G C nL kc ks (pc + 3) L (.int v :: rest) σ') : G C nL kc ks pc L st σ := by
  obtain ⟨rfl, rfl⟩ := hm
  rcases bndX_some hf with ⟨v, σ1, h1, h2⟩ | ⟨m, σ1, h1, h2⟩
  · exact g_callV X (hM _ h1) cw ho hc hcn hAs hn hst hcat hd hR (fun v' σ' hp => by obtain ⟨x, e1, rfl⟩ := hp; cases e1; exact kk _ _ h2) (fun E σ' hp => by obtain ⟨m, e1, e2⟩ := hp; cases e1)
  · exact g_callV X (hM _ h1) cw ho hc hcn hAs hn hst hcat hd hR (fun v' σ' hp => by obtain ⟨x, e1, e2⟩ := hp; cases e1) (fun E σ' hp => by obtain ⟨m', e1, e2⟩ := hp; cases e1; exact e_out X hne hq ⟨m, h2, e2⟩ (Nat.le_refl _) (Nat.le_refl _))
theorem c_VXV (X : CX C cc nL own Ts R0 ret) (hne : NH C) {F : Option (Sum Int32 Nat × Mem)} (hM : KXV (cL C) y ws rm As σ F) (cw : ∀ (s : State) (a : Array Value), (∀ w ∈ Ts, w.before a s = true) → CallW R0 s a own Cn index y bytes maxL rt ws rm 1 6 n) {q ci : Nat} {fs : (Nat → Nat) → (Nat → Int32) → List Value} {rr : vw_C} (ho : OBJ q ci fs) (hc : vwCl[ci]? = some rr) (hcn : rr.1 = Cn) (hAs : As (adr C) = .ref (adr C q) :: vs) (hn : vs.length = n) (hst : st = vs.reverse ++ .ref (adr C q) :: rest) (hcat : (rest.map fun v => v.category).sum ≤ 8) (hd : decode cc pc = .ok (.invokevirtual index, 3)) (hR : kc + 1 ≤ R0.cells ∧ ks + 6 ≤ R0.slots) (hm : kc = 0 ∧ ks = 0)
    {β : Type} {B : Int32 → Mem → Option (Sum β Nat × Mem)} {r : Sum β Nat × Mem} {post : (Nat → Nat) → Option Value → Mem → Prop} (hq : CQ C 1 6 post (PX r)) (hf : bndX F B = some r) (kk : ∀ (v : Int32) (σ' : Mem), B v σ' = some r → G C nL kc ks (pc + 3) L (rest) σ') : G C nL kc ks pc L st σ := by
  obtain ⟨rfl, rfl⟩ := hm
  rcases bndX_some hf with ⟨v, σ1, h1, h2⟩ | ⟨m, σ1, h1, h2⟩
  · exact g_callV X (hM _ h1) cw ho hc hcn hAs hn hst hcat hd hR (fun v' σ' hp => by obtain ⟨x, e1, rfl⟩ := hp; cases e1; exact kk _ _ h2) (fun E σ' hp => by obtain ⟨m, e1, e2⟩ := hp; cases e1)
  · exact g_callV X (hM _ h1) cw ho hc hcn hAs hn hst hcat hd hR (fun v' σ' hp => by obtain ⟨x, e1, e2⟩ := hp; cases e1) (fun E σ' hp => by obtain ⟨m', e1, e2⟩ := hp; cases e1; exact e_out X hne hq ⟨m, h2, e2⟩ (Nat.le_refl _) (Nat.le_refl _))
theorem c_SXV (X : CX C cc nL own Ts R0 ret) (hne : NH C) {F : Option (Sum Int32 Nat × Mem)} (hM : KXV (cL C) y ws rm As σ F) (cw : ∀ (s : State) (a : Array Value), (∀ w ∈ Ts, w.before a s = true) → CallB R0 s a own index y bytes maxL rt ws rm 1 6 n ∧ (Cond.static y).before a s = true) (hAs : As (adr C) = vs) (hn : vs.length = n) (hst : st = vs.reverse ++ rest) (hcat : (rest.map fun v => v.category).sum ≤ 8) (hd : decode cc pc = .ok (.invokestatic index, 3)) (hR : kc + 1 ≤ R0.cells ∧ ks + 6 ≤ R0.slots) (hm : kc = 0 ∧ ks = 0)
    {β : Type} {B : Int32 → Mem → Option (Sum β Nat × Mem)} {r : Sum β Nat × Mem} {post : (Nat → Nat) → Option Value → Mem → Prop} (hq : CQ C 1 6 post (PX r)) (hf : bndX F B = some r) (kk : ∀ (v : Int32) (σ' : Mem), B v σ' = some r → G C nL kc ks (pc + 3) L (rest) σ') : G C nL kc ks pc L st σ := by
  obtain ⟨rfl, rfl⟩ := hm
  rcases bndX_some hf with ⟨v, σ1, h1, h2⟩ | ⟨m, σ1, h1, h2⟩
  · exact g_callS X (hM _ h1) cw hAs hn hst hcat hd hR (fun v' σ' hp => by obtain ⟨x, e1, rfl⟩ := hp; cases e1; exact kk _ _ h2) (fun E σ' hp => by obtain ⟨m, e1, e2⟩ := hp; cases e1)
  · exact g_callS X (hM _ h1) cw hAs hn hst hcat hd hR (fun v' σ' hp => by obtain ⟨x, e1, e2⟩ := hp; cases e1) (fun E σ' hp => by obtain ⟨m', e1, e2⟩ := hp; cases e1; exact e_out X hne hq ⟨m, h2, e2⟩ (Nat.le_refl _) (Nat.le_refl _))
end TCALLS
