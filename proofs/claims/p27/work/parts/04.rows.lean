/-! Rows over the memory: an instruction, a row. -/
section SN
variable {p : Program} {l : Launch} {e : Env} {R : Room} {s : State} {m : MethodId} {args : Array Value} {below : List Frame} {meth : Method} {c : Code} {T : State} {locs : List Loc} {cells slots : Nat}
theorem wx_callSN (X : Stand p l e R s m args below meth c T locs cells slots) (hexec : p.tables.exec = Jvm.exec) {own : String} {index : Nat} {host : String} {y : MethodName} {bytes : ByteArray} {maxL : Nat} {ret : Option FieldType}
    (hown : s.vm.findClass own = some m.cls) (hlink : (Cond.methodLinkNest own index y host).before args s = true) (hstat : (Cond.static y).before args s = true) (hinit : (Cond.initialized y.cls).before args s = true)
    (hcode : (Cond.code y bytes maxL ret).before args s = true) (hy : y.cls ≠ "java/lang/invoke/MethodHandle" ∧ y.cls ≠ "java/lang/invoke/VarHandle")
    {W : Nat} {Pre : Pt → Array Value → Prop} {Post : Pt → Array Value → Option Value → Pt → Prop} {PostX : Pt → Array Value → Addr → Pt → Prop} (hK : vx_Back l R p e below s args y 3 W Pre Post PostX)
    {g : JFrame} (hg : g.method = m) (hsize : g.locals.size = c.maxLocals) {argsL rest : List Value} (hlen : ∀ sig, parseMethodDescriptor y.desc = some sig → argsL.length = sig.parameters.length)
    (hstack : g.stack = argsL.reverse ++ rest) (hW : 2 * g.monitorRoom + (rest.map fun v => v.category).sum ≤ W) (hdg : decode c.code g.pc = .ok (.invokestatic index, 3))
    (hpre : ∀ vm₁, s.WarmedH vm₁ → Pre ⟨T.setVm vm₁, locs, cells, slots⟩ argsL.toArray) :
    (∃ (v : Option Value) (vm₁ : Vm) (B : Pt), s.WarmedH vm₁ ∧ Stand p l e R s m args below meth c B.U B.locs B.cells B.slots ∧ Post ⟨T.setVm vm₁, locs, cells, slots⟩ argsL.toArray v B ∧
      ∀ target, Steps p.tables e below (B.U.setTop { g with pc := g.pc + 3, stack := v.toList ++ rest }) target → Steps p.tables e below (T.setTop g) target) ∨
    (∃ (q : Addr) (vm₁ : Vm) (B : Pt), s.WarmedH vm₁ ∧ Stand p l e R s m args below meth c B.U B.locs B.cells B.slots ∧ PostX ⟨T.setVm vm₁, locs, cells, slots⟩ argsL.toArray q B ∧
      Steps p.tables e below (T.setTop g) ((B.U.setTop { g with stack := rest }).pushFrame (.throwing q))) := by
  obtain ⟨mk, hnamed⟩ := Cond.code_named hcode
  obtain ⟨methM, cM, hmethM, -, -, -, -, -, -, hsigM⟩ := Cond.code_spec hnamed hcode
  have hstatic : methM.isStatic = true := Cond.static_spec hnamed hmethM hstat
  obtain ⟨kP, hkP, -⟩ := className_of_methodNamed hnamed
  have hinitP : kP.init = .initialized := Cond.initialized_spec (findClass_of_methodNamed hnamed) hkP hinit
  obtain ⟨vm₁, X₁, hstep₁⟩ := X.invokestaticNest hexec hown hlink hnamed hmethM hstatic hkP hinitP hy (g := g) hg (argsL := argsL) (rest := rest) (hlen _ hsigM) hstack hdg
  rcases hK m meth c ⟨T.setVm vm₁, locs, cells, slots⟩ { g with stack := rest } (.invokestatic index) mk argsL.toArray X₁ hg hsize hdg hW (X₁.named hnamed) (hpre vm₁ X₁.warmed) with ⟨v, B, X', hpost, hsteps⟩ | ⟨q, B, X', hpost, hsteps⟩
  · exact Or.inl ⟨v, vm₁, B, X₁.warmed, X', hpost, fun target h => hstep₁ _ fun acts => by rw [doInvoke_state]; exact hsteps.trans h⟩
  · exact Or.inr ⟨q, vm₁, B, X₁.warmed, X', hpost, hstep₁ _ fun acts => by rw [doInvoke_state]; exact hsteps⟩
end SN
section ROWS
variable {C : Ctx} {cc : ByteArray} {nL : Nat} {own : String} {Ts : List Cond} {R0 : Room} {ret : Option FieldType}
variable {kc ks pc : Nat} {L : List (Nat × Value)} {st : List Value} {σ : Mem}
theorem g_iconst (X : CX C cc nL own Ts R0 ret) {n : Int} {v : Int32} (hd : decode cc pc = .ok (.iconst n, 1)) (hv : Int32.ofInt n = v) (kk : G C nL kc ks (pc + 1) L (.int v :: st) σ) : G C nL kc ks pc L (st) σ := by
  obtain ⟨hx, hb, -⟩ := X
  exact fun H locs ls hP hS h => lv_iconst hx hb hd hv (kk H locs ls hP hS h)
theorem g_bipush (X : CX C cc nL own Ts R0 ret) {n : Int} {v : Int32} (hd : decode cc pc = .ok (.bipush n, 2)) (hv : (Int8.ofInt n).toInt32 = v) (kk : G C nL kc ks (pc + 2) L (.int v :: st) σ) : G C nL kc ks pc L (st) σ := by
  obtain ⟨hx, hb, -⟩ := X
  exact fun H locs ls hP hS h => lv_bipush hx hb hd hv (kk H locs ls hP hS h)
theorem g_sipush (X : CX C cc nL own Ts R0 ret) {n : Int} {v : Int32} (hd : decode cc pc = .ok (.sipush n, 3)) (hv : (Int16.ofInt n).toInt32 = v) (kk : G C nL kc ks (pc + 3) L (.int v :: st) σ) : G C nL kc ks pc L (st) σ := by
  obtain ⟨hx, hb, -⟩ := X
  exact fun H locs ls hP hS h => lv_sipush hx hb hd hv (kk H locs ls hP hS h)
theorem g_lconst (X : CX C cc nL own Ts R0 ret) {n : Fin 2} {v : Int64} (hd : decode cc pc = .ok (.lconst n, 1)) (hv : Int64.ofNat (n : Nat) = v) (kk : G C nL kc ks (pc + 1) L (.long v :: st) σ) : G C nL kc ks pc L (st) σ := by
  obtain ⟨hx, hb, -⟩ := X
  exact fun H locs ls hP hS h => lv_lconst hx hb hd hv (kk H locs ls hP hS h)
theorem g_iload_n (X : CX C cc nL own Ts R0 ret) {k : Fin 4} {i : Nat} {x : Int32} (hd : decode cc pc = .ok (.iload_n k, 1)) (j : Nat) (hl : L[j]? = some (i, .int x)) (hi : (k : Nat) = i) (kk : G C nL kc ks (pc + 1) L (.int x :: st) σ) : G C nL kc ks pc L st σ := by
  obtain ⟨hx, hb, -⟩ := X
  exact fun H locs ls hP hS h => lv_iload_n hx hb hd hi (lv_at h j hl) (kk H locs ls hP hS h)
theorem g_iload (X : CX C cc nL own Ts R0 ret) {i : Nat} {x : Int32} (hd : decode cc pc = .ok (.iload i, 2)) (j : Nat) (hl : L[j]? = some (i, .int x)) (kk : G C nL kc ks (pc + 2) L (.int x :: st) σ) : G C nL kc ks pc L st σ := by
  obtain ⟨hx, hb, -⟩ := X
  exact fun H locs ls hP hS h => lv_iload hx hb hd (lv_at h j hl) (kk H locs ls hP hS h)
theorem g_lload_n (X : CX C cc nL own Ts R0 ret) {k : Fin 4} {i : Nat} {x : Int64} (hd : decode cc pc = .ok (.lload_n k, 1)) (j : Nat) (hl : L[j]? = some (i, .long x)) (hi : (k : Nat) = i) (kk : G C nL kc ks (pc + 1) L (.long x :: st) σ) : G C nL kc ks pc L st σ := by
  obtain ⟨hx, hb, -⟩ := X
  exact fun H locs ls hP hS h => lv_lload_n hx hb hd hi (lv_at h j hl) (kk H locs ls hP hS h)
theorem g_lload (X : CX C cc nL own Ts R0 ret) {i : Nat} {x : Int64} (hd : decode cc pc = .ok (.lload i, 2)) (j : Nat) (hl : L[j]? = some (i, .long x)) (kk : G C nL kc ks (pc + 2) L (.long x :: st) σ) : G C nL kc ks pc L st σ := by
  obtain ⟨hx, hb, -⟩ := X
  exact fun H locs ls hP hS h => lv_lload hx hb hd (lv_at h j hl) (kk H locs ls hP hS h)
theorem g_aload_n (X : CX C cc nL own Ts R0 ret) {k : Fin 4} {i : Nat} {x : Nat} (hd : decode cc pc = .ok (.aload_n k, 1)) (j : Nat) (hl : L[j]? = some (i, .ref x)) (hi : (k : Nat) = i) (kk : G C nL kc ks (pc + 1) L (.ref x :: st) σ) : G C nL kc ks pc L st σ := by
  obtain ⟨hx, hb, -⟩ := X
  exact fun H locs ls hP hS h => lv_aload_n hx hb hd hi (lv_at h j hl) (kk H locs ls hP hS h)
theorem g_aload (X : CX C cc nL own Ts R0 ret) {i : Nat} {x : Nat} (hd : decode cc pc = .ok (.aload i, 2)) (j : Nat) (hl : L[j]? = some (i, .ref x)) (kk : G C nL kc ks (pc + 2) L (.ref x :: st) σ) : G C nL kc ks pc L st σ := by
  obtain ⟨hx, hb, -⟩ := X
  exact fun H locs ls hP hS h => lv_aload hx hb hd (lv_at h j hl) (kk H locs ls hP hS h)
theorem g_istore_n (X : CX C cc nL own Ts R0 ret) {k : Fin 4} {i : Nat} {x : Int32} {L' : List (Nat × Value)} (hd : decode cc pc = .ok (.istore_n k, 1)) (hi : (k : Nat) = i) (hn : i < nL) (hl : (i, Value.int x) :: L.filter (fun q => !(q.1 == i) && !(q.1 + 1 == i && q.2.category == 2)) = L') (kk : G C nL kc ks (pc + 1) L' st σ) : G C nL kc ks pc L (.int x :: st) σ := by
  obtain ⟨hx, hb, -⟩ := X
  exact fun H locs ls hP hS h => lv_istore_n hx hb hd hi h hn hl (fun ls' h' => kk H locs ls' hP hS h')
theorem g_istore (X : CX C cc nL own Ts R0 ret) {i : Nat} {x : Int32} {L' : List (Nat × Value)} (hd : decode cc pc = .ok (.istore i, 2)) (hn : i < nL) (hl : (i, Value.int x) :: L.filter (fun q => !(q.1 == i) && !(q.1 + 1 == i && q.2.category == 2)) = L') (kk : G C nL kc ks (pc + 2) L' st σ) : G C nL kc ks pc L (.int x :: st) σ := by
  obtain ⟨hx, hb, -⟩ := X
  exact fun H locs ls hP hS h => lv_istore hx hb hd h hn hl (fun ls' h' => kk H locs ls' hP hS h')
theorem g_lstore_n (X : CX C cc nL own Ts R0 ret) {k : Fin 4} {i : Nat} {x : Int64} {L' : List (Nat × Value)} (hd : decode cc pc = .ok (.lstore_n k, 1)) (hi : (k : Nat) = i) (hn : i + 1 < nL) (hl : (i, Value.long x) :: L.filter (fun q => !(q.1 == i) && (!(q.1 == i + 1) && !(q.1 + 1 == i && q.2.category == 2))) = L') (kk : G C nL kc ks (pc + 1) L' st σ) : G C nL kc ks pc L (.long x :: st) σ := by
  obtain ⟨hx, hb, -⟩ := X
  exact fun H locs ls hP hS h => lv_lstore_n hx hb hd hi h hn hl (fun ls' h' => kk H locs ls' hP hS h')
theorem g_lstore (X : CX C cc nL own Ts R0 ret) {i : Nat} {x : Int64} {L' : List (Nat × Value)} (hd : decode cc pc = .ok (.lstore i, 2)) (hn : i + 1 < nL) (hl : (i, Value.long x) :: L.filter (fun q => !(q.1 == i) && (!(q.1 == i + 1) && !(q.1 + 1 == i && q.2.category == 2))) = L') (kk : G C nL kc ks (pc + 2) L' st σ) : G C nL kc ks pc L (.long x :: st) σ := by
  obtain ⟨hx, hb, -⟩ := X
  exact fun H locs ls hP hS h => lv_lstore hx hb hd h hn hl (fun ls' h' => kk H locs ls' hP hS h')
theorem g_astore_n (X : CX C cc nL own Ts R0 ret) {k : Fin 4} {i : Nat} {x : Nat} {L' : List (Nat × Value)} (hd : decode cc pc = .ok (.astore_n k, 1)) (hi : (k : Nat) = i) (hn : i < nL) (hl : (i, Value.ref x) :: L.filter (fun q => !(q.1 == i) && !(q.1 + 1 == i && q.2.category == 2)) = L') (kk : G C nL kc ks (pc + 1) L' st σ) : G C nL kc ks pc L (.ref x :: st) σ := by
  obtain ⟨hx, hb, -⟩ := X
  exact fun H locs ls hP hS h => lv_astore_n hx hb hd hi h hn hl (fun ls' h' => kk H locs ls' hP hS h')
theorem g_astore (X : CX C cc nL own Ts R0 ret) {i : Nat} {x : Nat} {L' : List (Nat × Value)} (hd : decode cc pc = .ok (.astore i, 2)) (hn : i < nL) (hl : (i, Value.ref x) :: L.filter (fun q => !(q.1 == i) && !(q.1 + 1 == i && q.2.category == 2)) = L') (kk : G C nL kc ks (pc + 2) L' st σ) : G C nL kc ks pc L (.ref x :: st) σ := by
  obtain ⟨hx, hb, -⟩ := X
  exact fun H locs ls hP hS h => lv_astore hx hb hd h hn hl (fun ls' h' => kk H locs ls' hP hS h')
theorem g_iinc (X : CX C cc nL own Ts R0 ret) {i : Nat} {n : Int} {x v : Int32} {L' : List (Nat × Value)} (hd : decode cc pc = .ok (.iinc i n, 3)) (j : Nat) (hj : L[j]? = some (i, .int x)) (hv : x + Int32.ofInt n = v) (hn : i < nL) (hl : (i, Value.int v) :: L.filter (fun q => !(q.1 == i) && !(q.1 + 1 == i && q.2.category == 2)) = L') (kk : G C nL kc ks (pc + 3) L' st σ) : G C nL kc ks pc L st σ := by
  obtain ⟨hx, hb, -⟩ := X
  exact fun H locs ls hP hS h => lv_iinc hx hb hd h hj hv hn hl (fun ls' h' => kk H locs ls' hP hS h')
theorem g_sub (ks' : List Nat) {L' : List (Nat × Value)} (hl : lv_pick L ks' = L') (kk : G C nL kc ks pc L' st σ) : G C nL kc ks pc L st σ := fun H locs ls hP hS h => kk H locs ls hP hS (lv_sub h ks' hl)
theorem g_iadd (X : CX C cc nL own Ts R0 ret) {x y : Int32} (hd : decode cc pc = .ok (.iadd, 1)) (kk : G C nL kc ks (pc + 1) L (.int (x + y) :: st) σ) : G C nL kc ks pc L (.int y :: .int x :: st) σ := by
  obtain ⟨hx, hb, -⟩ := X
  exact fun H locs ls hP hS h => lv_iadd hx hb hd  (kk H locs ls hP hS h)
theorem g_isub (X : CX C cc nL own Ts R0 ret) {x y : Int32} (hd : decode cc pc = .ok (.isub, 1)) (kk : G C nL kc ks (pc + 1) L (.int (x - y) :: st) σ) : G C nL kc ks pc L (.int y :: .int x :: st) σ := by
  obtain ⟨hx, hb, -⟩ := X
  exact fun H locs ls hP hS h => lv_isub hx hb hd  (kk H locs ls hP hS h)
theorem g_imul (X : CX C cc nL own Ts R0 ret) {x y : Int32} (hd : decode cc pc = .ok (.imul, 1)) (kk : G C nL kc ks (pc + 1) L (.int (x * y) :: st) σ) : G C nL kc ks pc L (.int y :: .int x :: st) σ := by
  obtain ⟨hx, hb, -⟩ := X
  exact fun H locs ls hP hS h => lv_imul hx hb hd  (kk H locs ls hP hS h)
theorem g_iand (X : CX C cc nL own Ts R0 ret) {x y : Int32} (hd : decode cc pc = .ok (.iand, 1)) (kk : G C nL kc ks (pc + 1) L (.int (x &&& y) :: st) σ) : G C nL kc ks pc L (.int y :: .int x :: st) σ := by
  obtain ⟨hx, hb, -⟩ := X
  exact fun H locs ls hP hS h => lv_iand hx hb hd  (kk H locs ls hP hS h)
theorem g_idiv (X : CX C cc nL own Ts R0 ret) {x y : Int32} (hd : decode cc pc = .ok (.idiv, 1)) {ρ : Type} {F : Option ρ} {r : ρ} (hf : grd (decide (y ≠ 0)) F = some r) (kk : F = some r → G C nL kc ks (pc + 1) L (.int (x / y) :: st) σ) : G C nL kc ks pc L (.int y :: .int x :: st) σ := by
  obtain ⟨hx, hb, -⟩ := X
  obtain ⟨h0, hF⟩ := grd_some hf
  exact fun H locs ls hP hS h => lv_idiv hx hb hd (of_decide_eq_true h0) (kk hF H locs ls hP hS h)
theorem g_irem (X : CX C cc nL own Ts R0 ret) {x y : Int32} (hd : decode cc pc = .ok (.irem, 1)) {ρ : Type} {F : Option ρ} {r : ρ} (hf : grd (decide (y ≠ 0)) F = some r) (kk : F = some r → G C nL kc ks (pc + 1) L (.int (x - x / y * y) :: st) σ) : G C nL kc ks pc L (.int y :: .int x :: st) σ := by
  obtain ⟨hx, hb, -⟩ := X
  obtain ⟨h0, hF⟩ := grd_some hf
  exact fun H locs ls hP hS h => lv_irem hx hb hd (of_decide_eq_true h0) (kk hF H locs ls hP hS h)
theorem g_ineg (X : CX C cc nL own Ts R0 ret) {x : Int32} (hd : decode cc pc = .ok (.ineg, 1)) (kk : G C nL kc ks (pc + 1) L (.int (-x) :: st) σ) : G C nL kc ks pc L (.int x :: st) σ := by
  obtain ⟨hx, hb, -⟩ := X
  exact fun H locs ls hP hS h => lv_ineg hx hb hd  (kk H locs ls hP hS h)
theorem g_ladd (X : CX C cc nL own Ts R0 ret) {x y : Int64} (hd : decode cc pc = .ok (.ladd, 1)) (kk : G C nL kc ks (pc + 1) L (.long (x + y) :: st) σ) : G C nL kc ks pc L (.long y :: .long x :: st) σ := by
  obtain ⟨hx, hb, -⟩ := X
  exact fun H locs ls hP hS h => lv_ladd hx hb hd  (kk H locs ls hP hS h)
theorem g_lsub (X : CX C cc nL own Ts R0 ret) {x y : Int64} (hd : decode cc pc = .ok (.lsub, 1)) (kk : G C nL kc ks (pc + 1) L (.long (x - y) :: st) σ) : G C nL kc ks pc L (.long y :: .long x :: st) σ := by
  obtain ⟨hx, hb, -⟩ := X
  exact fun H locs ls hP hS h => lv_lsub hx hb hd  (kk H locs ls hP hS h)
theorem g_lmul (X : CX C cc nL own Ts R0 ret) {x y : Int64} (hd : decode cc pc = .ok (.lmul, 1)) (kk : G C nL kc ks (pc + 1) L (.long (x * y) :: st) σ) : G C nL kc ks pc L (.long y :: .long x :: st) σ := by
  obtain ⟨hx, hb, -⟩ := X
  exact fun H locs ls hP hS h => lv_lmul hx hb hd  (kk H locs ls hP hS h)
theorem g_lshl (X : CX C cc nL own Ts R0 ret) {x : Int64} {y : Int32} (hd : decode cc pc = .ok (.lshl, 1)) (kk : G C nL kc ks (pc + 1) L (.long (x <<< (y.toInt64 &&& 63)) :: st) σ) : G C nL kc ks pc L (.int y :: .long x :: st) σ := by
  obtain ⟨hx, hb, -⟩ := X
  exact fun H locs ls hP hS h => lv_lshl hx hb hd rfl (kk H locs ls hP hS h)
theorem g_i2l (X : CX C cc nL own Ts R0 ret) {x : Int32} (hd : decode cc pc = .ok (.i2l, 1)) (kk : G C nL kc ks (pc + 1) L (.long x.toInt64 :: st) σ) : G C nL kc ks pc L (.int x :: st) σ := by
  obtain ⟨hx, hb, -⟩ := X
  exact fun H locs ls hP hS h => lv_i2l hx hb hd rfl (kk H locs ls hP hS h)
theorem g_lcmp (X : CX C cc nL own Ts R0 ret) {x y : Int64} (hd : decode cc pc = .ok (.lcmp, 1)) (kk : G C nL kc ks (pc + 1) L (.int (lg_cmp x y) :: st) σ) : G C nL kc ks pc L (.long y :: .long x :: st) σ := by
  obtain ⟨hx, hb, -⟩ := X
  exact fun H locs ls hP hS h => W.lcmp hx hb hd  (kk H locs ls hP hS h)
theorem g_dup (X : CX C cc nL own Ts R0 ret) {va : Value} (hd : decode cc pc = .ok (.dup, 1)) (hva : va.category = 1) (kk : G C nL kc ks (pc + 1) L (va :: va :: st) σ) : G C nL kc ks pc L (va :: st) σ := by
  obtain ⟨hx, hb, -⟩ := X
  exact fun H locs ls hP hS h => lv_dup hx hb hd hva (kk H locs ls hP hS h)
theorem g_pop (X : CX C cc nL own Ts R0 ret) {va : Value} (hd : decode cc pc = .ok (.pop, 1)) (hva : va.category = 1) (kk : G C nL kc ks (pc + 1) L (st) σ) : G C nL kc ks pc L (va :: st) σ := by
  obtain ⟨hx, hb, -⟩ := X
  exact fun H locs ls hP hS h => lv_pop hx hb hd hva (kk H locs ls hP hS h)
theorem g_dup2 (X : CX C cc nL own Ts R0 ret) {va vb : Value} (hd : decode cc pc = .ok (.dup2, 1)) (hva : va.category = 1) (hvb : vb.category = 1) (kk : G C nL kc ks (pc + 1) L (va :: vb :: va :: vb :: st) σ) : G C nL kc ks pc L (va :: vb :: st) σ := by
  obtain ⟨hx, hb, -⟩ := X
  exact fun H locs ls hP hS h => lv_dup2_11 hx hb hd hva hvb (kk H locs ls hP hS h)
theorem g_if_eq (X : CX C cc nL own Ts R0 ret) {x : Int32} {off : Int} {tgt : Nat} (hd : decode cc pc = .ok (.ifCond .eq off, 3)) (ht : (pc : Int) + off = (tgt : Int)) {ρ : Type} {A B : Option ρ} {r : ρ} (hf : (if x = 0 then A else B) = some r) (kt : A = some r → G C nL kc ks tgt L st σ) (kf : B = some r → G C nL kc ks (pc + 3) L st σ) : G C nL kc ks pc L (.int x :: st) σ := by
  obtain ⟨hx, hb, -⟩ := X
  exact fun H locs ls hP hS h => lv_if_eq hx hb hd ht (fun hc => kt (by rw [if_pos hc] at hf; exact hf) H locs ls hP hS h) (fun hc => kf (by rw [if_neg hc] at hf; exact hf) H locs ls hP hS h)
theorem g_if_ne (X : CX C cc nL own Ts R0 ret) {x : Int32} {off : Int} {tgt : Nat} (hd : decode cc pc = .ok (.ifCond .ne off, 3)) (ht : (pc : Int) + off = (tgt : Int)) {ρ : Type} {A B : Option ρ} {r : ρ} (hf : (if x = 0 then B else A) = some r) (kt : A = some r → G C nL kc ks tgt L st σ) (kf : B = some r → G C nL kc ks (pc + 3) L st σ) : G C nL kc ks pc L (.int x :: st) σ := by
  obtain ⟨hx, hb, -⟩ := X
  exact fun H locs ls hP hS h => lv_if_ne hx hb hd ht (fun hc => kt (by rw [if_neg hc] at hf; exact hf) H locs ls hP hS h) (fun hc => kf (by rw [if_pos hc] at hf; exact hf) H locs ls hP hS h)
theorem g_if_lt (X : CX C cc nL own Ts R0 ret) {x : Int32} {off : Int} {tgt : Nat} (hd : decode cc pc = .ok (.ifCond .lt off, 3)) (ht : (pc : Int) + off = (tgt : Int)) {ρ : Type} {A B : Option ρ} {r : ρ} (hf : (if x < 0 then A else B) = some r) (kt : A = some r → G C nL kc ks tgt L st σ) (kf : B = some r → G C nL kc ks (pc + 3) L st σ) : G C nL kc ks pc L (.int x :: st) σ := by
  obtain ⟨hx, hb, -⟩ := X
  exact fun H locs ls hP hS h => lv_if_lt hx hb hd ht (fun hc => kt (by rw [if_pos hc] at hf; exact hf) H locs ls hP hS h) (fun hc => kf (by rw [if_neg hc] at hf; exact hf) H locs ls hP hS h)
theorem g_if_ge (X : CX C cc nL own Ts R0 ret) {x : Int32} {off : Int} {tgt : Nat} (hd : decode cc pc = .ok (.ifCond .ge off, 3)) (ht : (pc : Int) + off = (tgt : Int)) {ρ : Type} {A B : Option ρ} {r : ρ} (hf : (if 0 ≤ x then A else B) = some r) (kt : A = some r → G C nL kc ks tgt L st σ) (kf : B = some r → G C nL kc ks (pc + 3) L st σ) : G C nL kc ks pc L (.int x :: st) σ := by
  obtain ⟨hx, hb, -⟩ := X
  exact fun H locs ls hP hS h => lv_if_ge hx hb hd ht (fun hc => kt (by rw [if_pos hc] at hf; exact hf) H locs ls hP hS h) (fun hc => kf (by rw [if_neg hc] at hf; exact hf) H locs ls hP hS h)
theorem g_if_gt (X : CX C cc nL own Ts R0 ret) {x : Int32} {off : Int} {tgt : Nat} (hd : decode cc pc = .ok (.ifCond .gt off, 3)) (ht : (pc : Int) + off = (tgt : Int)) {ρ : Type} {A B : Option ρ} {r : ρ} (hf : (if 0 < x then A else B) = some r) (kt : A = some r → G C nL kc ks tgt L st σ) (kf : B = some r → G C nL kc ks (pc + 3) L st σ) : G C nL kc ks pc L (.int x :: st) σ := by
  obtain ⟨hx, hb, -⟩ := X
  exact fun H locs ls hP hS h => lv_if_gt hx hb hd ht (fun hc => kt (by rw [if_pos hc] at hf; exact hf) H locs ls hP hS h) (fun hc => kf (by rw [if_neg hc] at hf; exact hf) H locs ls hP hS h)
theorem g_if_le (X : CX C cc nL own Ts R0 ret) {x : Int32} {off : Int} {tgt : Nat} (hd : decode cc pc = .ok (.ifCond .le off, 3)) (ht : (pc : Int) + off = (tgt : Int)) {ρ : Type} {A B : Option ρ} {r : ρ} (hf : (if x ≤ 0 then A else B) = some r) (kt : A = some r → G C nL kc ks tgt L st σ) (kf : B = some r → G C nL kc ks (pc + 3) L st σ) : G C nL kc ks pc L (.int x :: st) σ := by
  obtain ⟨hx, hb, -⟩ := X
  exact fun H locs ls hP hS h => lv_if_le hx hb hd ht (fun hc => kt (by rw [if_pos hc] at hf; exact hf) H locs ls hP hS h) (fun hc => kf (by rw [if_neg hc] at hf; exact hf) H locs ls hP hS h)
theorem g_icmp_eq (X : CX C cc nL own Ts R0 ret) {x y : Int32} {off : Int} {tgt : Nat} (hd : decode cc pc = .ok (.if_icmp .eq off, 3)) (ht : (pc : Int) + off = (tgt : Int)) {ρ : Type} {A B : Option ρ} {r : ρ} (hf : (if x = y then A else B) = some r) (kt : A = some r → G C nL kc ks tgt L st σ) (kf : B = some r → G C nL kc ks (pc + 3) L st σ) : G C nL kc ks pc L (.int y :: .int x :: st) σ := by
  obtain ⟨hx, hb, -⟩ := X
  exact fun H locs ls hP hS h => lv_icmp_eq hx hb hd ht (fun hc => kt (by rw [if_pos hc] at hf; exact hf) H locs ls hP hS h) (fun hc => kf (by rw [if_neg hc] at hf; exact hf) H locs ls hP hS h)
theorem g_icmp_ne (X : CX C cc nL own Ts R0 ret) {x y : Int32} {off : Int} {tgt : Nat} (hd : decode cc pc = .ok (.if_icmp .ne off, 3)) (ht : (pc : Int) + off = (tgt : Int)) {ρ : Type} {A B : Option ρ} {r : ρ} (hf : (if x = y then B else A) = some r) (kt : A = some r → G C nL kc ks tgt L st σ) (kf : B = some r → G C nL kc ks (pc + 3) L st σ) : G C nL kc ks pc L (.int y :: .int x :: st) σ := by
  obtain ⟨hx, hb, -⟩ := X
  exact fun H locs ls hP hS h => lv_icmp_ne hx hb hd ht (fun hc => kt (by rw [if_neg hc] at hf; exact hf) H locs ls hP hS h) (fun hc => kf (by rw [if_pos hc] at hf; exact hf) H locs ls hP hS h)
theorem g_icmp_lt (X : CX C cc nL own Ts R0 ret) {x y : Int32} {off : Int} {tgt : Nat} (hd : decode cc pc = .ok (.if_icmp .lt off, 3)) (ht : (pc : Int) + off = (tgt : Int)) {ρ : Type} {A B : Option ρ} {r : ρ} (hf : (if x < y then A else B) = some r) (kt : A = some r → G C nL kc ks tgt L st σ) (kf : B = some r → G C nL kc ks (pc + 3) L st σ) : G C nL kc ks pc L (.int y :: .int x :: st) σ := by
  obtain ⟨hx, hb, -⟩ := X
  exact fun H locs ls hP hS h => lv_icmp_lt hx hb hd ht (fun hc => kt (by rw [if_pos hc] at hf; exact hf) H locs ls hP hS h) (fun hc => kf (by rw [if_neg hc] at hf; exact hf) H locs ls hP hS h)
theorem g_icmp_ge (X : CX C cc nL own Ts R0 ret) {x y : Int32} {off : Int} {tgt : Nat} (hd : decode cc pc = .ok (.if_icmp .ge off, 3)) (ht : (pc : Int) + off = (tgt : Int)) {ρ : Type} {A B : Option ρ} {r : ρ} (hf : (if y ≤ x then A else B) = some r) (kt : A = some r → G C nL kc ks tgt L st σ) (kf : B = some r → G C nL kc ks (pc + 3) L st σ) : G C nL kc ks pc L (.int y :: .int x :: st) σ := by
  obtain ⟨hx, hb, -⟩ := X
  exact fun H locs ls hP hS h => lv_icmp_ge hx hb hd ht (fun hc => kt (by rw [if_pos hc] at hf; exact hf) H locs ls hP hS h) (fun hc => kf (by rw [if_neg hc] at hf; exact hf) H locs ls hP hS h)
theorem g_icmp_gt (X : CX C cc nL own Ts R0 ret) {x y : Int32} {off : Int} {tgt : Nat} (hd : decode cc pc = .ok (.if_icmp .gt off, 3)) (ht : (pc : Int) + off = (tgt : Int)) {ρ : Type} {A B : Option ρ} {r : ρ} (hf : (if y < x then A else B) = some r) (kt : A = some r → G C nL kc ks tgt L st σ) (kf : B = some r → G C nL kc ks (pc + 3) L st σ) : G C nL kc ks pc L (.int y :: .int x :: st) σ := by
  obtain ⟨hx, hb, -⟩ := X
  exact fun H locs ls hP hS h => lv_icmp_gt hx hb hd ht (fun hc => kt (by rw [if_pos hc] at hf; exact hf) H locs ls hP hS h) (fun hc => kf (by rw [if_neg hc] at hf; exact hf) H locs ls hP hS h)
theorem g_icmp_le (X : CX C cc nL own Ts R0 ret) {x y : Int32} {off : Int} {tgt : Nat} (hd : decode cc pc = .ok (.if_icmp .le off, 3)) (ht : (pc : Int) + off = (tgt : Int)) {ρ : Type} {A B : Option ρ} {r : ρ} (hf : (if x ≤ y then A else B) = some r) (kt : A = some r → G C nL kc ks tgt L st σ) (kf : B = some r → G C nL kc ks (pc + 3) L st σ) : G C nL kc ks pc L (.int y :: .int x :: st) σ := by
  obtain ⟨hx, hb, -⟩ := X
  exact fun H locs ls hP hS h => lv_icmp_le hx hb hd ht (fun hc => kt (by rw [if_pos hc] at hf; exact hf) H locs ls hP hS h) (fun hc => kf (by rw [if_neg hc] at hf; exact hf) H locs ls hP hS h)
theorem g_goto (X : CX C cc nL own Ts R0 ret) {off : Int} {tgt : Nat} (hd : decode cc pc = .ok (.goto off, 3)) (ht : (pc : Int) + off = (tgt : Int)) (kk : G C nL kc ks tgt L st σ) : G C nL kc ks pc L st σ := by
  obtain ⟨hx, hb, -⟩ := X
  exact fun H locs ls hP hS h => lv_goto hx hb hd ht (kk H locs ls hP hS h)
theorem g_tsIn (X : CX C cc nL own Ts R0 ret) {dflt lo hi : Int} {offs : Array Int} {len : Nat} {x : Int32} {off : Int} {tgt : Nat} (hd : decode cc pc = .ok (.tableswitch dflt lo hi offs, len)) (h1 : ¬ x.toInt < lo) (h2 : ¬ hi < x.toInt) (ho : offs[(x.toInt - lo).toNat]? = some off) (ht : (pc : Int) + off = (tgt : Int)) (kk : G C nL kc ks tgt L st σ) : G C nL kc ks pc L (.int x :: st) σ := by
  obtain ⟨hx, hb, -⟩ := X
  exact fun H locs ls hP hS h => lv_tableIn hx hb hd h1 h2 ho ht (kk H locs ls hP hS h)
theorem g_tsOut (X : CX C cc nL own Ts R0 ret) {dflt lo hi : Int} {offs : Array Int} {len : Nat} {x : Int32} {tgt : Nat} (hd : decode cc pc = .ok (.tableswitch dflt lo hi offs, len)) (h1 : x.toInt < lo ∨ hi < x.toInt) (ht : (pc : Int) + dflt = (tgt : Int)) (kk : G C nL kc ks tgt L st σ) : G C nL kc ks pc L (.int x :: st) σ := by
  obtain ⟨hx, hb, -⟩ := X
  exact fun H locs ls hP hS h => lv_tableOut hx hb hd h1 ht (kk H locs ls hP hS h)
theorem g_ldc (X : CX C cc nL own Ts R0 ret) {index : Nat} {v : Int32} (hc : Cond.constant own index v ∈ Ts) (hd : decode cc pc = .ok (.ldc index, 2)) (kk : G C nL kc ks (pc + 2) L (.int v :: st) σ) : G C nL kc ks pc L st σ := by
  obtain ⟨hx, hb, -, hown, hts, -⟩ := X
  exact fun H locs ls hP hS h => lv_ldc hx hb hown (hts _ hc) hd (kk H locs ls hP hS h)
theorem g_ldc2 (X : CX C cc nL own Ts R0 ret) {index : Nat} {v : Int64} (hc : Cond.constantLong own index v ∈ Ts) (hd : decode cc pc = .ok (.ldc2_w index, 3)) (kk : G C nL kc ks (pc + 3) L (.long v :: st) σ) : G C nL kc ks pc L st σ := by
  obtain ⟨hx, hb, -, hown, hts, -⟩ := X
  exact fun H locs ls hP hS h => lv_ldc2 hx hb hown (hts _ hc) hd (kk H locs ls hP hS h)
theorem g_iald (X : CX C cc nL own Ts R0 ret) {q n : Nat} {i : Int32} (hk : ki q = 5) (hn : ln q = n) (hd : decode cc pc = .ok (.iaload, 1)) {ρ : Type} {F : Option ρ} {r : ρ} (hf : grd (inb i n) F = some r) (kk : F = some r → G C nL kc ks (pc + 1) L (.int (rI σ q (ix i)) :: st) σ) : G C nL kc ks pc L (.int i :: .ref (adr C q) :: st) σ := by
  obtain ⟨hx, hb, -, -, -, hK, -⟩ := X
  obtain ⟨hb1, hF⟩ := grd_some hf
  exact fun H locs ls hP hS h => va_iald (f := σ.1 q) hx hb hK hP q 0 (by rw [WS_get _ _ _ _ (ki_lt (by rw [hk]; decide)), ent_5 _ _ _ _ hk hn]) rfl (inb_in hb1) hd (kk hF H locs ls hP hS h)
theorem g_lald (X : CX C cc nL own Ts R0 ret) {q n : Nat} {i : Int32} (hk : ki q = 6) (hn : ln q = n) (hd : decode cc pc = .ok (.laload, 1)) {ρ : Type} {F : Option ρ} {r : ρ} (hf : grd (inb i n) F = some r) (kk : F = some r → G C nL kc ks (pc + 1) L (.long (rJ σ q (ix i)) :: st) σ) : G C nL kc ks pc L (.int i :: .ref (adr C q) :: st) σ := by
  obtain ⟨hx, hb, -, -, -, hK, -⟩ := X
  obtain ⟨hb1, hF⟩ := grd_some hf
  exact fun H locs ls hP hS h => va_lald (f := σ.2 q) hx hb hK hP q 1 (by rw [WS_get _ _ _ _ (ki_lt (by rw [hk]; decide)), ent_6 _ _ _ _ hk hn]) rfl (inb_in hb1) hd (kk hF H locs ls hP hS h)
theorem g_iast (X : CX C cc nL own Ts R0 ret) {q n : Nat} {i x : Int32} (hk : ki q = 5) (hn : ln q = n) (hd : decode cc pc = .ok (.iastore, 1)) {ρ : Type} {F : Option ρ} {r : ρ} (hf : grd (inb i n) F = some r) (kk : F = some r → G C nL kc ks (pc + 1) L st (wI σ q (ix i) x)) : G C nL kc ks pc L (.int x :: .int i :: .ref (adr C q) :: st) σ := by
  obtain ⟨hx, hb, -, -, -, hK, hinj, -⟩ := X
  obtain ⟨hb1, hF⟩ := grd_some hf
  have hq : q < 37 := ki_lt (by rw [hk]; decide)
  intro H locs ls hP hS h
  refine va_iast hx hb hK hP (WS_D σ hinj) hS q 0 (by rw [WS_get _ _ _ _ hq, ent_5 _ _ _ _ hk hn]) rfl (inb_in hb1) hd (fun H1 locs1 hP1 _ hS1 => ?_)
  rw [WS_set _ _ _ σ (wI σ q (ix i) x) hq (by rw [ent_5 _ _ _ _ hk hn, wI_self]; rfl) (fun j hj => wI_ne σ _ _ hj)] at hP1
  exact kk hF H1 locs1 ls hP1 hS1 h
theorem g_last (X : CX C cc nL own Ts R0 ret) {q n : Nat} {i : Int32} {x : Int64} (hk : ki q = 6) (hn : ln q = n) (hd : decode cc pc = .ok (.lastore, 1)) {ρ : Type} {F : Option ρ} {r : ρ} (hf : grd (inb i n) F = some r) (kk : F = some r → G C nL kc ks (pc + 1) L st (wJ σ q (ix i) x)) : G C nL kc ks pc L (.long x :: .int i :: .ref (adr C q) :: st) σ := by
  obtain ⟨hx, hb, -, -, -, hK, hinj, -⟩ := X
  obtain ⟨hb1, hF⟩ := grd_some hf
  have hq : q < 37 := ki_lt (by rw [hk]; decide)
  intro H locs ls hP hS h
  refine va_last hx hb hK hP (WS_D σ hinj) hS q 1 (by rw [WS_get _ _ _ _ hq, ent_6 _ _ _ _ hk hn]) rfl (inb_in hb1) hd (fun H1 locs1 hP1 _ hS1 => ?_)
  rw [WS_set _ _ _ σ (wJ σ q (ix i) x) hq (by rw [ent_6 _ _ _ _ hk hn, wJ_self]; rfl) (fun j hj => wJ_ne σ _ _ hj)] at hP1
  exact kk hF H1 locs1 ls hP1 hS1 h
theorem g_alenI (X : CX C cc nL own Ts R0 ret) {q n : Nat} (hk : ki q = 5) (hn : ln q = n) (hd : decode cc pc = .ok (.arraylength, 1)) (kk : G C nL kc ks (pc + 1) L (.int (Int32.ofNat n) :: st) σ) : G C nL kc ks pc L (.ref (adr C q) :: st) σ := by
  obtain ⟨hx, hb, -, -, -, hK, -⟩ := X
  exact fun H locs ls hP hS h => va_alen hx hb hK hP q 0 (by rw [WS_get _ _ _ _ (ki_lt (by rw [hk]; decide)), ent_5 _ _ _ _ hk hn]) rfl rfl hd (kk H locs ls hP hS h)
theorem g_alenJ (X : CX C cc nL own Ts R0 ret) {q n : Nat} (hk : ki q = 6) (hn : ln q = n) (hd : decode cc pc = .ok (.arraylength, 1)) (kk : G C nL kc ks (pc + 1) L (.int (Int32.ofNat n) :: st) σ) : G C nL kc ks pc L (.ref (adr C q) :: st) σ := by
  obtain ⟨hx, hb, -, -, -, hK, -⟩ := X
  exact fun H locs ls hP hS h => va_alen hx hb hK hP q 1 (by rw [WS_get _ _ _ _ (ki_lt (by rw [hk]; decide)), ent_6 _ _ _ _ hk hn]) rfl rfl hd (kk H locs ls hP hS h)
theorem g_get (X : CX C cc nL own Ts R0 ret) {q ci N pool kf : Nat} {Cn : String} {T : u_T} {fs : (Nat → Nat) → (Nat → Int32) → List Value} {v : Value} (ho : OBJ q ci fs) (hc : vwCl[ci]? = some (Cn, T, N)) (hin : ∀ w ∈ u_ws Cn T N, w ∈ Ts) (hkf : kf < N) (hl : Cond.fieldLink own pool (T kf).1 (T kf).2.1 (T kf).2.2.1 ∈ Ts) (hv : (fs (adr C) (σ.1 q))[kf]? = some v) (hd : decode cc pc = .ok (.getfield pool, 3)) (kk : G C nL kc ks (pc + 3) L (v :: st) σ) : G C nL kc ks pc L (.ref (adr C q) :: st) σ := by
  obtain ⟨hx, hb, -, hown, hts, hK, -⟩ := X
  exact fun H locs ls hP hS h => va_get hx hb hts hin hown hK hP q (by rw [WS_get _ _ _ _ ho.1, ho.2]) hc kf hkf (hts _ hl) (fun _ h9 => h9) hv hd (kk H locs ls hP hS h)
theorem g_put (X : CX C cc nL own Ts R0 ret) {q ci N pool kf : Nat} {Cn : String} {T : u_T} {fs : (Nat → Nat) → (Nat → Int32) → List Value} {x : Int32} {ty : FieldType} {ty0 : Nat → FieldType} (ho : OBJ q ci fs) (hc : vwCl[ci]? = some (Cn, T, N)) (hin : ∀ w ∈ u_ws Cn T N, w ∈ Ts) (hty : ∀ k, k < N → parseFieldDescriptor (T k).2.2.1 = some (ty0 k)) (hnm : ∀ a, a < N → ∀ b, b < N → a ≠ b → (T a).2.1 ≠ (T b).2.1) (hkf : kf < N) (hl : Cond.fieldLink own pool (T kf).1 (T kf).2.1 (T kf).2.2.1 ∈ Ts) (hfin : (T kf).2.2.2 = false) (hty1 : ty0 kf = ty) (hn : narrow ty (.int x) = .int x) (hfit : fits ty (.int x) = true) (hset : ∀ ad f, fs ad (upd f kf x) = (fs ad f).set kf (.int x)) (hlen : ∀ ad f, kf < (fs ad f).length) (hd : decode cc pc = .ok (.putfield pool, 3)) (kk : G C nL kc ks (pc + 3) L st (wI σ q kf x)) : G C nL kc ks pc L (.int x :: .ref (adr C q) :: st) σ := by
  obtain ⟨hx, hb, -, hown, hts, hK, hinj, -⟩ := X
  intro H locs ls hP hS h
  refine va_put hx hb hts hin ty0 hty hnm hown hK hP (WS_D σ hinj) hS q (by rw [WS_get _ _ _ _ ho.1, ho.2]) hc kf hkf (hts _ hl) (fun _ h9 => h9) hfin (by rw [hty kf hkf, hty1]) hn hfit (hlen _ _) hd (fun H1 locs1 hP1 _ hS1 => ?_)
  rw [WS_set _ _ _ σ (wI σ q kf x) ho.1 (by rw [ho.2, wI_self, hset]) (fun j hj => wI_ne σ _ _ hj)] at hP1
  exact kk H1 locs1 ls hP1 hS1 h
theorem g_max (X : CX C cc nL own Ts R0 ret) {index : Nat} (w1 : Cond.methodLink own index Lib.Math.max.name ∈ Ts) (w2 : Cond.static Lib.Math.max.name ∈ Ts) (w3 : Cond.initialized "java/lang/Math" ∈ Ts) (w4 : Cond.code Lib.Math.max.name Lib.Math.max.code 2 (some .int) ∈ Ts) (hR : 1 ≤ R0.frames ∧ (st.map fun v => v.category).sum + 13 ≤ R0.locals ∧ kc ≤ R0.cells ∧ ks ≤ R0.slots) {x y : Int32} (hd : decode cc pc = .ok (.invokestatic index, 3)) (kk : G C nL kc ks (pc + 3) L (.int (if x < y then y else x) :: st) σ) : G C nL kc ks pc L (.int y :: .int x :: st) σ := by
  obtain ⟨hx, hb, hml, hown, hts, -, -, hR0, -⟩ := X
  subst hR0
  exact fun H locs ls hP hS h => va_mmax hx hb (by rw [hml, h.1]) hown (hts _ w1) (hts _ w2) (hts _ w3) (hts _ w4) hR.1 hR.2.1 hR.2.2.1 hR.2.2.2 hd (kk H locs ls hP hS h)
theorem g_min (X : CX C cc nL own Ts R0 ret) {index : Nat} (w1 : Cond.methodLink own index Lib.Math.min.name ∈ Ts) (w2 : Cond.static Lib.Math.min.name ∈ Ts) (w3 : Cond.initialized "java/lang/Math" ∈ Ts) (w4 : Cond.code Lib.Math.min.name Lib.Math.min.code 2 (some .int) ∈ Ts) (hR : 1 ≤ R0.frames ∧ (st.map fun v => v.category).sum + 13 ≤ R0.locals ∧ kc ≤ R0.cells ∧ ks ≤ R0.slots) {x y : Int32} (hd : decode cc pc = .ok (.invokestatic index, 3)) (kk : G C nL kc ks (pc + 3) L (.int (if y < x then y else x) :: st) σ) : G C nL kc ks pc L (.int y :: .int x :: st) σ := by
  obtain ⟨hx, hb, hml, hown, hts, -, -, hR0, -⟩ := X
  subst hR0
  exact fun H locs ls hP hS h => va_mmin hx hb (by rw [hml, h.1]) hown (hts _ w1) (hts _ w2) (hts _ w3) (hts _ w4) hR.1 hR.2.1 hR.2.2.1 hR.2.2.2 hd (kk H locs ls hP hS h)
theorem g_abs (X : CX C cc nL own Ts R0 ret) {index : Nat} (w1 : Cond.methodLink own index Lib.Math.abs.name ∈ Ts) (w2 : Cond.static Lib.Math.abs.name ∈ Ts) (w3 : Cond.initialized "java/lang/Math" ∈ Ts) (w4 : Cond.code Lib.Math.abs.name Lib.Math.abs.code 1 (some .int) ∈ Ts) (hR : 1 ≤ R0.frames ∧ (st.map fun v => v.category).sum + 13 ≤ R0.locals ∧ kc ≤ R0.cells ∧ ks ≤ R0.slots) {x : Int32} (hd : decode cc pc = .ok (.invokestatic index, 3)) (kk : G C nL kc ks (pc + 3) L (.int (if 0 ≤ x then x else 0 - x) :: st) σ) : G C nL kc ks pc L (.int x :: st) σ := by
  obtain ⟨hx, hb, hml, hown, hts, -, -, hR0, -⟩ := X
  subst hR0
  exact fun H locs ls hP hS h => va_mabs hx hb (by rw [hml, h.1]) hown (hts _ w1) (hts _ w2) (hts _ w3) (hts _ w4) hR.1 hR.2.1 hR.2.2.1 hR.2.2.2 hd (kk H locs ls hP hS h)
end ROWS
