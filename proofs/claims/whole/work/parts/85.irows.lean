/-! Constructors: rows over a world that grows. -/
section IROWS
variable {C : Ctx} {A : Nat → Prop} {cc : ByteArray} {nL : Nat} {own : String} {Ts : List Cond} {R0 : Room}
variable {kc ks pc h0 : Nat} {st : List Value} {ws : va_W}
/-- what holds all through a constructor's body -/
def IX (C : Ctx) (A : Nat → Prop) (cc : ByteArray) (nL : Nat) (own : String) (Ts : List Cond) (R0 : Room) : Prop :=
  (cP C).tables.exec = Jvm.exec ∧ (cC C).code = cc ∧ (cC C).maxLocals = nL ∧ (cS C).vm.findClass own = some (cM C).cls ∧ (∀ w ∈ Ts, w.before (cA C) (cS C) = true) ∧
  va_K (cD C) vwCl [(cI C, .int), (cJ C, .long)] (cS C) ∧ cR C = R0 ∧ (cMe C).locks = false ∧ (cMe C).name = "<init>" ∧ (cMe C).sig.returnType = none ∧ ∀ q, (cS C).heap.size ≤ q → A q
def GI (C : Ctx) (A : Nat → Prop) (nL h0 kc ks pc : Nat) (st : List Value) (ws : va_W) : Prop :=
  ∀ (H : Heap) (locs : List Loc) (ls : Array Slot), va_P (cD C) vwCl ws H → va_D A ws → va_S A (cS C).heap H locs → lv_has ls nL [(0, .ref h0)] → WC C H locs kc ks (F0 (cM C) pc ls st)
theorem gi_aload (X : IX C A cc nL own Ts R0) (hd : decode cc pc = .ok (.aload_n 0, 1)) (kk : GI C A nL h0 kc ks (pc + 1) (.ref h0 :: st) ws) : GI C A nL h0 kc ks pc st ws := by
  obtain ⟨hx, hb, -⟩ := X
  exact fun H locs ls hP hD hS h => lv_aload_n hx hb hd rfl (lv_at h 0 rfl) (kk H locs ls hP hD hS h)
theorem gi_iconst (X : IX C A cc nL own Ts R0) {n : Int} {v : Int32} (hd : decode cc pc = .ok (.iconst n, 1)) (hv : Int32.ofInt n = v) (kk : GI C A nL h0 kc ks (pc + 1) (.int v :: st) ws) : GI C A nL h0 kc ks pc st ws := by
  obtain ⟨hx, hb, -⟩ := X
  exact fun H locs ls hP hD hS h => lv_iconst hx hb hd hv (kk H locs ls hP hD hS h)
theorem gi_bipush (X : IX C A cc nL own Ts R0) {n : Int} {v : Int32} (hd : decode cc pc = .ok (.bipush n, 2)) (hv : (Int8.ofInt n).toInt32 = v) (kk : GI C A nL h0 kc ks (pc + 2) (.int v :: st) ws) : GI C A nL h0 kc ks pc st ws := by
  obtain ⟨hx, hb, -⟩ := X
  exact fun H locs ls hP hD hS h => lv_bipush hx hb hd hv (kk H locs ls hP hD hS h)
theorem gi_sipush (X : IX C A cc nL own Ts R0) {n : Int} {v : Int32} (hd : decode cc pc = .ok (.sipush n, 3)) (hv : (Int16.ofInt n).toInt32 = v) (kk : GI C A nL h0 kc ks (pc + 3) (.int v :: st) ws) : GI C A nL h0 kc ks pc st ws := by
  obtain ⟨hx, hb, -⟩ := X
  exact fun H locs ls hP hD hS h => lv_sipush hx hb hd hv (kk H locs ls hP hD hS h)
theorem gi_dup (X : IX C A cc nL own Ts R0) {va : Value} (hd : decode cc pc = .ok (.dup, 1)) (hva : va.category = 1) (kk : GI C A nL h0 kc ks (pc + 1) (va :: va :: st) ws) : GI C A nL h0 kc ks pc (va :: st) ws := by
  obtain ⟨hx, hb, -⟩ := X
  exact fun H locs ls hP hD hS h => lv_dup hx hb hd hva (kk H locs ls hP hD hS h)
theorem gi_newI (X : IX C A cc nL own Ts R0) (harr : Cond.arrayClass .int ∈ Ts) {n : Int32} {N : Nat} (hn : ¬ n < 0) (hN : n.toNatClampNeg = N) (hN1 : N ≤ 1000) (hcs : kc + 1 ≤ R0.cells ∧ ks + N ≤ R0.slots) (hd : decode cc pc = .ok (.newarray .int, 2))
    (kk : ∀ q, GI C A nL h0 (kc + 1) (ks + N) (pc + 2) (.ref q :: st) (ws ++ [(q, .inl (cI C, N, .inl (fun _ => 0)))])) : GI C A nL h0 kc ks pc (.int n :: st) ws := by
  obtain ⟨hx, hb, hml, hown, hts, hK, hR, hlk, hnm, hret, hA⟩ := X
  subst hR
  intro H locs ls hP hD hS h
  refine va_newa (atype := .int) (ty := .int) (a0 := (N, .inl (fun _ => 0))) hx hb (hts _ harr) rfl hK hP hD hS hA (fun cA => rfl) hn hN (by show N * 4 ≤ 536870912; omega) hcs.1 hcs.2 hd (fun q cA H1 hK1 hP1 hD1 hS1 => ?_)
  have e1 : (cS C).vm.findClass ("[" ++ FieldType.int.toString) = some cA := (hK1.2 2 (cA, .int) rfl).2
  have e2 : (cS C).vm.findClass ("[" ++ FieldType.int.toString) = some (cI C) := (hK.2 0 (cI C, .int) rfl).2
  have e : cA = cI C := Option.some.inj (e1.symm.trans e2)
  rw [e] at hP1 hD1
  exact kk q H1 locs ls hP1 hD1 hS1 h
theorem gi_newJ (X : IX C A cc nL own Ts R0) (harr : Cond.arrayClass .long ∈ Ts) {n : Int32} {N : Nat} (hn : ¬ n < 0) (hN : n.toNatClampNeg = N) (hN1 : N ≤ 1000) (hcs : kc + 1 ≤ R0.cells ∧ ks + N ≤ R0.slots) (hd : decode cc pc = .ok (.newarray .long, 2))
    (kk : ∀ q, GI C A nL h0 (kc + 1) (ks + N) (pc + 2) (.ref q :: st) (ws ++ [(q, .inl (cJ C, N, .inr (.inl (fun _ => 0))))])) : GI C A nL h0 kc ks pc (.int n :: st) ws := by
  obtain ⟨hx, hb, hml, hown, hts, hK, hR, hlk, hnm, hret, hA⟩ := X
  subst hR
  intro H locs ls hP hD hS h
  refine va_newa (atype := .long) (ty := .long) (a0 := (N, .inr (.inl (fun _ => 0)))) hx hb (hts _ harr) rfl hK hP hD hS hA (fun cA => rfl) hn hN (by show N * 8 ≤ 536870912; omega) hcs.1 hcs.2 hd (fun q cA H1 hK1 hP1 hD1 hS1 => ?_)
  have e1 : (cS C).vm.findClass ("[" ++ FieldType.long.toString) = some cA := (hK1.2 2 (cA, .long) rfl).2
  have e2 : (cS C).vm.findClass ("[" ++ FieldType.long.toString) = some (cJ C) := (hK.2 1 (cJ C, .long) rfl).2
  have e : cA = cJ C := Option.some.inj (e1.symm.trans e2)
  rw [e] at hP1 hD1
  exact kk q H1 locs ls hP1 hD1 hS1 h
theorem gi_putF (X : IX C A cc nL own Ts R0) {ci N pool kf : Nat} {T : u_T} {fs : List Value} {v : Value} {ty0 : Nat → FieldType} (ws' : va_W) (he : ws[0]? = some (h0, .inr (ci, fs))) (hc : vwCl[ci]? = some (own, T, N)) (hin : ∀ w ∈ u_ws own T N, w ∈ Ts) (hty : ∀ k, k < N → parseFieldDescriptor (T k).2.2.1 = some (ty0 k)) (hnm : ∀ a, a < N → ∀ b, b < N → a ≠ b → (T a).2.1 ≠ (T b).2.1) (hkf : kf < N) (hl : Cond.fieldLink own pool (T kf).1 (T kf).2.1 (T kf).2.2.1 ∈ Ts) (hfin : (T kf).2.2.2 = true) (hdecl : (T kf).1 = own) (hn : narrow (ty0 kf) v = v) (hfit : fits (ty0 kf) v = true) (hlen : kf < fs.length) (hd : decode cc pc = .ok (.putfield pool, 3))
    (hw : ws.set 0 (h0, .inr (ci, fs.set kf v)) = ws') (kk : GI C A nL h0 kc ks (pc + 3) st ws') : GI C A nL h0 kc ks pc (v :: .ref h0 :: st) ws := by
  obtain ⟨hx, hb, hml, hown, hts, hK, hR, hlk, hnm2, hret, hA⟩ := X
  subst hw
  exact fun H locs ls hP hD hS h => va_putF hx hb hts hin ty0 hty hnm hown hK hP hD hS 0 he hc kf hkf (hts _ hl) (fun _ h9 => h9) hfin hnm2 hdecl (hty kf hkf) hn hfit hlen hd (fun H1 locs1 hP1 hD1 hS1 => kk H1 locs1 ls hP1 hD1 hS1 h)
theorem gi_put (X : IX C A cc nL own Ts R0) {ci N pool kf : Nat} {T : u_T} {fs : List Value} {v : Value} {ty0 : Nat → FieldType} (ws' : va_W) (he : ws[0]? = some (h0, .inr (ci, fs))) (hc : vwCl[ci]? = some (own, T, N)) (hin : ∀ w ∈ u_ws own T N, w ∈ Ts) (hty : ∀ k, k < N → parseFieldDescriptor (T k).2.2.1 = some (ty0 k)) (hnm : ∀ a, a < N → ∀ b, b < N → a ≠ b → (T a).2.1 ≠ (T b).2.1) (hkf : kf < N) (hl : Cond.fieldLink own pool (T kf).1 (T kf).2.1 (T kf).2.2.1 ∈ Ts) (hfin : (T kf).2.2.2 = false) (hn : narrow (ty0 kf) v = v) (hfit : fits (ty0 kf) v = true) (hlen : kf < fs.length) (hd : decode cc pc = .ok (.putfield pool, 3))
    (hw : ws.set 0 (h0, .inr (ci, fs.set kf v)) = ws') (kk : GI C A nL h0 kc ks (pc + 3) st ws') : GI C A nL h0 kc ks pc (v :: .ref h0 :: st) ws := by
  obtain ⟨hx, hb, hml, hown, hts, hK, hR, hlk, hnm2, hret, hA⟩ := X
  subst hw
  exact fun H locs ls hP hD hS h => va_put hx hb hts hin ty0 hty hnm hown hK hP hD hS 0 he hc kf hkf (hts _ hl) (fun _ h9 => h9) hfin (hty kf hkf) hn hfit hlen hd (fun H1 locs1 hP1 hD1 hS1 => kk H1 locs1 ls hP1 hD1 hS1 h)
theorem gi_get (X : IX C A cc nL own Ts R0) {ci N pool kf : Nat} {T : u_T} {fs : List Value} {v : Value} (he : ws[0]? = some (h0, .inr (ci, fs))) (hc : vwCl[ci]? = some (own, T, N)) (hin : ∀ w ∈ u_ws own T N, w ∈ Ts) (hkf : kf < N) (hl : Cond.fieldLink own pool (T kf).1 (T kf).2.1 (T kf).2.2.1 ∈ Ts) (hv : fs[kf]? = some v) (hd : decode cc pc = .ok (.getfield pool, 3)) (kk : GI C A nL h0 kc ks (pc + 3) (v :: st) ws) : GI C A nL h0 kc ks pc (.ref h0 :: st) ws := by
  obtain ⟨hx, hb, hml, hown, hts, hK, hR, hlk, hnm2, hret, hA⟩ := X
  exact fun H locs ls hP hD hS h => va_get hx hb hts hin hown hK hP 0 he hc kf hkf (hts _ hl) (fun _ h9 => h9) hv hd (kk H locs ls hP hD hS h)
theorem gi_iast (X : IX C A cc nL own Ts R0) (q0 : Nat) {a n : Nat} {f : Nat → Int32} {i x : Int32} {k : Nat} (W' : (Nat → Int32) → va_W) (he : ws[q0]? = some (a, .inl (cI C, n, .inl f))) (hi : i = nI k) (hk : k < n) (hn : n ≤ 1000) (hd : decode cc pc = .ok (.iastore, 1)) (hw : ∀ g, ws.set q0 (a, .inl (cI C, n, .inl g)) = W' g)
    (kk : ∀ g : Nat → Int32, (∀ w, g w = if w = k then x else f w) → GI C A nL h0 kc ks (pc + 1) st (W' g)) : GI C A nL h0 kc ks pc (.int x :: .int i :: .ref a :: st) ws := by
  obtain ⟨hx, hb, hml, hown, hts, hK, hR, hlk, hnm2, hret, hA⟩ := X
  subst hi
  have e : (nI k).toNatClampNeg = k := ix_n (n := k) (by omega)
  intro H locs ls hP hD hS h
  refine va_iast hx hb hK hP hD hS q0 0 he rfl (vp_in_nI hk (by omega)) hd (fun H1 locs1 hP1 hD1 hS1 => ?_)
  rw [hw] at hP1 hD1
  exact kk _ (fun w => by
    rw [e]
    unfold upd
    rfl) H1 locs1 ls hP1 hD1 hS1 h
theorem gi_obj (X : IX C A cc nL own Ts R0) {idx : Nat} (w1 : Cond.methodLink own idx objectInit ∈ Ts) (w2 : Cond.instanceMethod objectInit ∈ Ts) (w3 : Cond.code objectInit ⟨#[0xb1]⟩ 1 none ∈ Ts) (hd : decode cc pc = .ok (.invokespecial idx, 3)) (hR1 : 1 ≤ R0.frames ∧ 12 ≤ R0.locals) (kk : GI C A nL h0 kc ks (pc + 3) [] ws) : GI C A nL h0 kc ks pc [.ref h0] ws := by
  obtain ⟨hx, hb, hml, hown, hts, hK, hR, hlk, hnm2, hret, hA⟩ := X
  subst hR
  intro H locs ls hP hD hS h
  refine W.objInit hx hb hown (hts _ w1) (hts _ w2) (hts _ w3) rfl (by rw [hml]; exact h.1) rfl hd hR1.1 (by show 0 + 0 + 12 ≤ _; omega) ?_
  exact W.eq (g2 := F0 (cM C) (pc + 3) ls []) rfl (kk H locs ls hP hD hS h)
theorem gi_new (X : IX C A cc nL own Ts R0) {Cn : String} {T : u_T} {N ci index : Nat} {ty : Nat → FieldType} {fs : List Value} (hin : ∀ w ∈ u_ws Cn T N, w ∈ Ts) (hty : ∀ k, k < N → parseFieldDescriptor (T k).2.2.1 = some (ty k)) (w1 : Cond.classLink own index Cn ∈ Ts) (w2 : Cond.instantiable Cn N ∈ Ts) (w3 : Cond.initialized Cn ∈ Ts) (hc : vwCl[ci]? = some (Cn, T, N)) (hfs : ∀ j, j < N → defaultValue (ty j) = vp_V fs j) (hcs : kc + 1 ≤ R0.cells ∧ ks + N ≤ R0.slots) (hd : decode cc pc = .ok (.new index, 3))
    (kk : ∀ q, GI C A nL h0 (kc + 1) (ks + N) (pc + 3) (.ref q :: st) (ws ++ [(q, .inr (ci, fs))])) : GI C A nL h0 kc ks pc st ws := by
  obtain ⟨hx, hb, hml, hown, hts, hK, hR, hlk, hnm2, hret, hA⟩ := X
  subst hR
  intro H locs ls hP hD hS h
  exact va_new hx hb hts hin ty hty hown (hts _ w1) (hts _ w2) (hts _ w3) hK hP hD hS hA hc hfs hcs.1 hcs.2 hd (fun q H1 hP1 hD1 hS1 => kk q H1 locs ls hP1 hD1 hS1 h)
/-- what a constructor of a cell at q makes of it -/
def KN (l : Launch) (y : MethodName) (wsy : List Cond) (rm : Room) (mc ms : Nat) (e0 : va_E) (S : Type) (W1 : ClassId → ClassId → Nat → S → va_W) (post : S → Prop) : Prop :=
  ∀ (D : va_G) (cI cJ : ClassId) (q sz : Nat), Met l y wsy rm (va_Pc [.ref q] (fun U => U.heap.size = sz ∧ va_P D vwCl [(q, e0)] U.heap ∧ va_K D vwCl [(cI, .int), (cJ, .long)] U))
    (va_Qv (fun u : S => post u) (fun u t => va_P D vwCl (W1 cI cJ q u) t.heap ∧ va_D (va_A [(q, e0)] sz) (W1 cI cJ q u)) (va_A [(q, e0)] sz)) mc ms (va_A [(q, e0)] sz)
theorem gi_init (X : IX C A cc nL own Ts R0) {y : MethodName} {wsy : List Cond} {rm : Room} {mc ms index maxL : Nat} {bytes : ByteArray} {e0 : va_E} {S : Type} {W1 : ClassId → ClassId → Nat → S → va_W} {post : S → Prop} {q : Nat} (hM : KN (cL C) y wsy rm mc ms e0 S W1 post) (isR : List Nat) (k : Nat) {wr : va_W}
    (cw : ∀ (s : State) (a : Array Value), (∀ w ∈ Ts, w.before a s = true) → CallB R0 s a own index y bytes maxL none wsy rm mc ms 0 ∧ y.name = "<init>" ∧ (Cond.instanceMethod y).before a s = true)
    (hC : [k].map (fun i => ws[i]?) = [(q, e0)].map some) (hRr : isR.map (fun i => ws[i]?) = wr.map some) (hn : va_nd isR = true) (hdis : ∀ i ∈ isR, i ∉ [k]) (hd : decode cc pc = .ok (.invokespecial index, 3)) (hcat : (st.map fun v => v.category).sum ≤ 8) (hcs : kc + mc ≤ R0.cells ∧ ks + ms ≤ R0.slots)
    (kk : ∀ u : S, post u → GI C A nL h0 (kc + mc) (ks + ms) (pc + 3) st (wr ++ W1 (cI C) (cJ C) q u)) : GI C A nL h0 kc ks pc (.ref q :: st) ws := by
  obtain ⟨hx, hb, hml, hown, hts, hK, hR, hlk, hnm2, hret, hA⟩ := X
  subst hR
  intro H locs ls hP hD hS h
  have hPc : va_P (cD C) vwCl [(q, e0)] H := fun k2 x hx2 => by
    have h1 : ([k].map (fun i => ws[i]?))[k2]? = some (some x) := by rw [hC, List.getElem?_map, hx2]; rfl
    rw [List.getElem?_map] at h1
    cases hi : [k][k2]? with
    | none => rw [hi] at h1; cases h1
    | some i => rw [hi] at h1; exact hP i x (Option.some.inj h1)
  have hFc := va_free (wc := [(q, e0)]) hD hS hA [k] hC
  refine va_callv (va_runI (As := []) (rest := st) ⟨hx, hb, hml, hown, hts⟩ (hM (cD C) (cI C) (cJ C) q H.size) (cw _ _ hts) ⟨fun a U g mk q => by obtain ⟨q0, q1, qP, qK⟩ := q; exact ⟨q0, q1, qP, va_K.moved (u := U) (U := U.calling g mk a) (Vm.Alike.refl U.vm) qK⟩, fun U hU hW => ⟨rfl, by rw [hU], by rw [hU]; exact hPc, va_K.moved hW.alike hK⟩⟩ rfl rfl h.1 rfl (lv_room hcat) hd hcs) hS (fun q _ h => hFc q h) hFc (fun u t H1 locs1 ht hvm hw hB hz1 hk1 hS1 => ?_)
  obtain ⟨hP1, hD1⟩ := hB
  rw [ht] at hP1
  obtain ⟨hP2, hD2⟩ := va_join (wr := wr) hP hD [k] isR hC hRr hn hdis hk1 hFc hP1 hD1
  exact kk u hw H1 locs1 ls hP2 hD2 hS1 h
/-- a static call that fills the array at a -/
def KF2 (l : Launch) (y : MethodName) (wsy : List Cond) (rm : Room) (n : Nat) : Prop :=
  ∀ (D : va_G) (cI cJ : ClassId) (a sz : Nat) (f : Nat → Int32) (v : Int32), Met l y wsy rm (va_Pc [.ref a, .int v] (fun U => U.heap.size = sz ∧ va_P D vwCl [(a, .inl (cI, n, .inl f))] U.heap ∧ va_K D vwCl [(cI, .int), (cJ, .long)] U))
    (va_Qv (fun g : Nat → Int32 => ∀ w, w < n → g w = v) (fun g t => va_P D vwCl [(a, .inl (cI, n, .inl g))] t.heap ∧ va_D (va_A [(a, .inl (cI, n, .inl f))] sz) [(a, .inl (cI, n, .inl g))]) (va_A [(a, .inl (cI, n, .inl f))] sz)) 0 0 (va_A [(a, .inl (cI, n, .inl f))] sz)
theorem gi_fill (X : IX C A cc nL own Ts R0) {y : MethodName} {wsy : List Cond} {rm : Room} {index maxL n a : Nat} {bytes : ByteArray} {f : Nat → Int32} {v : Int32} (hM : KF2 (cL C) y wsy rm n) (isR : List Nat) (k : Nat) {wr : va_W} (perm : List Nat) (W' : (Nat → Int32) → va_W)
    (cw : ∀ (s : State) (a : Array Value), (∀ w ∈ Ts, w.before a s = true) → CallB R0 s a own index y bytes maxL none wsy rm 0 0 2 ∧ (Cond.static y).before a s = true)
    (hC : [k].map (fun i => ws[i]?) = [(a, (.inl (cI C, n, .inl f) : va_E))].map some) (hRr : isR.map (fun i => ws[i]?) = wr.map some) (hn : va_nd isR = true) (hdis : ∀ i ∈ isR, i ∉ [k]) (hp : va_nd perm = true) (hw : ∀ g, perm.map (fun i => (wr ++ [(a, (.inl (cI C, n, .inl g) : va_E))])[i]?) = (W' g).map some) (hw2 : ∀ g, perm.filterMap (fun i => (wr ++ [(a, (.inl (cI C, n, .inl g) : va_E))])[i]?) = W' g) (hd : decode cc pc = .ok (.invokestatic index, 3)) (hcat : (st.map fun v => v.category).sum ≤ 8) (hcs : kc ≤ R0.cells ∧ ks ≤ R0.slots)
    (kk : ∀ g : Nat → Int32, (∀ w, w < n → g w = v) → GI C A nL h0 kc ks (pc + 3) st (W' g)) : GI C A nL h0 kc ks pc (.int v :: .ref a :: st) ws := by
  obtain ⟨hx, hb, hml, hown, hts, hK, hR, hlk, hnm2, hret, hA⟩ := X
  subst hR
  intro H locs ls hP hD hS h
  have hPc : va_P (cD C) vwCl [(a, .inl (cI C, n, .inl f))] H := fun k2 x hx2 => by
    have h1 : ([k].map (fun i => ws[i]?))[k2]? = some (some x) := by rw [hC, List.getElem?_map, hx2]; rfl
    rw [List.getElem?_map] at h1
    cases hi : [k][k2]? with
    | none => rw [hi] at h1; cases h1
    | some i => rw [hi] at h1; exact hP i x (Option.some.inj h1)
  have hFc := va_free (wc := [(a, .inl (cI C, n, .inl f))]) hD hS hA [k] hC
  refine va_callv (va_runS (As := [.ref a, .int v]) (rest := st) ⟨hx, hb, hml, hown, hts⟩ (hM (cD C) (cI C) (cJ C) a H.size f v) (cw _ _ hts) ⟨fun a U g mk q => by obtain ⟨q0, q1, qP, qK⟩ := q; exact ⟨q0, q1, qP, va_K.moved (u := U) (U := U.calling g mk a) (Vm.Alike.refl U.vm) qK⟩, fun U hU hW => ⟨rfl, by rw [hU], by rw [hU]; exact hPc, va_K.moved hW.alike hK⟩⟩ rfl rfl h.1 rfl (lv_room hcat) hd hcs) hS (fun q _ h => hFc q h) hFc (fun g t H1 locs1 ht hvm hw9 hB hz1 hk1 hS1 => ?_)
  obtain ⟨hP1, hD1⟩ := hB
  rw [ht] at hP1
  obtain ⟨hP2, hD2⟩ := va_join (wr := wr) hP hD [k] isR hC hRr hn hdis hk1 hFc hP1 hD1
  exact kk g hw9 H1 locs1 ls (hP2.sub perm (hw2 g)) (hD2.sub perm hp (hw g)) hS1 h
/-- the last row of a constructor -/
theorem kn_of {l : Launch} {y : MethodName} {wsy wsy' : List Cond} {rm : Room} {mc ms : Nat} {e0 : va_E} {S : Type} {W1 : ClassId → ClassId → Nat → S → va_W} {post : S → Prop} {cc : ByteArray} (hy : plainName y.cls = true) (hini : y.name = "<init>") (hw : wsy = Cond.code y cc 1 none :: wsy')
    (body : ∀ (C : Ctx) (A : Nat → Prop) (h0 : Nat), IX C A cc 1 y.cls wsy rm → cL C = l → (∀ (pc : Nat) (u : S), post u → decode cc pc = .ok (.return_, 1) → GI C A 1 h0 mc ms pc [] (W1 (cI C) (cJ C) h0 u)) → GI C A 1 h0 0 0 0 [] [(h0, e0)]) : KN l y wsy rm mc ms e0 S W1 post := by
  intro D cI cJ q sz
  refine Met.ofW (cc := cc) (maxL := 1) (ret := none) hy hw ?_
  intro p e s m args below meth c s₁ B hml hv
  obtain ⟨rfl, hsz, hP, hK⟩ := hv
  have hts := atoms_spec (ws := wsy) B.pre
  have hown : s.vm.findClass y.cls = some m.cls := findClass_of_methodNamed B.named
  have hin : meth.name = "<init>" := by rw [← hini]; exact (name_of_methodNamed B.named B.method).1
  subst hsz
  have hD : va_D (va_A [(q, e0)] s.heap.size) [(q, e0)] := by
    refine ⟨fun i j x z h1 h2 _ => ?_, fun k2 x hx2 => va_A.in hx2⟩
    have a1 := (List.getElem?_eq_some_iff.mp h1).1
    have a2 := (List.getElem?_eq_some_iff.mp h2).1
    simp at a1 a2
    omega
  have hl := lv_entry ([.ref q]) (n := 1) (Nat.le_of_ble_eq_true rfl)
  rw [lg_entry_eq]
  exact body ((p, l, e, (headSpec wsy rm).room, s, m, ([Value.ref q]).toArray, below, meth, c), (D, cI, cJ, fun _ => 0), MQ below (va_Qv (fun u : S => post u) (fun u t => va_P D vwCl (W1 cI cJ q u) t.heap ∧ va_D (va_A [(q, e0)] s.heap.size) (W1 cI cJ q u)) (va_A [(q, e0)] s.heap.size)) ([Value.ref q]).toArray s mc ms (va_A [(q, e0)] s.heap.size)) (va_A [(q, e0)] s.heap.size) q
    ⟨B.exec, B.bytes, hml, hown, hts, hK, rfl, B.notSynchronized, hin, B.returns, fun q2 h2 => Or.inr h2⟩ rfl
    (fun pc u hu hd H locs ls hP1 hD1 hS1 _ => W.vret B.exec B.bytes B.returns (fun t ht hW => ⟨⟨u, rfl, hu, by rw [ht]; exact hP1, hD1⟩, hS1.F ht⟩) hS1.2.2 hd B.notSynchronized) s.heap [] _ hP hD va_S.rf hl
end IROWS
