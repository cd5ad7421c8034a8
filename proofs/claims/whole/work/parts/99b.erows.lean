/-! The law's first instructions: rows over a world that grows. -/
section EROWS
variable {C : Ctx} {A : Nat → Prop} {cc : ByteArray} {nL : Nat} {own : String} {Ts : List Cond} {R0 : Room}
variable {kc ks pc : Nat} {L : List (Nat × Value)} {st : List Value} {ws : va_W}
def EX (C : Ctx) (A : Nat → Prop) (cc : ByteArray) (nL : Nat) (own : String) (Ts : List Cond) (R0 : Room) : Prop :=
  (cP C).tables.exec = Jvm.exec ∧ (cC C).code = cc ∧ (cC C).maxLocals = nL ∧ (cS C).vm.findClass own = some (cM C).cls ∧ (∀ w ∈ Ts, w.before (cA C) (cS C) = true) ∧
  va_K (cD C) vwCl [(cI C, .int), (cJ C, .long)] (cS C) ∧ cR C = R0 ∧ ∀ q, (cS C).heap.size ≤ q → A q
def GE (C : Ctx) (A : Nat → Prop) (nL kc ks pc : Nat) (L : List (Nat × Value)) (st : List Value) (ws : va_W) : Prop :=
  ∀ (H : Heap) (locs : List Loc) (ls : Array Slot), va_P (cD C) vwCl ws H → va_D A ws → va_S A (cS C).heap H locs → lv_has ls nL L → WC C H locs kc ks (F0 (cM C) pc ls st)
theorem ge_iconst (X : EX C A cc nL own Ts R0) {n : Int} {v : Int32} (hd : decode cc pc = .ok (.iconst n, 1)) (hv : Int32.ofInt n = v) (kk : GE C A nL kc ks (pc + 1) L (.int v :: st) ws) : GE C A nL kc ks pc L st ws := by
  obtain ⟨hx, hb, -⟩ := X
  exact fun H locs ls hP hD hS h => lv_iconst hx hb hd hv (kk H locs ls hP hD hS h)
theorem ge_dup (X : EX C A cc nL own Ts R0) {va : Value} (hd : decode cc pc = .ok (.dup, 1)) (hva : va.category = 1) (kk : GE C A nL kc ks (pc + 1) L (va :: va :: st) ws) : GE C A nL kc ks pc L (va :: st) ws := by
  obtain ⟨hx, hb, -⟩ := X
  exact fun H locs ls hP hD hS h => lv_dup hx hb hd hva (kk H locs ls hP hD hS h)
theorem ge_newJ (X : EX C A cc nL own Ts R0) (harr : Cond.arrayClass .long ∈ Ts) {n : Int32} {N : Nat} (hn : ¬ n < 0) (hN : n.toNatClampNeg = N) (hN1 : N ≤ 1000) (hcs : kc + 1 ≤ R0.cells ∧ ks + N ≤ R0.slots) (hd : decode cc pc = .ok (.newarray .long, 2))
    (kk : ∀ q, GE C A nL (kc + 1) (ks + N) (pc + 2) L (.ref q :: st) (ws ++ [(q, .inl (cJ C, N, .inr (.inl (fun _ => 0))))])) : GE C A nL kc ks pc L (.int n :: st) ws := by
  obtain ⟨hx, hb, hml, hown, hts, hK, hR, hA⟩ := X
  subst hR
  intro H locs ls hP hD hS h
  refine va_newa (atype := .long) (ty := .long) (a0 := (N, .inr (.inl (fun _ => 0)))) hx hb (hts _ harr) rfl hK hP hD hS hA (fun cA => rfl) hn hN (by show N * 8 ≤ 536870912; omega) hcs.1 hcs.2 hd (fun q cA H1 hK1 hP1 hD1 hS1 => ?_)
  have e1 : (cS C).vm.findClass ("[" ++ FieldType.long.toString) = some cA := (hK1.2 2 (cA, .long) rfl).2
  have e2 : (cS C).vm.findClass ("[" ++ FieldType.long.toString) = some (cJ C) := (hK.2 1 (cJ C, .long) rfl).2
  have e : cA = cJ C := Option.some.inj (e1.symm.trans e2)
  rw [e] at hP1 hD1
  exact kk q H1 locs ls hP1 hD1 hS1 h
theorem ge_new (X : EX C A cc nL own Ts R0) {Cn : String} {T : u_T} {N ci index : Nat} {ty : Nat → FieldType} {fs : List Value} (hin : ∀ w ∈ u_ws Cn T N, w ∈ Ts) (hty : ∀ k, k < N → parseFieldDescriptor (T k).2.2.1 = some (ty k)) (w1 : Cond.classLink own index Cn ∈ Ts) (w2 : Cond.instantiable Cn N ∈ Ts) (w3 : Cond.initialized Cn ∈ Ts) (hc : vwCl[ci]? = some (Cn, T, N)) (hfs : ∀ j, j < N → defaultValue (ty j) = vp_V fs j) (hcs : kc + 1 ≤ R0.cells ∧ ks + N ≤ R0.slots) (hd : decode cc pc = .ok (.new index, 3))
    (kk : ∀ q, GE C A nL (kc + 1) (ks + N) (pc + 3) L (.ref q :: st) (ws ++ [(q, .inr (ci, fs))])) : GE C A nL kc ks pc L st ws := by
  obtain ⟨hx, hb, hml, hown, hts, hK, hR, hA⟩ := X
  subst hR
  intro H locs ls hP hD hS h
  exact va_new hx hb hts hin ty hty hown (hts _ w1) (hts _ w2) (hts _ w3) hK hP hD hS hA hc hfs hcs.1 hcs.2 hd (fun q H1 hP1 hD1 hS1 => kk q H1 locs ls hP1 hD1 hS1 h)
theorem ge_init (X : EX C A cc nL own Ts R0) {y : MethodName} {wsy : List Cond} {rm : Room} {mc ms index maxL : Nat} {bytes : ByteArray} {e0 : va_E} {S : Type} {W1 : ClassId → ClassId → Nat → S → va_W} {post : S → Prop} {q : Nat} (hM : KN (cL C) y wsy rm mc ms e0 S W1 post) (isR : List Nat) (k : Nat) {wr : va_W}
    (cw : ∀ (s : State) (a : Array Value), (∀ w ∈ Ts, w.before a s = true) → CallB R0 s a own index y bytes maxL none wsy rm mc ms 0 ∧ y.name = "<init>" ∧ (Cond.instanceMethod y).before a s = true)
    (hC : [k].map (fun i => ws[i]?) = [(q, e0)].map some) (hRr : isR.map (fun i => ws[i]?) = wr.map some) (hn : va_nd isR = true) (hdis : ∀ i ∈ isR, i ∉ [k]) (hd : decode cc pc = .ok (.invokespecial index, 3)) (hcat : (st.map fun v => v.category).sum ≤ 8) (hcs : kc + mc ≤ R0.cells ∧ ks + ms ≤ R0.slots)
    (kk : ∀ u : S, post u → GE C A nL (kc + mc) (ks + ms) (pc + 3) L st (wr ++ W1 (cI C) (cJ C) q u)) : GE C A nL kc ks pc L (.ref q :: st) ws := by
  obtain ⟨hx, hb, hml, hown, hts, hK, hR, hA⟩ := X
  subst hR
  intro H locs ls hP hD hS h
  have hPc : va_P (cD C) vwCl [(q, e0)] H := fun k2 x hx2 => by
    have h1 : ([k].map (fun i => ws[i]?))[k2]? = some (some x) := by rw [hC, List.getElem?_map, hx2]; rfl
    rw [List.getElem?_map] at h1
    cases hi : [k][k2]? with
    | none => rw [hi] at h1; cases h1
    | some i => rw [hi] at h1; exact hP i x (Option.some.inj h1)
  have hFc := va_free (wc := [(q, e0)]) hD hS hA [k] hC
  refine va_callv (va_runI (As := []) (rest := st) ⟨hx, hb, hml, hown, hts⟩ (hM (cD C) (cI C) (cJ C) q H.size) (cw _ _ hts) ⟨fun a U g mk q => by obtain ⟨q0, q1, qP, qK⟩ := q; exact ⟨q0, q1, qP, va_K.moved (u := U) (U := U.calling g mk a) (Vm.Alike.refl U.vm) qK⟩, fun U hU hW => ⟨rfl, by rw [hU], by rw [hU]; exact hPc, va_K.moved hW.alike hK⟩⟩ rfl rfl h.1 rfl (lv_room hcat) hd hcs) hS (fun q _ h => hFc q h) hFc (fun u t H1 locs1 ht hvm hw hB hz1 hk1 hS1 => ?_)
  obtain ⟨hP1, hD1⟩ := hB
  rw [ht] at hP1
  obtain ⟨hP2, hD2⟩ := va_join (wr := wr) hP hD [k] isR hC hRr hn hdis hk1 hFc hP1 hD1
  exact kk u hw H1 locs1 ls hP2 hD2 hS1 h
theorem ge_astore_n (X : EX C A cc nL own Ts R0) {k : Fin 4} {i : Nat} {x : Nat} {L' : List (Nat × Value)} (hd : decode cc pc = .ok (.astore_n k, 1)) (hi : (k : Nat) = i) (hn : i < nL) (hl : (i, Value.ref x) :: L.filter (fun q => !(q.1 == i) && !(q.1 + 1 == i && q.2.category == 2)) = L') (kk : GE C A nL kc ks (pc + 1) L' st ws) : GE C A nL kc ks pc L (.ref x :: st) ws := by
  obtain ⟨hx, hb, -⟩ := X
  exact fun H locs ls hP hD hS h => lv_astore_n hx hb hd hi h hn hl (fun ls' h' => kk H locs ls' hP hD hS h')
theorem ge_istore (X : EX C A cc nL own Ts R0) {i : Nat} {x : Int32} {L' : List (Nat × Value)} (hd : decode cc pc = .ok (.istore i, 2)) (hn : i < nL) (hl : (i, Value.int x) :: L.filter (fun q => !(q.1 == i) && !(q.1 + 1 == i && q.2.category == 2)) = L') (kk : GE C A nL kc ks (pc + 2) L' st ws) : GE C A nL kc ks pc L (.int x :: st) ws := by
  obtain ⟨hx, hb, -⟩ := X
  exact fun H locs ls hP hD hS h => lv_istore hx hb hd h hn hl (fun ls' h' => kk H locs ls' hP hD hS h')
end EROWS
