/-! A contract with bounds of its own for the ordinary return (mn, sn) and for the throw (mc, ms); the laws follow the pasted vx_ laws. -/
section WXA
def wx_Q (Qc : Array Value → State → Outcome → State → Prop) (XC : String → State → State → Prop) (mn sn mc ms : Nat) (free : Addr → Prop) : Array Value → State → Outcome → State → Prop := fun a st o t =>
  (Qc a st o t ∧ ∃ L, FrameEnd st o t L mn sn ∧ ∀ q ∈ L, free q.base) ∨ ∃ q, o = .threw q ∧ vx_T XC st q t mc ms free
def wx_Met (l : Launch) (y : MethodName) (ws : List Cond) (rm : Room) (Pc : Array Value → State → Prop) (Qc : Array Value → State → Outcome → State → Prop) (XC : String → State → State → Prop) (mn sn mc ms : Nat) (free : Addr → Prop) : Prop :=
  MetFree l y (headSpec ws rm) Pc (fun _ _ _ _ _ => True) (wx_Q Qc XC mn sn mc ms free)
section Payer
variable {l : Launch} {R : Room} {p : Program} {e : Env} {below : List Frame} {s : State} {sargs : Array Value} {y : MethodName} {len W9 : Nat}
theorem wx_back {ws : List Cond} {rm : Room} {Pc : Array Value → State → Prop} {Qc : Array Value → State → Outcome → State → Prop} {XC : String → State → State → Prop} {mn sn mc ms : Nat} {free : Addr → Prop} {bytes : ByteArray} {maxL : Nat} {rt : Option FieldType}
    (hM : wx_Met l y ws rm Pc Qc XC mn sn mc ms free) (hblind : FrameBlind Pc) (hrc : rm.cells = mc) (hrs : rm.slots = ms)
    (hframes : rm.frames + 1 ≤ R.frames) (hlocals : W9 + (maxL + 11) + rm.locals ≤ R.locals)
    (hws : ∀ w ∈ ws, ∀ a' U, s.WarmedH U.vm → w.before a' U = true) (hcode : Cond.code y bytes maxL rt ∈ ws) (hinit : ∀ a' U, s.WarmedH U.vm → (Cond.initialized y.cls).before a' U = true) :
    vx_Back l R p e below s sargs y len W9 (PreOf R mc ms Pc) (PostOf Qc mn sn free) (vx_Post XC mc ms free) := by
  intro m meth c A g ig mk a X hg hsize hdg hW hn hp
  have h1 : (headSpec ws rm).pre.before a A.U = true := atoms_intro fun w hw => hws w hw _ _ X.warmed
  have h2 : (Cond.code y bytes maxL rt).before a A.U = true := hws _ hcode _ _ X.warmed
  have h3 : (Cond.initialized y.cls).before a A.U = true := hinit _ _ X.warmed
  have h4 : A.cells + (headSpec ws rm).room.cells ≤ R.cells := by rw [show (headSpec ws rm).room.cells = mc from hrc]; exact hp.1
  have h5 : A.slots + (headSpec ws rm).room.slots ≤ R.slots := by rw [show (headSpec ws rm).room.slots = ms from hrs]; exact hp.2.1
  have hPc : Pc a (A.U.calling g mk a) := hblind _ _ _ _ hp.2.2
  obtain ⟨U, Ls, c0, s0⟩ := A
  dsimp only [Pt.U, Pt.locs, Pt.cells, Pt.slots] at h1 h2 h3 h4 h5 X hn hPc ⊢
  obtain ⟨methY, cY, hmY, hcY, -, hlY, -, -, -, -⟩ := Cond.code_spec hn h2
  obtain ⟨kY, hkY, -⟩ := className_of_methodNamed hn
  have hinitY : kY.init = .initialized := Cond.initialized_spec (findClass_of_methodNamed hn) hkY h3
  have h : At U g.method c below := by rw [hg]; exact X.here
  have hlocals9 : W9 + (maxL + 11) + (headSpec ws rm).room.locals ≤ R.locals := hlocals
  have happ : (headSpec ws rm).appliesLoose y e.platform (U.calling g mk a) = true :=
    Spec.appliesLoose_calling (g := g) h hdg hn hkY hinitY
      (X.room_calling (g := g) (R' := (headSpec ws rm).room) hsize hmY hcY hframes (by rw [hlY]; omega) h4 h5) h1
  obtain ⟨mid, hmid⟩ := h.above
  have hfr : (U.setTop g).frames = (.java g :: mid) ++ below := by rw [State.frames_setTop' g h.top, hmid]; rfl
  obtain ⟨o, s₂, hsteps, -, hend, hq⟩ := Steps.callFree hM p X.admits X.cas X.clock (acts := []) hfr happ hPc trivial
  have hq' : wx_Q Qc XC mn sn mc ms free a (U.calling g mk a) o s₂ := hq
  rw [State.frames_setTop' g h.top] at hend
  obtain ⟨g₀, hg0⟩ := Option.isSome_iff_exists.mp h.top
  obtain ⟨r, hr⟩ := State.topJava?_eq_some.mp hg0
  have hr' : (({ U with heap := s₂.heap, slotsUsed := s₂.slotsUsed } : State).setVm s₂.vm).frames = .java g₀ :: r := hr
  rcases hq' with ⟨hqc, L, hfe, hL⟩ | ⟨q, rfl, E, ce, L, hx, hce, hcv, hcl, hW₂, hsm, hL⟩
  · obtain ⟨⟨v, rfl⟩, hW₂, e2, q2, q3, q4, q5, q6⟩ := id hfe
    have e3 : s₂ = ({ (U.calling g mk a).setFrames s₂.frames with heap := s₂.heap, slotsUsed := s₂.slotsUsed } : State).setVm s₂.vm := by
      have : s₂ = ({ s₂ with vm := (U.calling g mk a).vm } : State).setVm s₂.vm := rfl
      rw [e2] at this
      exact this
    obtain ⟨c₂, i₂, len₂, hc₂, hd₂, hf₂⟩ := hend
    have hW' : U.WarmedH s₂.vm := hW₂
    have hcc : c₂ = c := by
      have h1 : s₂.code? g.method = U.code? g.method := by
        rw [State.code?_eq, State.code?_eq, hW'.alike.method?]
      exact Option.some.inj (hc₂.symm.trans (h1.trans h.code))
    subst hcc
    have hlen : len₂ = len := by rw [hdg] at hd₂; cases hd₂; rfl
    subst hlen
    have hs₂ : s₂ = (({ U with heap := s₂.heap, slotsUsed := s₂.slotsUsed } : State).setVm s₂.vm).setTop { g with pc := g.pc + len₂, stack := v.toList ++ g.stack } := by
      refine e3.trans ?_
      rw [hf₂, State.calling_eq h.top, State.setFrames_setFrames, State.setTop_of_frames _ hr', hr]
      rfl
    have hsame : U.sameButNew ({ U with heap := s₂.heap, slotsUsed := s₂.slotsUsed } : State) L mn sn := by
      refine ⟨?_, q2, q3, q4, q5, q6⟩
      obtain ⟨t, ht, -⟩ := State.frames_cons hr
      show ({ U with heap := s₂.heap, slotsUsed := s₂.slotsUsed } : State) = { U.setFrames U.frames with heap := s₂.heap, slotsUsed := s₂.slotsUsed }
      rw [State.setFrames_self ht]
    subst hg
    refine Or.inl ⟨v, ⟨(({ U with heap := s₂.heap, slotsUsed := s₂.slotsUsed } : State).setVm s₂.vm), Ls ++ L, c0 + mn, s0 + sn⟩,
      ⟨X.admits, X.cas, X.clock, X.frames, X.room, X.hears, X.method, X.code, (X.here.setHeapUsed s₂.heap s₂.slotsUsed).setVm hW'.alike, X.tail, State.WarmedH.trans X.warmed hW', X.limits, X.bytes, X.same.trans (hsame.setVm s.vm)⟩,
      ⟨g, mk, s₂, L, rfl, rfl, hqc, rfl, hL, rfl, rfl⟩, ?_⟩
    show Steps p.tables e below _ ((({ U with heap := s₂.heap, slotsUsed := s₂.slotsUsed } : State).setVm s₂.vm).setTop { g with pc := g.pc + len₂, stack := v.toList ++ g.stack })
    rw [← hs₂]
    exact hsteps
  · obtain ⟨e2, q2, q3, q4, q5, q6⟩ := id hsm
    have e3 : s₂ = ({ (U.calling g mk a).setFrames s₂.frames with heap := s₂.heap, slotsUsed := s₂.slotsUsed } : State).setVm s₂.vm := by
      have : s₂ = ({ s₂ with vm := (U.calling g mk a).vm } : State).setVm s₂.vm := rfl
      rw [e2] at this
      exact this
    have hf₂ : s₂.frames = .throwing q :: .java g :: U.frames.tail := hend
    have hW' : U.WarmedH s₂.vm := hW₂
    have hs₂ : s₂ = ((({ U with heap := s₂.heap, slotsUsed := s₂.slotsUsed } : State).setVm s₂.vm).setTop g).pushFrame (.throwing q) := by
      refine e3.trans ?_
      rw [hf₂, State.calling_eq h.top, State.setFrames_setFrames, State.pushFrame, State.frames_setTop _ hr', State.setTop_of_frames _ hr', State.setFrames_setFrames, hr]
      rfl
    have hsame : U.sameButNew ({ U with heap := s₂.heap, slotsUsed := s₂.slotsUsed } : State) L mc ms := by
      refine ⟨?_, q2, q3, q4, q5, q6⟩
      obtain ⟨t, ht, -⟩ := State.frames_cons hr
      show ({ U with heap := s₂.heap, slotsUsed := s₂.slotsUsed } : State) = { U.setFrames U.frames with heap := s₂.heap, slotsUsed := s₂.slotsUsed }
      rw [State.setFrames_self ht]
    subst hg
    refine Or.inr ⟨q, ⟨(({ U with heap := s₂.heap, slotsUsed := s₂.slotsUsed } : State).setVm s₂.vm), Ls ++ L, c0 + mc, s0 + ms⟩,
      ⟨X.admits, X.cas, X.clock, X.frames, X.room, X.hears, X.method, X.code, (X.here.setHeapUsed s₂.heap s₂.slotsUsed).setVm hW'.alike, X.tail, State.WarmedH.trans X.warmed hW', X.limits, X.bytes, X.same.trans (hsame.setVm s.vm)⟩,
      ⟨g, mk, s₂, L, E, ce, rfl, rfl, hx, hce, hcv, hcl, rfl, hL, rfl, rfl⟩, ?_⟩
    show Steps p.tables e below _ (((({ U with heap := s₂.heap, slotsUsed := s₂.slotsUsed } : State).setVm s₂.vm).setTop g).pushFrame (.throwing q))
    rw [← hs₂]
    exact hsteps
end Payer
end WXA
/-! The one world that all methods share: 37 cells of one object at addresses 'ad k'; what they hold is a memory of ints and longs. -/
abbrev Mem : Type := (Nat → Nat → Int32) × (Nat → Nat → Int64)
def wI (σ : Mem) (k i : Nat) (v : Int32) : Mem := (fun a => if a = k then upd (σ.1 k) i v else σ.1 a, σ.2)
def wJ (σ : Mem) (k i : Nat) (v : Int64) : Mem := (σ.1, fun a => if a = k then vp_updL (σ.2 k) i v else σ.2 a)
def rI (σ : Mem) (k i : Nat) : Int32 := σ.1 k i
def rJ (σ : Mem) (k i : Nat) : Int64 := σ.2 k i
def ix (i : Int32) : Nat := i.toNatClampNeg
def inb (i : Int32) (n : Nat) : Bool := decide (0 ≤ i.toInt) && decide (i.toInt < n)
def grd {α : Type} (b : Bool) (x : Option α) : Option α := if b = true then x else none
def bnd {α β : Type} (x : Option (α × Mem)) (f : α → Mem → Option β) : Option β := match x with
  | none => none
  | some r => f r.1 r.2
def bndX {α β : Type} (x : Option (Sum α Nat × Mem)) (f : α → Mem → Option (Sum β Nat × Mem)) : Option (Sum β Nat × Mem) := match x with
  | none => none
  | some (.inl v, σ) => f v σ
  | some (.inr n, σ) => some (.inr n, σ)
theorem grd_some {α : Type} {b : Bool} {x : Option α} {r : α} (h : grd b x = some r) : b = true ∧ x = some r := by
  unfold grd at h
  split at h
  · rename_i hb; exact ⟨hb, h⟩
  · cases h
theorem bnd_some {α β : Type} {x : Option (α × Mem)} {f : α → Mem → Option β} {r : β} (h : bnd x f = some r) : ∃ v σ, x = some (v, σ) ∧ f v σ = some r := by
  unfold bnd at h
  split at h
  · cases h
  · rename_i q; exact ⟨q.1, q.2, rfl, h⟩
theorem bndX_some {α β : Type} {x : Option (Sum α Nat × Mem)} {f : α → Mem → Option (Sum β Nat × Mem)} {r : Sum β Nat × Mem} (h : bndX x f = some r) : (∃ v σ, x = some (.inl v, σ) ∧ f v σ = some r) ∨ ∃ n σ, x = some (.inr n, σ) ∧ r = (.inr n, σ) := by
  unfold bndX at h
  split at h
  · cases h
  · rename_i v σ; exact Or.inl ⟨v, σ, rfl, h⟩
  · rename_i n σ; exact Or.inr ⟨n, σ, rfl, (Option.some.inj h).symm⟩
theorem inb_in {i : Int32} {n : Nat} (h : inb i n = true) : vp_in i n := by
  simp only [inb, Bool.and_eq_true, decide_eq_true_eq] at h
  exact vp_in_iff.mpr h
def kiL : List Nat := [1, 2, 5, 5, 2, 5, 5, 5, 5, 5, 5, 5, 5, 3, 5, 5, 5, 5, 5, 6, 6, 6, 5, 5, 3, 5, 5, 5, 5, 5, 6, 6, 6, 5, 5, 5, 5]
def lnL : List Nat := [0, 0, 5, 5, 0, 5, 5, 25, 25, 25, 200, 5, 5, 0, 5, 5, 25, 25, 25, 25, 5, 5, 5, 5, 0, 5, 5, 25, 25, 25, 25, 5, 5, 5, 5, 25, 25]
def ki (k : Nat) : Nat := kiL.getD k 0
def ln (k : Nat) : Nat := lnL.getD k 0
theorem ki_lt {k : Nat} (h : ki k ≠ 0) : k < 37 := by
  rcases Nat.lt_or_ge k 37 with q | q
  · exact q
  · exact absurd (by unfold ki; rw [List.getD_eq_getElem?_getD, List.getElem?_eq_none (by simpa [kiL] using q)]; rfl) h
def xFs (ad : Nat → Nat) (f : Nat → Int32) : List Value := [.ref (ad 1), .ref (ad 4), .ref (ad 7), .ref (ad 8), .ref (ad 9), .ref (ad 10), .ref (ad 11), .ref (ad 12), .ref (ad 13), .ref (ad 24), .int (f 10), .int (f 11), .int (f 12), .int (f 13), .int (f 14)]
def sFs (k : Nat) (ad : Nat → Nat) (f : Nat → Int32) : List Value := [.ref (ad (k + 1)), .ref (ad (k + 2)), .int (f 2)]
def pFs (k : Nat) (ad : Nat → Nat) (f : Nat → Int32) : List Value := [.ref (ad (k + 1)), .ref (ad (k + 2)), .ref (ad (k + 3)), .ref (ad (k + 4)), .int (f 4), .ref (ad (34 + k / 12)), .ref (ad (k + 5)), .ref (ad (k + 6)), .ref (ad (k + 7)), .ref (ad (k + 8)), .ref (ad (k + 9)), .ref (ad (k + 10)), .int (f 12), .int (f 13), .int (f 14)]
def entK (cI cJ : ClassId) (ad : Nat → Nat) (kind n k : Nat) (f : Nat → Int32) (g : Nat → Int64) : va_E := match kind with
  | 1 => .inr (2, xFs ad f)
  | 2 => .inr (1, sFs k ad f)
  | 3 => .inr (0, pFs k ad f)
  | 5 => .inl (cI, n, .inl f)
  | _ => .inl (cJ, n, .inr (.inl g))
def ent (cI cJ : ClassId) (ad : Nat → Nat) (σ : Mem) (k : Nat) : va_E := entK cI cJ ad (ki k) (ln k) k (σ.1 k) (σ.2 k)
def WS (cI cJ : ClassId) (ad : Nat → Nat) (σ : Mem) : va_W := (List.range 37).map (fun k => (ad k, ent cI cJ ad σ k))
theorem WS_get (cI cJ : ClassId) (ad : Nat → Nat) (σ : Mem) {k : Nat} (h : k < 37) : (WS cI cJ ad σ)[k]? = some (ad k, ent cI cJ ad σ k) := by
  unfold WS
  rw [List.getElem?_map, List.getElem?_range h]
  rfl
theorem WS_set (cI cJ : ClassId) (ad : Nat → Nat) (σ σ' : Mem) {k : Nat} {e : va_E} (h : k < 37) (he : ent cI cJ ad σ' k = e) (ho : ∀ j, j ≠ k → σ'.1 j = σ.1 j ∧ σ'.2 j = σ.2 j) : (WS cI cJ ad σ).set k (ad k, e) = WS cI cJ ad σ' := by
  apply List.ext_getElem?
  intro j
  by_cases hjk : j = k
  · subst hjk
    rw [List.getElem?_set_self (by simpa [WS] using h), WS_get cI cJ ad σ' h, he]
  · rw [List.getElem?_set_ne (Ne.symm hjk)]
    by_cases hj : j < 37
    · rw [WS_get cI cJ ad σ hj, WS_get cI cJ ad σ' hj]
      unfold ent
      rw [(ho j hjk).1, (ho j hjk).2]
    · rw [List.getElem?_eq_none (by simpa [WS] using hj), List.getElem?_eq_none (by simpa [WS] using hj)]
theorem wI_self (σ : Mem) (k i : Nat) (v : Int32) : (wI σ k i v).1 k = upd (σ.1 k) i v := by simp [wI]
theorem wI_ne (σ : Mem) {k j : Nat} (i : Nat) (v : Int32) (h : j ≠ k) : (wI σ k i v).1 j = σ.1 j ∧ (wI σ k i v).2 j = σ.2 j := by simp [wI, h]
theorem wJ_self (σ : Mem) (k i : Nat) (v : Int64) : (wJ σ k i v).2 k = vp_updL (σ.2 k) i v := by simp [wJ]
theorem wJ_ne (σ : Mem) {k j : Nat} (i : Nat) (v : Int64) (h : j ≠ k) : (wJ σ k i v).1 j = σ.1 j ∧ (wJ σ k i v).2 j = σ.2 j := by simp [wJ, h]
theorem ent_5 (cI cJ : ClassId) (ad : Nat → Nat) (σ : Mem) {k n : Nat} (h : ki k = 5) (hn : ln k = n) : ent cI cJ ad σ k = .inl (cI, n, .inl (σ.1 k)) := by
  unfold ent; rw [h, hn]; rfl
theorem ent_6 (cI cJ : ClassId) (ad : Nat → Nat) (σ : Mem) {k n : Nat} (h : ki k = 6) (hn : ln k = n) : ent cI cJ ad σ k = .inl (cJ, n, .inr (.inl (σ.2 k))) := by
  unfold ent; rw [h, hn]; rfl
/-- cell k is an object: of the class at ci, fields fs -/
def OBJ (k ci : Nat) (fs : (Nat → Nat) → (Nat → Int32) → List Value) : Prop := k < 37 ∧ ∀ cI cJ ad σ, ent cI cJ ad σ k = .inr (ci, fs ad (σ.1 k))
theorem obj_x : OBJ 0 2 xFs := ⟨by decide, fun _ _ _ _ => rfl⟩
theorem obj_s {k : Nat} (h : ki k = 2) : OBJ k 1 (sFs k) := ⟨ki_lt (by omega), fun cI cJ ad σ => by unfold ent; rw [h]; rfl⟩
theorem obj_p {k : Nat} (h : ki k = 3) : OBJ k 0 (pFs k) := ⟨ki_lt (by omega), fun cI cJ ad σ => by unfold ent; rw [h]; rfl⟩
theorem ki_3 {k : Nat} (h : ki k = 3) : k = 13 ∨ k = 24 := by
  have hlt := ki_lt (k := k) (by omega)
  have key : ∀ j, j < 37 → ki j = 3 → j = 13 ∨ j = 24 := by decide +kernel
  exact key k hlt h
theorem ki_2 {k : Nat} (h : ki k = 2) : k = 1 ∨ k = 4 := by
  have hlt := ki_lt (k := k) (by omega)
  have key : ∀ j, j < 37 → ki j = 2 → j = 1 ∨ j = 4 := by decide +kernel
  exact key k hlt h
theorem pk1 {k : Nat} (h : ki k = 3) : ki (k + 1) = 5 := by rcases ki_3 h with rfl | rfl <;> rfl
theorem pk2 {k : Nat} (h : ki k = 3) : ki (k + 2) = 5 := by rcases ki_3 h with rfl | rfl <;> rfl
theorem pk3 {k : Nat} (h : ki k = 3) : ki (k + 3) = 5 := by rcases ki_3 h with rfl | rfl <;> rfl
theorem pk4 {k : Nat} (h : ki k = 3) : ki (k + 4) = 5 := by rcases ki_3 h with rfl | rfl <;> rfl
theorem pk5 {k : Nat} (h : ki k = 3) : ki (k + 5) = 5 := by rcases ki_3 h with rfl | rfl <;> rfl
theorem pk6 {k : Nat} (h : ki k = 3) : ki (k + 6) = 6 := by rcases ki_3 h with rfl | rfl <;> rfl
theorem pk7 {k : Nat} (h : ki k = 3) : ki (k + 7) = 6 := by rcases ki_3 h with rfl | rfl <;> rfl
theorem pk8 {k : Nat} (h : ki k = 3) : ki (k + 8) = 6 := by rcases ki_3 h with rfl | rfl <;> rfl
theorem pk9 {k : Nat} (h : ki k = 3) : ki (k + 9) = 5 := by rcases ki_3 h with rfl | rfl <;> rfl
theorem pk10 {k : Nat} (h : ki k = 3) : ki (k + 10) = 5 := by rcases ki_3 h with rfl | rfl <;> rfl
theorem pk11 {k : Nat} (h : ki k = 3) : ki (34 + k / 12) = 5 := by rcases ki_3 h with rfl | rfl <;> rfl
theorem pl1 {k : Nat} (h : ki k = 3) : ln (k + 1) = 5 := by rcases ki_3 h with rfl | rfl <;> rfl
theorem pl2 {k : Nat} (h : ki k = 3) : ln (k + 2) = 5 := by rcases ki_3 h with rfl | rfl <;> rfl
theorem pl3 {k : Nat} (h : ki k = 3) : ln (k + 3) = 25 := by rcases ki_3 h with rfl | rfl <;> rfl
theorem pl4 {k : Nat} (h : ki k = 3) : ln (k + 4) = 25 := by rcases ki_3 h with rfl | rfl <;> rfl
theorem pl5 {k : Nat} (h : ki k = 3) : ln (k + 5) = 25 := by rcases ki_3 h with rfl | rfl <;> rfl
theorem pl6 {k : Nat} (h : ki k = 3) : ln (k + 6) = 25 := by rcases ki_3 h with rfl | rfl <;> rfl
theorem pl7 {k : Nat} (h : ki k = 3) : ln (k + 7) = 5 := by rcases ki_3 h with rfl | rfl <;> rfl
theorem pl8 {k : Nat} (h : ki k = 3) : ln (k + 8) = 5 := by rcases ki_3 h with rfl | rfl <;> rfl
theorem pl9 {k : Nat} (h : ki k = 3) : ln (k + 9) = 5 := by rcases ki_3 h with rfl | rfl <;> rfl
theorem pl10 {k : Nat} (h : ki k = 3) : ln (k + 10) = 5 := by rcases ki_3 h with rfl | rfl <;> rfl
theorem pl11 {k : Nat} (h : ki k = 3) : ln (34 + k / 12) = 25 := by rcases ki_3 h with rfl | rfl <;> rfl
theorem sk1 {k : Nat} (h : ki k = 2) : ki (k + 1) = 5 := by rcases ki_2 h with rfl | rfl <;> rfl
theorem sk2 {k : Nat} (h : ki k = 2) : ki (k + 2) = 5 := by rcases ki_2 h with rfl | rfl <;> rfl
theorem sl1 {k : Nat} (h : ki k = 2) : ln (k + 1) = 5 := by rcases ki_2 h with rfl | rfl <;> rfl
theorem sl2 {k : Nat} (h : ki k = 2) : ln (k + 2) = 5 := by rcases ki_2 h with rfl | rfl <;> rfl
/-- which cells a method may change: the world's, and those behind -/
def AA (ad : Nat → Nat) (sz : Nat) : Nat → Prop := fun q => (∃ k, k < 37 ∧ q = ad k) ∨ sz ≤ q
theorem WS_D {cI cJ : ClassId} {ad : Nat → Nat} (σ : Mem) {sz : Nat} (hi : ∀ i j, i < 37 → j < 37 → ad i = ad j → i = j) : va_D (AA ad sz) (WS cI cJ ad σ) := by
  have key : ∀ (k : Nat) (q : Nat × va_E), (WS cI cJ ad σ)[k]? = some q → k < 37 ∧ q.1 = ad k := by
    intro k q hk
    have hlt : k < 37 := by
      have := (List.getElem?_eq_some_iff.mp hk).1
      simpa [WS] using this
    rw [WS_get cI cJ ad σ hlt] at hk
    cases hk
    exact ⟨hlt, rfl⟩
  refine ⟨fun i j p q h1 h2 h => ?_, fun k q hk => ?_⟩
  · obtain ⟨a1, a2⟩ := key i p h1
    obtain ⟨b1, b2⟩ := key j q h2
    exact hi i j a1 b1 (by rw [← a2, ← b2]; exact h)
  · obtain ⟨a1, a2⟩ := key k q hk
    exact Or.inl ⟨k, a1, a2⟩
def iIO : String := "java/lang/IndexOutOfBoundsException"
def iIA : String := "java/lang/IllegalArgumentException"
def iIS : String := "java/lang/IllegalStateException"
/-- the exceptions by number -/
def exc (n : Nat) : String := match n with
  | 0 => iIO
  | 1 => iIA
  | _ => iIS
def ngw : List Cond := [.castable iIO iIO, .castable iIA iIA, .castable iIS iIS]
def ngd : List MethodName := [Bundle.initS "java/lang/RuntimeException", Bundle.initS "java/lang/Exception", Bundle.initS "java/lang/Throwable"]
def strs : List (Nat × String) := [(211, "out of range"), (226, "no more than 5"), (220, "no such heap or hole"), (124, "too many plans to try"), (176, "not to be carried by order"), (192, "no plan by hand"), (194, "no heaps")]
def ncs : List (String × String) := [(iIO, iIA), (iIO, iIS), (iIA, iIO), (iIA, iIS), (iIS, iIO), (iIS, iIA)]
/-- what holds of the tables and of what nobody writes, beside the good words -/
def KF (ad : Nat → Nat) (sz : Nat) (U : State) (H : Heap) : Prop :=
  va_Nw (.methodLinkNest RX0 84 yX2_wayOf RX2) U ∧ (va_Nw (.castable iIO iIO) U ∧ va_Nw (.castable iIA iIA) U ∧ va_Nw (.castable iIS iIS) U) ∧ (∀ x ∈ ngd, va_Nw (.declares x) U) ∧
  (∀ q ∈ strs, ∃ a, vk_R RX2 q.1 q.2 a U) ∧ (∀ q ∈ ncs, va_Nc q.1 q.2 U) ∧
  vx_Zq Bundle.tN "UNASSIGNED_STACK" Bundle.steD (AA ad sz) U H ∧ vx_Zq Bundle.tN "SUPPRESSED_SENTINEL" Bundle.listD (AA ad sz) U H
theorem KF.same {ad : Nat → Nat} {sz : Nat} {u U : State} {H : Heap} (hv : u.vm = U.vm) (h : KF ad sz u H) : KF ad sz U H := by
  obtain ⟨h1, ⟨c1, c2, c3⟩, h3, h4, h5, h6, h7⟩ := h
  have hal : u.vm.Alike U.vm := hv ▸ Vm.Alike.refl u.vm
  exact ⟨va_Nw.same rfl hv h1, ⟨va_Nw.same rfl hv c1, va_Nw.same rfl hv c2, va_Nw.same rfl hv c3⟩, fun x hx => va_Nw.same rfl hv (h3 x hx), fun q hq => by obtain ⟨a, ha⟩ := h4 q hq; exact ⟨a, vk_R.same hv.symm ha⟩, fun q hq => va_Nc.moved hal (h5 q hq), vx_Zq.moved hal h6, vx_Zq.moved hal h7⟩
theorem KF.warm {ad : Nat → Nat} {sz : Nat} {s U : State} {H : Heap} (hW : s.WarmedH U.vm) (h : KF ad sz s H) : KF ad sz U H := by
  obtain ⟨h1, ⟨c1, c2, c3⟩, h3, h4, h5, h6, h7⟩ := h
  exact ⟨va_Nw.warmM hW h1, ⟨va_Nw.warmC hW c1, va_Nw.warmC hW c2, va_Nw.warmC hW c3⟩, fun x hx => va_Nw.warmD hW (h3 x hx), fun q hq => by obtain ⟨a, ha⟩ := h4 q hq; exact ⟨a, vk_R.warm hW ha⟩, fun q hq => va_Nc.moved hW.alike (h5 q hq), vx_Zq.moved hW.alike h6, vx_Zq.moved hW.alike h7⟩
theorem KF.on {ad : Nat → Nat} {sz sz1 : Nat} {U : State} {H H1 : Heap} (hq : ∀ a : Nat, a < H.size → ¬ AA ad sz a → H1[a]? = H[a]?) (hz : sz ≤ sz1) (h : KF ad sz U H) : KF ad sz1 U H1 := by
  obtain ⟨h1, h2, h3, h4, h5, h6, h7⟩ := h
  have hA : ∀ q, AA ad sz1 q → AA ad sz q := fun q hq => hq.elim Or.inl (fun h => Or.inr (Nat.le_trans hz h))
  exact ⟨h1, h2, h3, h4, h5, (vx_Zq.kept h6 hq).narrow hA, (vx_Zq.kept h7 hq).narrow hA⟩
/-! ## The judgement over the memory -/
abbrev Ctx : Type := (Program × Launch × Env × Room × State × MethodId × Array Value × List Frame × Method × Code) × (va_G × ClassId × ClassId × (Nat → Nat)) × (State → Prop)
def cP (C : Ctx) : Program := C.1.1
def cL (C : Ctx) : Launch := C.1.2.1
def cE (C : Ctx) : Env := C.1.2.2.1
def cR (C : Ctx) : Room := C.1.2.2.2.1
def cS (C : Ctx) : State := C.1.2.2.2.2.1
def cM (C : Ctx) : MethodId := C.1.2.2.2.2.2.1
def cA (C : Ctx) : Array Value := C.1.2.2.2.2.2.2.1
def cB (C : Ctx) : List Frame := C.1.2.2.2.2.2.2.2.1
def cMe (C : Ctx) : Method := C.1.2.2.2.2.2.2.2.2.1
def cC (C : Ctx) : Code := C.1.2.2.2.2.2.2.2.2.2
def cD (C : Ctx) : va_G := C.2.1.1
def cI (C : Ctx) : ClassId := C.2.1.2.1
def cJ (C : Ctx) : ClassId := C.2.1.2.2.1
def adr (C : Ctx) : Nat → Nat := C.2.1.2.2.2
def cQ (C : Ctx) : State → Prop := C.2.2
abbrev WC (C : Ctx) (H : Heap) (locs : List Loc) (kc ks : Nat) (g : JFrame) : Prop := W (cP C) (cL C) (cE C) (cR C) (cS C) (cM C) (cA C) (cB C) (cMe C) (cC C) H locs kc ks (cQ C) g
def G (C : Ctx) (nL kc ks pc : Nat) (L : List (Nat × Value)) (st : List Value) (σ : Mem) : Prop :=
  ∀ (H : Heap) (locs : List Loc) (ls : Array Slot), va_P (cD C) vwCl (WS (cI C) (cJ C) (adr C) σ) H → va_S (AA (adr C) (cS C).heap.size) (cS C).heap H locs → lv_has ls nL L → WC C H locs kc ks (F0 (cM C) pc ls st)
/-- an exception of class E leaves the instruction at pc -/
def GX (C : Ctx) (nL kc ks pc : Nat) (L : List (Nat × Value)) (st : List Value) (E : String) (σ : Mem) : Prop :=
  ∀ (H : Heap) (locs : List Loc) (ls : Array Slot) (q : Addr) (ce : Cell), va_P (cD C) vwCl (WS (cI C) (cJ C) (adr C) σ) H → va_S (AA (adr C) (cS C).heap.size) (cS C).heap H locs → (cS C).heap.size < H.size → lv_has ls nL L → H[q]? = some ce → ce.vm = .none → (cS C).vm.findClass E = some ce.cls →
    vx_W (cP C) (cL C) (cE C) (cR C) (cS C) (cM C) (cA C) (cB C) (cMe C) (cC C) H locs kc ks (cQ C) (F0 (cM C) pc ls st) q
def inj37 (ad : Nat → Nat) : Prop := ∀ i j, i < 37 → j < 37 → ad i = ad j → i = j
/-- what holds all through a method's body -/
def CX (C : Ctx) (cc : ByteArray) (nL : Nat) (own : String) (Ts : List Cond) (R0 : Room) (ret : Option FieldType) : Prop :=
  (cP C).tables.exec = Jvm.exec ∧ (cC C).code = cc ∧ (cC C).maxLocals = nL ∧ (cS C).vm.findClass own = some (cM C).cls ∧ (∀ w ∈ Ts, w.before (cA C) (cS C) = true) ∧
  va_K (cD C) vwCl [(cI C, .int), (cJ C, .long)] (cS C) ∧ inj37 (adr C) ∧ cR C = R0 ∧ (cMe C).locks = false ∧ KF (adr C) (cS C).heap.size (cS C) (cS C).heap ∧ (cL C).stackTraces = false ∧ (cMe C).sig.returnType = ret
def Pre (D : va_G) (cI cJ : ClassId) (ad : Nat → Nat) (σ : Mem) (sz : Nat) (U : State) : Prop := U.heap.size = sz ∧ va_P D vwCl (WS cI cJ ad σ) U.heap ∧ va_K D vwCl [(cI, .int), (cJ, .long)] U ∧ inj37 ad ∧ KF ad sz U U.heap
def QN (D : va_G) (cI cJ : ClassId) (ad : Nat → Nat) (sz : Nat) (post : Option Value → Mem → Prop) : Array Value → State → Outcome → State → Prop := fun _ st o t => (∃ (v : Option Value) (σ' : Mem), o = .returned v ∧ post v σ' ∧ va_P D vwCl (WS cI cJ ad σ') t.heap) ∧ va_F (AA ad sz) st t
def QX (D : va_G) (cI cJ : ClassId) (ad : Nat → Nat) (sz : Nat) (px : String → Mem → Prop) : String → State → State → Prop := fun E st t => (∃ σ' : Mem, px E σ' ∧ va_P D vwCl (WS cI cJ ad σ') t.heap) ∧ va_F (AA ad sz) st t ∧ st.heap.size < t.heap.size
/-- a method's contract: from the memory σ it returns or throws, as 'post' and 'px' say -/
def KT (l : Launch) (y : MethodName) (ws : List Cond) (rm : Room) (mx sx : Nat) (As : (Nat → Nat) → List Value) (σ : Mem) (post : (Nat → Nat) → Option Value → Mem → Prop) (px : String → Mem → Prop) : Prop :=
  l.stackTraces = false → ∀ (D : va_G) (cI cJ : ClassId) (ad : Nat → Nat) (sz : Nat), wx_Met l y ws rm (va_Pc (As ad) (Pre D cI cJ ad σ sz)) (QN D cI cJ ad sz (post ad)) (QX D cI cJ ad sz px) 0 0 mx sx (AA ad sz)
theorem Pre_blind {As : List Value} {D : va_G} {cI cJ : ClassId} {ad : Nat → Nat} {σ : Mem} {sz : Nat} : FrameBlind (va_Pc As (Pre D cI cJ ad σ sz)) := fun a U g mk q => by
  obtain ⟨q0, q1, q2, q3, q4, q5⟩ := q
  exact ⟨q0, q1, q2, va_K.moved (u := U) (U := U.calling g mk a) (Vm.Alike.refl U.vm) q3, q4, KF.same (u := U) (U := U.calling g mk a) rfl q5⟩
section CALLS
variable {C : Ctx} {cc : ByteArray} {nL : Nat} {own : String} {Ts : List Cond} {R0 : Room} {ret : Option FieldType}
variable {kc ks pc index n mx sx maxL : Nat} {L : List (Nat × Value)} {st rest vs : List Value} {σ : Mem}
variable {y : MethodName} {ws : List Cond} {rm : Room} {As : (Nat → Nat) → List Value} {post : (Nat → Nat) → Option Value → Mem → Prop} {px : String → Mem → Prop} {bytes : ByteArray} {rt : Option FieldType} {Cn : String}
theorem g_after {H : Heap} {locs : List Loc} {ls : Array Slot} {T : State} {v : Option Value} {U' : State} {L' : List Loc} {vm₁ : Vm} {g' : JFrame} {mk : MethodId} {a : Array Value} {t : State}
    (hT : T.heap = H) (hS : va_S (AA (adr C) (cS C).heap.size) (cS C).heap H locs) (h : lv_has ls nL L)
    (X' : Stand (cP C) (cL C) (cE C) (cR C) (cS C) (cM C) (cA C) (cB C) (cMe C) (cC C) U' (locs ++ L') kc ks) (e1 : U'.heap = t.heap) (hL : ∀ q ∈ L', AA (adr C) H.size q.base)
    (hq : QN (cD C) (cI C) (cJ C) (adr C) H.size (post (adr C)) a ((T.setVm vm₁).calling g' mk a) (.returned v) t)
    (hst : ∀ tg, Steps (cP C).tables (cE C) (cB C) (U'.setTop (F0 (cM C) (pc + 3) ls (v.toList ++ rest))) tg → Steps (cP C).tables (cE C) (cB C) (T.setTop (F0 (cM C) pc ls st)) tg)
    (kk : ∀ (v : Option Value) (σ' : Mem), post (adr C) v σ' → G C nL kc ks (pc + 3) L (v.toList ++ rest) σ') :
    ∃ tg, Steps (cP C).tables (cE C) (cB C) (T.setTop (F0 (cM C) pc ls st)) tg ∧ cQ C tg := by
  obtain ⟨⟨v', σ', hv, hp, hP1⟩, hF⟩ := hq
  cases hv
  have hA : ∀ q, AA (adr C) H.size q → AA (adr C) (cS C).heap.size q := fun q hq => hq.elim Or.inl (fun h => Or.inr (Nat.le_trans hS.1 h))
  obtain ⟨k1, k2, k3⟩ := vx_keep (H := H) (A0 := AA (adr C) (cS C).heap.size) (A1 := AA (adr C) H.size) (free := AA (adr C) H.size) (L := L') (T' := U') hT e1 hS (fun q _ h => hA q h) hA hL hF
  obtain ⟨t2, a1, b1⟩ := kk v σ' hp U'.heap (locs ++ L') ls (by rw [e1]; exact hP1) k3 h U' rfl X'
  exact ⟨t2, hst t2 a1, b1⟩
theorem g_afterX {H : Heap} {locs : List Loc} {ls : Array Slot} {T : State} {U' : State} {L' : List Loc} {vm₁ : Vm} {g' : JFrame} {mk : MethodId} {a : Array Value} {t : State} {q : Addr} {E : String} {ce : Cell}
    (hT : T.heap = H) (hS : va_S (AA (adr C) (cS C).heap.size) (cS C).heap H locs) (h : lv_has ls nL L)
    (X' : Stand (cP C) (cL C) (cE C) (cR C) (cS C) (cM C) (cA C) (cB C) (cMe C) (cC C) U' (locs ++ L') kc ks) (e1 : U'.heap = t.heap) (hL : ∀ q ∈ L', AA (adr C) H.size q.base)
    (hq : QX (cD C) (cI C) (cJ C) (adr C) H.size px E ((T.setVm vm₁).calling g' mk a) t) (hce : t.heap[q]? = some ce) (hcv : ce.vm = .none) (hcl : (cS C).vm.findClass E = some ce.cls)
    (hst : Steps (cP C).tables (cE C) (cB C) (T.setTop (F0 (cM C) pc ls st)) ((U'.setTop (F0 (cM C) pc ls rest)).pushFrame (.throwing q)))
    (kx : ∀ (E : String) (σ' : Mem), px E σ' → GX C nL kc ks pc L rest E σ') :
    ∃ tg, Steps (cP C).tables (cE C) (cB C) (T.setTop (F0 (cM C) pc ls st)) tg ∧ cQ C tg := by
  obtain ⟨⟨σ', hp, hP1⟩, hF, hgr⟩ := hq
  have hgr : T.heap.size < t.heap.size := hgr
  have hA : ∀ q, AA (adr C) H.size q → AA (adr C) (cS C).heap.size q := fun q hq => hq.elim Or.inl (fun h => Or.inr (Nat.le_trans hS.1 h))
  obtain ⟨k1, k2, k3⟩ := vx_keep (H := H) (A0 := AA (adr C) (cS C).heap.size) (A1 := AA (adr C) H.size) (free := AA (adr C) H.size) (L := L') (T' := U') hT e1 hS (fun q _ h => hA q h) hA hL hF
  obtain ⟨t2, a1, b1⟩ := kx E σ' hp U'.heap (locs ++ L') ls q ce (by rw [e1]; exact hP1) k3 (by have := hS.1; rw [e1]; rw [hT] at hgr; omega) h (by rw [e1]; exact hce) hcv hcl U' rfl X'
  exact ⟨t2, hst.trans a1, b1⟩
theorem g_pre (X : CX C cc nL own Ts R0 ret) {H : Heap} {locs : List Loc} (hP : va_P (cD C) vwCl (WS (cI C) (cJ C) (adr C) σ) H) (hS : va_S (AA (adr C) (cS C).heap.size) (cS C).heap H locs) (U : State) (hU : U.heap = H) (hW : (cS C).WarmedH U.vm) : Pre (cD C) (cI C) (cJ C) (adr C) σ H.size U := by
  obtain ⟨hx, hb, hml, hown, hts, hK, hinj, hR, hlk, hKF, htr, hret⟩ := X
  have hKF1 : KF (adr C) H.size (cS C) H := KF.on (fun a h1 h2 => hS.2.1 a h1 h2) hS.1 hKF
  exact ⟨by rw [hU], by rw [hU]; exact hP, va_K.moved hW.alike hK, hinj, by rw [hU]; exact hKF1.warm hW⟩
theorem g_callV (X : CX C cc nL own Ts R0 ret) (hM : KT (cL C) y ws rm mx sx As σ post px) (cw : ∀ (s : State) (a : Array Value), (∀ w ∈ Ts, w.before a s = true) → CallW R0 s a own Cn index y bytes maxL rt ws rm mx sx n)
    {q ci : Nat} {fs : (Nat → Nat) → (Nat → Int32) → List Value} {rr : vw_C} (ho : OBJ q ci fs) (hc : vwCl[ci]? = some rr) (hcn : rr.1 = Cn)
    (hAs : As (adr C) = .ref (adr C q) :: vs) (hn : vs.length = n) (hst : st = vs.reverse ++ .ref (adr C q) :: rest) (hcat : (rest.map fun v => v.category).sum ≤ 8) (hd : decode cc pc = .ok (.invokevirtual index, 3)) (hf : kc + mx ≤ R0.cells ∧ ks + sx ≤ R0.slots)
    (kk : ∀ (v : Option Value) (σ' : Mem), post (adr C) v σ' → G C nL kc ks (pc + 3) L (v.toList ++ rest) σ')
    (kx : ∀ (E : String) (σ' : Mem), px E σ' → GX C nL (kc + mx) (ks + sx) pc L rest E σ') : G C nL kc ks pc L st σ := by
  intro H locs ls hP hS h
  have hpre := fun U hU hW => g_pre X hP hS U hU hW
  obtain ⟨hx, hb, hml, hown, hts, hK, hinj, hR, hlk, hKF, htr, hret⟩ := X
  subst hR
  obtain ⟨⟨c1, c2, c3, c4, c5, c6, hcode, hini, hy, hlen, hl⟩, hin, hse⟩ := cw (cS C) (cA C) hts
  have hM1 := hM htr (cD C) (cI C) (cJ C) (adr C) H.size
  rw [hAs] at hM1
  have hBk := wx_back (R := cR C) (p := cP C) (e := cE C) (below := cB C) (s := cS C) (sargs := cA C) (len := 3) (W9 := 8) (bytes := bytes) (maxL := maxL) (rt := rt) hM1 Pre_blind c1 c2 c3 c4 c5 c6 (fun a' U hW => word_at hW (Or.inl (by first | rfl | simp [Cond.onTables, Cond.keeps, Cond.steady])) hini)
  obtain ⟨cellB, hcB, hoB, hclB⟩ := va_recv hK hP hc (q0 := q) (by rw [WS_get _ _ _ _ ho.1, ho.2])
  rw [hcn] at hclB
  intro T hT Xs
  rcases vx_callV Xs hx (C := Cn) (bytes := bytes) (maxL := maxL) (ret := rt) (g := F0 (cM C) pc ls st) hown hl hin hse hcode hy hBk (by rw [hT]; exact hcB) hoB hclB rfl (by rw [hml]; exact h.1) (argsL := vs) (rest := rest) (fun sig hs => hn.trans (hlen sig hs)) hst (lv_room hcat) (by rw [hb]; exact hd)
    (fun vm₁ hW₁ => ⟨hf.1, hf.2, rfl, hpre (T.setVm vm₁) hT hW₁⟩) with ⟨v, vm₁, ⟨U', l2, c2', s2⟩, hW₁, X', ⟨g', mk, t, L', e1, e2, hq, h1, hL, h2, h3⟩, hst2⟩ | ⟨q9, vm₁, ⟨U', l2, c2', s2⟩, hW₁, X', ⟨g', mk, t, L', E, ce, e1, e2, hq, hce, hcv, hcl, h1, hL, h2, h3⟩, hst2⟩
  · dsimp only [Pt.U, Pt.locs, Pt.cells, Pt.slots] at X' e1 e2 h1 h2 h3 hst2
    subst h1; subst h2; subst h3
    exact g_after hT hS h X' e1 hL hq hst2 kk
  · dsimp only [Pt.U, Pt.locs, Pt.cells, Pt.slots] at X' e1 e2 h1 h2 h3 hst2 hcl
    subst h1; subst h2; subst h3
    exact g_afterX hT hS h X' e1 hL hq hce hcv (vx_cls hW₁ hcl) hst2 kx
theorem g_callS (X : CX C cc nL own Ts R0 ret) (hM : KT (cL C) y ws rm mx sx As σ post px) (cw : ∀ (s : State) (a : Array Value), (∀ w ∈ Ts, w.before a s = true) → CallB R0 s a own index y bytes maxL rt ws rm mx sx n ∧ (Cond.static y).before a s = true)
    (hAs : As (adr C) = vs) (hn : vs.length = n) (hst : st = vs.reverse ++ rest) (hcat : (rest.map fun v => v.category).sum ≤ 8) (hd : decode cc pc = .ok (.invokestatic index, 3)) (hf : kc + mx ≤ R0.cells ∧ ks + sx ≤ R0.slots)
    (kk : ∀ (v : Option Value) (σ' : Mem), post (adr C) v σ' → G C nL kc ks (pc + 3) L (v.toList ++ rest) σ')
    (kx : ∀ (E : String) (σ' : Mem), px E σ' → GX C nL (kc + mx) (ks + sx) pc L rest E σ') : G C nL kc ks pc L st σ := by
  intro H locs ls hP hS h
  have hpre := fun U hU hW => g_pre X hP hS U hU hW
  obtain ⟨hx, hb, hml, hown, hts, hK, hinj, hR, hlk, hKF, htr, hret⟩ := X
  subst hR
  obtain ⟨⟨c1, c2, c3, c4, c5, c6, hcode, hini, hy, hlen, hl⟩, hstt⟩ := cw (cS C) (cA C) hts
  have hM1 := hM htr (cD C) (cI C) (cJ C) (adr C) H.size
  rw [hAs] at hM1
  have hBk := wx_back (R := cR C) (p := cP C) (e := cE C) (below := cB C) (s := cS C) (sargs := cA C) (len := 3) (W9 := 8) (bytes := bytes) (maxL := maxL) (rt := rt) hM1 Pre_blind c1 c2 c3 c4 c5 c6 (fun a' U hW => word_at hW (Or.inl (by first | rfl | simp [Cond.onTables, Cond.keeps, Cond.steady])) hini)
  intro T hT Xs
  rcases vx_callS Xs hx (bytes := bytes) (maxL := maxL) (ret := rt) (g := F0 (cM C) pc ls st) hown hl hstt hini hcode hy hBk rfl (by rw [hml]; exact h.1) (argsL := vs) (rest := rest) (fun sig hs => hn.trans (hlen sig hs)) hst (lv_room hcat) (by rw [hb]; exact hd)
    (fun vm₁ hW₁ => ⟨hf.1, hf.2, rfl, hpre (T.setVm vm₁) hT hW₁⟩) with ⟨v, vm₁, ⟨U', l2, c2', s2⟩, hW₁, X', ⟨g', mk, t, L', e1, e2, hq, h1, hL, h2, h3⟩, hst2⟩ | ⟨q9, vm₁, ⟨U', l2, c2', s2⟩, hW₁, X', ⟨g', mk, t, L', E, ce, e1, e2, hq, hce, hcv, hcl, h1, hL, h2, h3⟩, hst2⟩
  · dsimp only [Pt.U, Pt.locs, Pt.cells, Pt.slots] at X' e1 e2 h1 h2 h3 hst2
    subst h1; subst h2; subst h3
    exact g_after hT hS h X' e1 hL hq hst2 kk
  · dsimp only [Pt.U, Pt.locs, Pt.cells, Pt.slots] at X' e1 e2 h1 h2 h3 hst2 hcl
    subst h1; subst h2; subst h3
    exact g_afterX hT hS h X' e1 hL hq hce hcv (vx_cls hW₁ hcl) hst2 kx
end CALLS
