/-! On an object without heaps and holes: carried, about and unit never return; they throw, and every throw leaves a heap that is larger (QX says so: a new exception). So the law's frame is too small (REPORT.md, STATEMENT). -/
section EVID
variable {σ : Mem}
/-- a call that throws: it doesn't return, and the heap has grown behind it -/
def THR (l : Launch) (y : MethodName) (ws : List Cond) (rm : Room) (As : (Nat → Nat) → List Value) (σ : Mem) : Prop :=
  l.stackTraces = false → ∀ (D : va_G) (cI cJ : ClassId) (ad : Nat → Nat) (sz : Nat), wx_Met l y ws rm (va_Pc (As ad) (Pre D cI cJ ad σ sz)) (fun _ _ _ _ => False) (fun E st t => (E = iIO ∧ va_P D vwCl (WS cI cJ ad σ) t.heap) ∧ va_F (AA ad sz) st t ∧ st.heap.size < t.heap.size) 0 0 1 6 (AA ad sz)
theorem wx_mono {l : Launch} {y : MethodName} {ws : List Cond} {rm : Room} {Pc : Array Value → State → Prop} {Qc Qc' : Array Value → State → Outcome → State → Prop} {XC XC' : String → State → State → Prop} {mn sn mc ms : Nat} {free : Addr → Prop} (hQ : ∀ a st o t, Qc a st o t → Qc' a st o t) (hX : ∀ E st t, XC E st t → XC' E st t) (h : wx_Met l y ws rm Pc Qc XC mn sn mc ms free) : wx_Met l y ws rm Pc Qc' XC' mn sn mc ms free := by
  refine MetFree.mono h (fun _ _ => id) (fun _ _ _ _ _ _ => trivial) ?_
  intro a st o t _ hq
  rcases hq with ⟨h1, h2⟩ | ⟨q, h1, E, ce, L, h3, h4⟩
  · exact Or.inl ⟨hQ _ _ _ _ h1, h2⟩
  · exact Or.inr ⟨q, h1, E, ce, L, hX _ _ _ h3, h4⟩
theorem thr_of {l : Launch} {y : MethodName} {ws : List Cond} {rm : Room} {As : (Nat → Nat) → List Value} {F : Option (Sum Int32 Nat × Mem)} (h : KXI l y ws rm As σ F) (hF : F = some (Sum.inr 0, σ)) : THR l y ws rm As σ := by
  intro htr D cI cJ ad sz
  refine wx_mono (fun a st o t hq => ?_) (fun E st t hq => ?_) (h _ hF htr D cI cJ ad sz)
  · obtain ⟨⟨v, σ', -, ⟨x, e, -⟩, -⟩, -⟩ := hq
    cases e
  · obtain ⟨⟨σ', ⟨n, e, hE⟩, hP⟩, hf, hg⟩ := hq
    cases e
    exact ⟨⟨hE, hP⟩, hf, hg⟩
theorem ev_carried (l : Launch) (x y : Int32) (hI : INV σ 0 0) : THR l yX2_carried wsX2_carried rmX2_carried (fun ad => [.ref (ad 0), .int x, .int y]) σ := by
  refine thr_of (kX2_carried l x y σ) ?_
  rcases s_carried (x := x) (y := y) hI with ⟨-, e⟩ | ⟨h, -⟩
  · exact e
  · exfalso
    have := h.1
    omega
theorem ev_unit (l : Launch) (x y : Int32) (hI : INV σ 0 0) : THR l yX2_unit wsX2_unit rmX2_unit (fun ad => [.ref (ad 0), .int x, .int y]) σ := by
  refine thr_of (kX2_unit l x y σ) ?_
  rcases s_unit (x := x) (y := y) hI.1 with ⟨-, e⟩ | ⟨h, -⟩
  · exact e
  · exfalso
    have := h.1
    omega
theorem ev_about (l : Launch) (v x y : Int32) (hI : INV σ 0 0) : THR l yX2_about wsX2_about rmX2_about (fun ad => [.ref (ad 0), .int v, .int x, .int y]) σ := by
  refine thr_of (kX2_about l v x y σ) ?_
  rw [v_about hI.1, if_pos]
  intro h
  have : szOf 0 0 v = 0 := by unfold szOf; split <;> rfl
  omega
end EVID
