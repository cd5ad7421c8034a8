/-! A call of a nest mate's method, at the index of the class as it stands now (05 has an older one). -/
section MCALLS
variable {C : Ctx} {cc : ByteArray} {nL : Nat} {own : String} {Ts : List Cond} {R0 : Room} {ret : Option FieldType}
variable {kc ks pc index n maxL : Nat} {L : List (Nat × Value)} {st rest vs : List Value} {σ : Mem}
variable {y : MethodName} {ws : List Cond} {rm : Room} {As : (Nat → Nat) → List Value} {bytes : ByteArray} {rt : Option FieldType} {Cn : String}
theorem g_callM (X : CX C cc nL own Ts R0 ret) {mx sx : Nat} {post : (Nat → Nat) → Option Value → Mem → Prop} {px : String → Mem → Prop} (hM : KT (cL C) y ws rm mx sx As σ post px) (ho : own = RX0) (hy0 : y = yX2_wayOf) (hix : index = 84) (cw : ∀ (s : State) (a : Array Value), (∀ w ∈ Ts, w.before a s = true) → va_Nw (.methodLinkNest RX0 84 yX2_wayOf RX2) s → va_CN R0 s a RX0 84 yX2_wayOf RX2 bytes maxL rt ws rm mx sx n ∧ (Cond.static yX2_wayOf).before a s = true)
    (hAs : As (adr C) = vs) (hn : vs.length = n) (hst : st = vs.reverse ++ rest) (hcat : (rest.map fun v => v.category).sum ≤ 8) (hd : decode cc pc = .ok (.invokestatic index, 3)) (hf : kc + mx ≤ R0.cells ∧ ks + sx ≤ R0.slots)
    (kk : ∀ (v : Option Value) (σ' : Mem), post (adr C) v σ' → G C nL kc ks (pc + 3) L (v.toList ++ rest) σ')
    (kx : ∀ (E : String) (σ' : Mem), px E σ' → GX C nL (kc + mx) (ks + sx) pc L rest E σ') : G C nL kc ks pc L st σ := by
  subst ho; subst hy0; subst hix
  intro H locs ls hP hS h
  have hpre := fun U hU hW => g_pre X hP hS U hU hW
  obtain ⟨hx, hb, hml, hown, hts, hK, hinj, hR, hlk, hKF, htr, hret⟩ := X
  subst hR
  obtain ⟨⟨⟨c1, c2, c3, c4, c5, c6⟩, hcode, hini, hy, hlen, hl⟩, hstt⟩ := cw (cS C) (cA C) hts hKF.1
  have hM1 := hM htr (cD C) (cI C) (cJ C) (adr C) H.size
  rw [hAs] at hM1
  have hBk := wx_back (R := cR C) (p := cP C) (e := cE C) (below := cB C) (s := cS C) (sargs := cA C) (len := 3) (W9 := 8) (bytes := bytes) (maxL := maxL) (rt := rt) hM1 Pre_blind c1 c2 c3 c4 c5 c6 (fun a' U hW => word_at hW (Or.inl (by first | rfl | simp [Cond.onTables, Cond.keeps, Cond.steady])) hini)
  intro T hT Xs
  rcases wx_callSN Xs hx (bytes := bytes) (maxL := maxL) (ret := rt) (g := F0 (cM C) pc ls st) hown hl hstt hini hcode hy hBk rfl (by rw [hml]; exact h.1) (argsL := vs) (rest := rest) (fun sig hs => hn.trans (hlen sig hs)) hst (lv_room hcat) (by rw [hb]; exact hd)
    (fun vm₁ hW₁ => ⟨hf.1, hf.2, rfl, hpre (T.setVm vm₁) hT hW₁⟩) with ⟨v, vm₁, ⟨U', l2, c2', s2⟩, hW₁, X', ⟨g', mk, t, L', e1, e2, hq, h1, hL, h2, h3⟩, hst2⟩ | ⟨q9, vm₁, ⟨U', l2, c2', s2⟩, hW₁, X', ⟨g', mk, t, L', E, ce, e1, e2, hq, hce, hcv, hcl, h1, hL, h2, h3⟩, hst2⟩
  · dsimp only [Pt.U, Pt.locs, Pt.cells, Pt.slots] at X' e1 e2 h1 h2 h3 hst2
    subst h1; subst h2; subst h3
    exact g_after hT hS h X' e1 hL hq hst2 kk
  · dsimp only [Pt.U, Pt.locs, Pt.cells, Pt.slots] at X' e1 e2 h1 h2 h3 hst2 hcl
    subst h1; subst h2; subst h3
    exact g_afterX hT hS h X' e1 hL hq hce hcv (vx_cls hW₁ hcl) hst2 kx
theorem c_MI (X : CX C cc nL own Ts R0 ret) {F : Option (Int32 × Mem)} (hM : KI (cL C) y ws rm As σ F) (ho : own = RX0) (hy0 : y = yX2_wayOf) (hix : index = 84) (cw : ∀ (s : State) (a : Array Value), (∀ w ∈ Ts, w.before a s = true) → va_Nw (.methodLinkNest RX0 84 yX2_wayOf RX2) s → va_CN R0 s a RX0 84 yX2_wayOf RX2 bytes maxL rt ws rm 0 0 n ∧ (Cond.static yX2_wayOf).before a s = true) (hAs : As (adr C) = vs) (hn : vs.length = n) (hst : st = vs.reverse ++ rest) (hcat : (rest.map fun v => v.category).sum ≤ 8) (hd : decode cc pc = .ok (.invokestatic index, 3)) (hR : kc ≤ R0.cells ∧ ks ≤ R0.slots)
    {ρ : Type} {B : Int32 → Mem → Option ρ} {r : ρ} (hf : bnd F B = some r) (kk : ∀ (v : Int32) (σ' : Mem), B v σ' = some r → G C nL kc ks (pc + 3) L (.int v :: rest) σ') : G C nL kc ks pc L st σ := by
  obtain ⟨v, σ1, h1, h2⟩ := bnd_some hf
  exact g_callM X (hM _ h1) ho hy0 hix cw hAs hn hst hcat hd hR (fun v' σ' hp => by obtain ⟨rfl, rfl⟩ := hp; exact kk _ _ h2) (fun E σ' hp => hp.elim)
end MCALLS
