/-! Arrays.fill over one array alone. -/
section IFILL
theorem ifill_loop {C : Ctx} {A : Nat → Prop} {a n : Nat} {v : Int32} (hx : (cP C).tables.exec = Jvm.exec) (hb : (cC C).code = cJ7_fill_53178) (hK : va_K (cD C) vwCl [(cI C, .int), (cJ C, .long)] (cS C)) (hn : n ≤ 1000)
    (hend : ∀ (g : Nat → Int32) (H : Heap) (locs : List Loc) (ls : Array Slot), (∀ w, w < n → g w = v) → va_P (cD C) vwCl [(a, .inl (cI C, n, .inl g))] H → va_D A [(a, .inl (cI C, n, .inl g))] → va_S A (cS C).heap H locs → WC C H locs 0 0 (F0 (cM C) 20 ls [])) :
    ∀ (d k : Nat) (g : Nat → Int32) (H : Heap) (locs : List Loc) (ls : Array Slot), k + d = n → (∀ w, w < k → g w = v) → va_P (cD C) vwCl [(a, .inl (cI C, n, .inl g))] H → va_D A [(a, .inl (cI C, n, .inl g))] → va_S A (cS C).heap H locs → lv_has ls 4 [(0, .ref a), (1, .int v), (2, .int (nI k)), (3, .int (nI n))] → WC C H locs 0 0 (F0 (cM C) 5 ls []) := by
  intro d
  induction d with
  | zero =>
    intro k g H locs ls h1 hg hP hD hS hl
    refine lv_iload_n hx hb dJ7_fill_53178_5 rfl (lv_at hl 2 rfl) ?_
    refine lv_iload_n hx hb dJ7_fill_53178_6 rfl (lv_at hl 3 rfl) ?_
    refine lv_icmp_ge (tgt := 20) hx hb dJ7_fill_53178_7 (by decide) (fun hc => ?_) (fun hc => ?_)
    · exact hend g H locs ls (fun w hw => hg w (by omega)) hP hD hS
    · exact absurd (by rw [leI, nI_t (by omega), nI_t (by omega)]; omega) hc
  | succ d ih =>
    intro k g H locs ls h1 hg hP hD hS hl
    refine lv_iload_n hx hb dJ7_fill_53178_5 rfl (lv_at hl 2 rfl) ?_
    refine lv_iload_n hx hb dJ7_fill_53178_6 rfl (lv_at hl 3 rfl) ?_
    refine lv_icmp_ge (tgt := 20) hx hb dJ7_fill_53178_7 (by decide) (fun hc => ?_) (fun hc => ?_)
    · rw [leI, nI_t (by omega), nI_t (by omega)] at hc
      omega
    · refine lv_aload_n hx hb dJ7_fill_53178_10 rfl (lv_at hl 0 rfl) ?_
      refine lv_iload_n hx hb dJ7_fill_53178_11 rfl (lv_at hl 2 rfl) ?_
      refine lv_iload_n hx hb dJ7_fill_53178_12 rfl (lv_at hl 1 rfl) ?_
      refine va_iast hx hb hK hP hD hS 0 0 rfl rfl (vp_in_nI (show k < n by omega) (by omega)) dJ7_fill_53178_13 (fun H1 locs1 hP1 hD1 hS1 => ?_)
      refine lv_iinc (v := nI (k + 1)) (lv' := [(2, .int (nI (k + 1))), (0, .ref a), (1, .int v), (3, .int (nI n))]) hx hb dJ7_fill_53178_14 hl (k := 2) rfl (nI_1 k) (by decide) rfl (fun ls hl => ?_)
      refine lv_goto (tgt := 5) hx hb dJ7_fill_53178_17 (by decide) ?_
      refine ih (k + 1) (upd g (nI k).toNatClampNeg v) H1 locs1 ls (by omega) (fun w hw => ?_) hP1 hD1 hS1 (lv_sub hl [1, 2, 0, 3] rfl)
      have e : (nI k).toNatClampNeg = k := ix_n (n := k) (by omega)
      rw [e]
      unfold upd
      by_cases c : w = k
      · rw [if_pos c]
      · rw [if_neg c]; exact hg w (by omega)
theorem kf_fill (l : Launch) {n : Nat} (hn : n ≤ 1000) : KF2 l yJ7_fill_53178 wsJ7_fill_53178 rmJ7_fill_53178 n := by
  intro D cI cJ a sz f v
  refine Met.ofW (cc := cJ7_fill_53178) (maxL := 4) (ret := none) (by decide +kernel) rfl ?_
  intro p e s m args below meth c s₁ B hml hv
  obtain ⟨rfl, hsz, hP, hK⟩ := hv
  subst hsz
  have hD : va_D (va_A [(a, (.inl (cI, n, .inl f) : va_E))] s.heap.size) [(a, .inl (cI, n, .inl f))] := by
    refine ⟨fun i j x z h1 h2 _ => ?_, fun k2 x hx2 => va_A.in hx2⟩
    have a1 := (List.getElem?_eq_some_iff.mp h1).1
    have a2 := (List.getElem?_eq_some_iff.mp h2).1
    simp at a1 a2
    omega
  have hl := lv_entry ([.ref a, .int v]) (n := 4) (Nat.le_of_ble_eq_true rfl)
  rw [lg_entry_eq]
  generalize (lg_sl ([.ref a, .int v]) ++ List.replicate (4 - (lg_sl ([.ref a, .int v])).length) Slot.unset).toArray = ls at hl ⊢
  have hl : lv_has ls 4 [(0, .ref a), (1, .int v)] := hl
  refine lv_iconst (v := 0) B.exec B.bytes dJ7_fill_53178_0 (by decide) ?_
  refine lv_istore_n (lv' := [(2, .int 0), (0, .ref a), (1, .int v)]) B.exec B.bytes dJ7_fill_53178_1 rfl hl (by decide) rfl (fun ls hl => ?_)
  refine lv_aload_n B.exec B.bytes dJ7_fill_53178_2 rfl (lv_at hl 1 rfl) ?_
  refine va_alen B.exec B.bytes hK hP 0 0 rfl rfl rfl dJ7_fill_53178_3 ?_
  refine lv_istore_n (lv' := [(3, .int (nI n)), (2, .int 0), (0, .ref a), (1, .int v)]) B.exec B.bytes dJ7_fill_53178_4 rfl hl (by decide) rfl (fun ls hl => ?_)
  exact ifill_loop (C := ((p, l, e, (headSpec wsJ7_fill_53178 rmJ7_fill_53178).room, s, m, ([Value.ref a, .int v]).toArray, below, meth, c), (D, cI, cJ, fun _ => 0), MQ below (va_Qv (fun g : Nat → Int32 => ∀ w, w < n → g w = v) (fun g t => va_P D vwCl [(a, .inl (cI, n, .inl g))] t.heap ∧ va_D (va_A [(a, .inl (cI, n, .inl f))] s.heap.size) [(a, .inl (cI, n, .inl g))]) (va_A [(a, .inl (cI, n, .inl f))] s.heap.size)) ([Value.ref a, .int v]).toArray s 0 0 (va_A [(a, .inl (cI, n, .inl f))] s.heap.size))) B.exec B.bytes hK hn
    (fun g H locs ls hg hP1 hD1 hS1 => W.vret B.exec B.bytes B.returns (fun t ht hW => ⟨⟨g, rfl, hg, by rw [ht]; exact hP1, hD1⟩, hS1.F ht⟩) hS1.2.2 dJ7_fill_53178_20 B.notSynchronized) n 0 f s.heap [] ls (by omega) (fun w h => absurd h (by omega)) hP hD va_S.rf (lv_sub hl [2, 3, 1, 0] rfl)
end IFILL
