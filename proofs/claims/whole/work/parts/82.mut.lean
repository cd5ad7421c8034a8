/-! Calls that change what both hold. -/
theorem vI_J {σ : Mem} {k i k' i' : Nat} {v : Int64} : vI (wJ σ k i v) k' i' = vI σ k' i' := rfl
section MUT
variable {σ : Mem} {n m : Nat}
theorem stp_mut {t : Nat → Option Int32} {F : Option (Sum Int32 Nat × Mem)} {M : Mem → Option (Int32 × Mem)} {v b : Int32} {σa σ2 : Mem} (hF : F = some (Sum.inl v, σa)) (hM : M (wJ σa 50 0 v.toInt64) = some (b, σ2)) (hb : b = v) (h35 : rI σ2 35 0 = 0) (h50 : σ2.2 = (wJ σa 50 0 v.toInt64).2) (hW : WLD σ2) : STP (wrp t F) M := by
  refine ⟨0, wJ σa 50 0 v.toInt64, b, σ2, by rw [hF]; rfl, hM, h35, fun _ => ?_, hW⟩
  rw [hb]
  unfold rJ
  rw [h50]
  exact rJ_50 (σ := σa)
/-- cells that only these calls change: heaps or holes -/
theorem wld_heap {σ2 : Mem} {i n' : Nat} {x y : Int32} (hR : REL σ n m) (hH : HND σ) (hx : 0 ≤ x.toInt ∧ x.toInt ≤ 100) (hy : 1 ≤ y.toInt ∧ y.toInt ≤ 20) (hi : i < 5) (hn : (n' = n ∧ i < n) ∨ (n' = n + 1 ∧ i = n))
    (e1 : vI σ2 1 2 = n') (e35 : vI σ2 35 1 = n') (e2 : ∀ k, vI σ2 2 k = if k = i then x.toInt else vI σ 2 k) (e3 : ∀ k, vI σ2 3 k = if k = i then y.toInt else vI σ 3 k) (e36 : ∀ k, vI σ2 36 k = if k = i then x.toInt else vI σ 36 k) (e37 : ∀ k, vI σ2 37 k = if k = i then y.toInt else vI σ 37 k)
    (eo : ∀ k a, k = 4 ∨ k = 5 ∨ k = 6 ∨ k = 7 ∨ k = 8 ∨ k = 9 ∨ k = 38 ∨ k = 39 ∨ k = 40 ∨ k = 41 ∨ k = 42 ∨ (k = 0 ∧ a ≠ 14) ∨ (k = 35 ∧ 2 ≤ a) → vI σ2 k a = vI σ k a) (e014 : vI σ2 0 14 = 0) : WLD σ2 := by
  obtain ⟨⟨⟨d1, d1', d1'', d1'''⟩, d2, d3, d4, d5, d6, d7, d8, d9⟩, ⟨r1, r2⟩, ⟨r3, r4, r5, r6⟩, r7, r8, r9⟩ := hR
  have hD : DAT σ2 n' m := by
    refine ⟨⟨e1, by omega, by rw [eo 4 2 (by omega)]; exact d1'', d1'''⟩, fun k hk => ?_, fun k hk => ?_, fun w hw => ?_, fun a b ha hb hab => ?_, fun k hk hk2 => ?_, fun k hk hk2 => ?_, ?_, ?_⟩
    · rw [e2, e3]
      by_cases e : k = i
      · rw [if_pos e, if_pos e]; omega
      · rw [if_neg e, if_neg e]; exact d2 k (by omega)
    · rw [eo 5 k (by omega), eo 6 k (by omega)]; exact d3 k hk
    · rw [eo 7 w (by omega), eo 8 w (by omega), eo 9 w (by omega)]; exact d4 w hw
    · rw [eo 7 _ (by omega), eo 8 _ (by omega), eo 9 _ (by omega)]; exact d5 a b ha hb (by omega)
    · rw [e3, if_neg (by omega)]; exact d6 k hk (by omega)
    · rw [eo 6 k (by omega)]; exact d7 k hk hk2
    · rw [eo 0 10 (by omega), eo 0 11 (by omega)]; exact d8
    · rw [eo 0 12 (by omega), eo 0 13 (by omega)]; exact d9
  refine ⟨n', m, ⟨hD, ⟨e35, by rw [eo 35 2 (by omega)]; exact r2⟩, ⟨?_, ?_, ?_, ?_⟩, fun k hk => ?_, fun k hk => ?_, fun w hw => ?_⟩, fun w hw => ?_, hD, Or.inl e014⟩
  · rw [eo 35 7 (by omega), eo 0 10 (by omega)]; exact r3
  · rw [eo 35 8 (by omega), eo 0 11 (by omega)]; exact r4
  · rw [eo 35 12 (by omega), eo 0 12 (by omega)]; exact r5
  · rw [eo 35 13 (by omega), eo 0 13 (by omega)]; exact r6
  · rw [e36, e37, e2, e3]
    by_cases e : k = i
    · simp only [if_pos e]; exact ⟨trivial, trivial⟩
    · simp only [if_neg e]; exact r7 k (by omega)
  · rw [eo 38 k (by omega), eo 39 k (by omega), eo 5 k (by omega), eo 6 k (by omega)]; exact r8 k hk
  · rw [eo 40 w (by omega), eo 41 w (by omega), eo 7 w (by omega), eo 8 w (by omega)]; exact r9 w hw
  · rw [eo 42 w (by omega), eo 9 w (by omega)]; exact hH w hw
theorem wld_hole {σ2 : Mem} {i m' : Nat} {x y : Int32} (hR : REL σ n m) (hH : HND σ) (hx : 0 ≤ x.toInt ∧ x.toInt ≤ 100) (hy : 1 ≤ y.toInt ∧ y.toInt ≤ 20) (hi : i < 5) (hn : (m' = m ∧ i < m) ∨ (m' = m + 1 ∧ i = m))
    (e1 : vI σ2 4 2 = m') (e35 : vI σ2 35 2 = m') (e2 : ∀ k, vI σ2 5 k = if k = i then x.toInt else vI σ 5 k) (e3 : ∀ k, vI σ2 6 k = if k = i then y.toInt else vI σ 6 k) (e36 : ∀ k, vI σ2 38 k = if k = i then x.toInt else vI σ 38 k) (e37 : ∀ k, vI σ2 39 k = if k = i then y.toInt else vI σ 39 k)
    (eo : ∀ k a, k = 1 ∨ k = 2 ∨ k = 3 ∨ k = 7 ∨ k = 8 ∨ k = 9 ∨ k = 36 ∨ k = 37 ∨ k = 40 ∨ k = 41 ∨ k = 42 ∨ (k = 0 ∧ a ≠ 14) ∨ (k = 35 ∧ a ≠ 0 ∧ a ≠ 2) → vI σ2 k a = vI σ k a) (e014 : vI σ2 0 14 = 0) : WLD σ2 := by
  obtain ⟨⟨⟨d1, d1', d1'', d1'''⟩, d2, d3, d4, d5, d6, d7, d8, d9⟩, ⟨r1, r2⟩, ⟨r3, r4, r5, r6⟩, r7, r8, r9⟩ := hR
  have hD : DAT σ2 n m' := by
    refine ⟨⟨by rw [eo 1 2 (by omega)]; exact d1, d1', e1, by omega⟩, fun k hk => ?_, fun k hk => ?_, fun w hw => ?_, fun a b ha hb hab => ?_, fun k hk hk2 => ?_, fun k hk hk2 => ?_, ?_, ?_⟩
    · rw [eo 2 k (by omega), eo 3 k (by omega)]; exact d2 k hk
    · rw [e2, e3]
      by_cases e : k = i
      · rw [if_pos e, if_pos e]; omega
      · rw [if_neg e, if_neg e]; exact d3 k (by omega)
    · rw [eo 7 w (by omega), eo 8 w (by omega), eo 9 w (by omega)]; exact d4 w hw
    · rw [eo 7 _ (by omega), eo 8 _ (by omega), eo 9 _ (by omega)]; exact d5 a b ha hb (by omega)
    · rw [eo 3 k (by omega)]; exact d6 k hk hk2
    · rw [e3, if_neg (by omega)]; exact d7 k hk (by omega)
    · rw [eo 0 10 (by omega), eo 0 11 (by omega)]; exact d8
    · rw [eo 0 12 (by omega), eo 0 13 (by omega)]; exact d9
  refine ⟨n, m', ⟨hD, ⟨by rw [eo 35 1 (by omega)]; exact r1, e35⟩, ⟨?_, ?_, ?_, ?_⟩, fun k hk => ?_, fun k hk => ?_, fun w hw => ?_⟩, fun w hw => ?_, hD, Or.inl e014⟩
  · rw [eo 35 7 (by omega), eo 0 10 (by omega)]; exact r3
  · rw [eo 35 8 (by omega), eo 0 11 (by omega)]; exact r4
  · rw [eo 35 12 (by omega), eo 0 12 (by omega)]; exact r5
  · rw [eo 35 13 (by omega), eo 0 13 (by omega)]; exact r6
  · rw [eo 36 k (by omega), eo 37 k (by omega), eo 2 k (by omega), eo 3 k (by omega)]; exact r7 k hk
  · rw [e36, e37, e2, e3]
    by_cases e : k = i
    · simp only [if_pos e]; exact ⟨trivial, trivial⟩
    · simp only [if_neg e]; exact r8 k (by omega)
  · rw [eo 40 w (by omega), eo 41 w (by omega), eo 7 w (by omega), eo 8 w (by omega)]; exact r9 w hw
  · rw [eo 42 w (by omega), eo 9 w (by omega)]; exact hH w hw
/-- fields of 0 and of 35, ways' own costs and caps -/
theorem wld_way {σ2 : Mem} (hR : REL σ n m) (hH : HND σ)
    (f8 : 0 ≤ vI σ2 0 10 ∧ vI σ2 0 10 ≤ 2 ∧ 0 ≤ vI σ2 0 11 ∧ vI σ2 0 11 ≤ 200 ∧ (vI σ2 0 10 = 2 → 1 ≤ vI σ2 0 11)) (f9 : 0 ≤ vI σ2 0 12 ∧ vI σ2 0 12 ≤ 10000 ∧ 0 ≤ vI σ2 0 13 ∧ vI σ2 0 13 ≤ 10000)
    (fr : vI σ2 35 7 = vI σ2 0 10 ∧ vI σ2 35 8 = vI σ2 0 11 ∧ vI σ2 35 12 = vI σ2 0 12 ∧ vI σ2 35 13 = vI σ2 0 13)
    (f4 : ∀ w, w < 25 → (vI σ2 7 w = vI σ 7 w ∧ vI σ2 40 w = vI σ 40 w ∨ (w / 5 < n ∧ w % 5 < m) ∧ -1 ≤ vI σ2 7 w ∧ vI σ2 7 w ≤ 10000 ∧ vI σ2 40 w = vI σ2 7 w) ∧ (vI σ2 8 w = vI σ 8 w ∧ vI σ2 41 w = vI σ 41 w ∨ (w / 5 < n ∧ w % 5 < m) ∧ -1 ≤ vI σ2 8 w ∧ vI σ2 8 w ≤ 20 ∧ vI σ2 41 w = vI σ2 8 w))
    (eo : ∀ k a, k = 1 ∨ k = 2 ∨ k = 3 ∨ k = 4 ∨ k = 5 ∨ k = 6 ∨ k = 9 ∨ k = 36 ∨ k = 37 ∨ k = 38 ∨ k = 39 ∨ k = 42 ∨ (k = 35 ∧ (a = 1 ∨ a = 2)) → vI σ2 k a = vI σ k a) (e014 : vI σ2 0 14 = 0) : WLD σ2 := by
  obtain ⟨⟨⟨d1, d1', d1'', d1'''⟩, d2, d3, d4, d5, d6, d7, d8, d9⟩, ⟨r1, r2⟩, ⟨r3, r4, r5, r6⟩, r7, r8, r9⟩ := hR
  have hD : DAT σ2 n m := by
    refine ⟨⟨by rw [eo 1 2 (by omega)]; exact d1, d1', by rw [eo 4 2 (by omega)]; exact d1'', d1'''⟩, fun k hk => ?_, fun k hk => ?_, fun w hw => ?_, fun a b ha hb hab => ?_, fun k hk hk2 => ?_, fun k hk hk2 => ?_, f8, f9⟩
    · rw [eo 2 k (by omega), eo 3 k (by omega)]; exact d2 k hk
    · rw [eo 5 k (by omega), eo 6 k (by omega)]; exact d3 k hk
    · rw [eo 9 w (by omega)]
      have h1 := d4 w hw
      have h2 := f4 w hw
      omega
    · rw [eo 9 _ (by omega)]
      have h1 := d5 a b ha hb hab
      have h2 := f4 (5 * a + b) (by omega)
      omega
    · rw [eo 3 k (by omega)]; exact d6 k hk hk2
    · rw [eo 6 k (by omega)]; exact d7 k hk hk2
  refine ⟨n, m, ⟨hD, ⟨by rw [eo 35 1 (by omega)]; exact r1, by rw [eo 35 2 (by omega)]; exact r2⟩, fr, fun k hk => ?_, fun k hk => ?_, fun w hw => ?_⟩, fun w hw => ?_, hD, Or.inl e014⟩
  · rw [eo 36 k (by omega), eo 37 k (by omega), eo 2 k (by omega), eo 3 k (by omega)]; exact r7 k hk
  · rw [eo 38 k (by omega), eo 39 k (by omega), eo 5 k (by omega), eo 6 k (by omega)]; exact r8 k hk
  · have h1 := r9 w hw
    have h2 := f4 w hw
    refine ⟨by omega, by omega, trivial⟩
  · rw [eo 42 w (by omega), eo 9 w (by omega)]; exact hH w hw
end MUT
