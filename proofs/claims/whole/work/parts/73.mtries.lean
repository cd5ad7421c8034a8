/-! The Model: how many rows of numbers there are. -/
section MTRIES
variable {σ : Mem} {n m : Nat}
theorem m_boundOf {w : Nat} (hR : REL σ n m) (hw : w < 25) (hi : w / 5 < n) (hj : w % 5 < m) : fX3_boundOf (nI w) σ = some (oI (BD (aW σ n) (bW σ m) (uW σ n m) w), σ) := by
  have h5 := hR.1.1
  have hww : 5 * (w / 5) + w % 5 = w := by omega
  have hon := bd_on hR.1 hi hj
  rw [hww] at hon
  have q1 := hR.1.2.1 (w / 5) hi
  have q2 := hR.1.2.2.1 (w % 5) hj
  have e37 := (hR.2.2.2.1 (w / 5) hi).2
  have e39 := (hR.2.2.2.2.1 (w % 5) hj).2
  have e41 := (hR.2.2.2.2.2 w hw).2.1
  have q8 := hR.1.2.2.2.1 w hw
  unfold fX3_boundOf fX3_boundOf_e fX3_boundOf_44
  rw [(nI_div5' hw).2, (nI_div5' hw).1, inb_n (show w / 5 < 5 by omega) (by omega), grd_t, inb_n (show w % 5 < 5 by omega) (by omega), grd_t, ix_n (n := w / 5) (by omega), ix_n (n := w % 5) (by omega), oI_v σ 37, oI_v σ 39, e37, e39, m_lesserI (by unfold inR; omega) (by unfold inR; omega), bnd_s, inb_n hw (by omega), grd_t, grd_t, ix_n (n := w) (by omega)]
  by_cases h : vI σ 8 w = -1
  · rw [if_pos ((vIe I_m1).mpr (by rw [e41]; exact h))]
    rw [if_pos h] at hon
    rw [hon]
  · rw [if_neg (fun e => h (by rw [← e41]; exact (vIe I_m1).mp e)), oI_v σ 41, e41, m_lesserI (by unfold inR; omega) (by unfold inR; omega), bnd_s]
    rw [if_neg h] at hon
    rw [hon]
end MTRIES
