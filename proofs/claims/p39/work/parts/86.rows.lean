/-! ROWS of orders, from run to run -/
section ROWS
def InvO (m : Cm) : Prop := ∀ i : Int32, 0 ≤ i.toInt → i.toInt < (m 0 0 11).toInt → (0 ≤ (m 19 0 i).toInt ∧ (m 19 0 i).toInt ≤ 120) ∧ (m 17 0 i = 0 → 0 ≤ (m 16 0 i).toInt ∧ (m 16 0 i).toInt ≤ 1000)
theorem InvO.run {m m' : Cm} {w : Int32} (h : InvO m) (k : HsR w 120 m m') (hn : ¬ m' 17 0 w = 0) : InvO m' := by
  obtain ⟨k1, ⟨r1, r2, r3, r4⟩, k3, k4⟩ := k
  intro i i0 i1
  by_cases c : i = w
  · rw [c]; exact ⟨⟨k3, k4⟩, fun z => absurd z hn⟩
  · by_cases c1 : i.toInt < (m 0 0 11).toInt
    · obtain ⟨a1, a2, a3⟩ := (r3 i i0 c1).2 c
      obtain ⟨b1, b2⟩ := h i i0 c1
      refine ⟨by rw [a2]; exact b1, fun z => ?_⟩
      have z' : m 17 0 i = 0 := a1.symm.trans z
      rw [a3 z']; exact b2 z'
    · obtain ⟨a1, a2, a3⟩ := r4 i (by omega) i1
      exact ⟨by rw [a2]; decide, a3⟩
end ROWS
