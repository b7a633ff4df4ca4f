/-! what a run leaves of the orders -/
section HIST
variable {t x8 : Cm} {E : Int32 → Int32 → Prop} {L : Int} {w : Int32} {M0 M : Wm} {m0 m e : Cm} {s i : Int32}
def RwK (w : Int32) (m m' : Cm) : Prop := (m 0 0 11).toInt ≤ (m' 0 0 11).toInt ∧ m' 0 0 10 = m 0 0 10 ∧ (∀ i : Int32, 0 ≤ i.toInt → i.toInt < (m 0 0 11).toInt → m' 15 0 i = m 15 0 i ∧ (¬ i = w → m' 17 0 i = m 17 0 i ∧ m' 19 0 i = m 19 0 i ∧ (m 17 0 i = 0 → m' 16 0 i = m 16 0 i))) ∧ ∀ i : Int32, (m 0 0 11).toInt ≤ i.toInt → i.toInt < (m' 0 0 11).toInt → (m 0 0 10).toInt < (m' 15 0 i).toInt ∧ m' 19 0 i = 0 ∧ (m' 17 0 i = 0 → 0 ≤ (m' 16 0 i).toInt ∧ (m' 16 0 i).toInt ≤ 1000)
theorem RwK.refl (w : Int32) (m : Cm) : RwK w m m := ⟨Int.le_refl _, rfl, fun _ _ _ => ⟨rfl, fun _ => ⟨rfl, rfl, fun _ => rfl⟩⟩, fun i a b => by omega⟩
theorem RwK.trans {a b c : Cm} (h : RwK w a b) (k : RwK w b c) (hw : w.toInt < (a 0 0 11).toInt) (h0 : 0 ≤ (a 0 0 11).toInt) : RwK w a c := by
  obtain ⟨h1, h2, h3, h4⟩ := h
  obtain ⟨k1, k2, k3, k4⟩ := k
  refine ⟨by omega, k2.trans h2, fun i i0 i1 => ?_, fun i i0 i1 => ?_⟩
  · obtain ⟨p1, p2⟩ := h3 i i0 i1
    obtain ⟨q1, q2⟩ := k3 i i0 (by omega)
    refine ⟨q1.trans p1, fun z => ?_⟩
    obtain ⟨a1, a2, a3⟩ := p2 z
    obtain ⟨b1, b2, b3⟩ := q2 z
    exact ⟨b1.trans a1, b2.trans a2, fun y => (b3 (a1.trans y)).trans (a3 y)⟩
  · by_cases c1 : i.toInt < (b 0 0 11).toInt
    · obtain ⟨p1, p2, p3⟩ := h4 i i0 c1
      have ne : ¬ i = w := by rw [i32eq]; omega
      obtain ⟨q1, q2⟩ := k3 i (by omega) c1
      obtain ⟨b1, b2, b3⟩ := q2 ne
      refine ⟨by rw [q1]; exact p1, b2.trans p2, fun y => ?_⟩
      have y1 : b 17 0 i = 0 := b1.symm.trans y
      rw [b3 y1]; exact p3 y1
    · have := k4 i (by omega) i1
      rw [h2] at this; exact this
theorem RwK.expr {o o' : Cm} {u u' : Int32} (h : RelOr o m w u) (k : RelOr o' e w u') (H : HsO o o') (hw : w.toInt < (o 0 0 1).toInt) : RwK w m e := by
  obtain ⟨h1, h2, h3, h4, h5⟩ := h
  obtain ⟨k1, k2, k3, k4, k5⟩ := k
  obtain ⟨a1, a2, a3, a4⟩ := H
  unfold RwK
  rw [← h1, ← k1, ← h2, ← k2]
  refine ⟨a1, a2, fun i i0 i1 => ?_, fun i i0 i1 => ?_⟩
  · obtain ⟨p1, p2, p3, p4, p5, p6, p7, p8, p9⟩ := h4 i i0 i1
    obtain ⟨q1, q2, q3, q4, q5, q6, q7, q8, q9⟩ := k4 i i0 (by omega)
    have r := a3 i i0 i1
    rw [r] at q3 q4 q8
    refine ⟨q3.symm.trans p3, fun z => ?_⟩
    obtain ⟨b1, b2, b3, b4⟩ := p8 z
    obtain ⟨c1, c2, c3, c4⟩ := q8 z
    exact ⟨c1.symm.trans b1, q4.symm.trans p4, fun y => (c4 (c1.symm.trans (b1.trans y))).symm.trans (b4 y)⟩
  · have ne : ¬ i = w := by rw [i32eq]; omega
    obtain ⟨q1, q2, q3, q4, q5, q6, q7, q8, q9⟩ := k4 i (by omega) i1
    obtain ⟨b1, b2, b3, b4, b5⟩ := a4 i i0 i1
    obtain ⟨c1, c2, c3, c4⟩ := q8 ne
    exact ⟨by rw [← q3]; exact b3, q4.symm.trans b5, fun y => by rw [← c4 y]; exact b4⟩
/-- as above, but with the new rows' budgets whatever became of them -/
theorem RwK.undone {o o' r : Cm} {u u' : Int32} (h : RelOr o m w u) (k : RelOr o' e w u') (H : HsO o o') (hw : w.toInt < (o 0 0 1).toInt) (g : ∀ g : Nat, ¬ g = 0 → ¬ g = 4 → ¬ g = 17 → ¬ g = 18 → r g = e g) (hs : ∀ k : Int32, ¬ k = 21 → r 0 0 k = e 0 0 k) (h17 : ∀ j : Int32, ¬ j = w → j.toInt < (o 0 0 1).toInt → r 17 0 j = e 17 0 j) : RwK w m r := by
  have X := RwK.expr h k H hw
  obtain ⟨x1, x2, x3, x4⟩ := X
  unfold RwK
  rw [hs 11 (by decide), hs 10 (by decide), g 15 (by decide) (by decide) (by decide) (by decide), g 19 (by decide) (by decide) (by decide) (by decide), g 16 (by decide) (by decide) (by decide) (by decide)]
  refine ⟨x1, x2, fun i i0 i1 => ?_, fun i i0 i1 => ?_⟩
  · obtain ⟨p1, p2⟩ := x3 i i0 i1
    refine ⟨p1, fun z => ?_⟩
    rw [h17 i z (by rw [h.1]; exact i1)]; exact p2 z
  · obtain ⟨p1, p2, p3⟩ := x4 i i0 i1
    refine ⟨p1, p2, fun _ => p3 ?_⟩
    have ne : ¬ i = w := by rw [i32eq]; rw [← h.1] at i0; omega
    have c1 := (k.2.2.2.1 i (by have := h.2.2.1.1; rw [← h.1] at i0; omega) (by rw [k.1]; exact i1)).2.2.2.2.2.2.2.1 ne
    rw [← c1.1]
    exact (H.2.2.2 i (by rw [h.1]; exact i0) (by rw [k.1]; exact i1)).1
end HIST
