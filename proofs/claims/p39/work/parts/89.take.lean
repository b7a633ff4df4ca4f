/-! an order is taken up anew, in both; the reference's flag -/
section TAKE
variable {L : Int} {M : Wm} {m : Cm} {w : Int32}
theorem WQ0.s0 (h : WQ0 L M m) (x : Int32) : WQ0 L M (u3 m 0 0 0 x) := by
  obtain ⟨h3, ⟨h4, h5, h6⟩, h7, h8, h9, hC⟩ := h
  have e : ∀ g : Nat, ¬ g = 0 → u3 m 0 0 0 x g = m g := fun g hg => u3_ne _ _ _ hg
  have s : ∀ k : Int32, ¬ k = 0 → u3 m 0 0 0 x 0 0 k = m 0 0 k := fun k hk => u3_s hk
  refine ⟨h3.fr (e 5 (by decide)) (e 6 (by decide)) (e 7 (by decide)) (e 8 (by decide)) (e 9 (by decide)) (s 9 (by decide)), ⟨?_, h5, h6⟩, ?_, ?_, ok12_put0 h9 (by decide), hC.fr (e 28 (by decide)) (e 29 (by decide)) (e 30 (by decide))⟩
  · unfold RelBk RelMv RelS at h4 ⊢
    rw [s 21 (by decide), e 23 (by decide), e 24 (by decide), e 25 (by decide), e 26 (by decide), e 27 (by decide), e 4 (by decide)]; exact h4
  · exact h7.fr (s 11 (by decide)) (s 10 (by decide)) (e 13 (by decide)) (e 14 (by decide)) (e 15 (by decide)) (e 16 (by decide)) (e 17 (by decide)) (e 18 (by decide)) (e 19 (by decide)) (e 20 (by decide)) (e 21 (by decide))
  · rw [s 10 (by decide)]; exact h8
theorem WQ0.take (h : WQ0 L M m) (hn : ¬ m 17 0 w = 0) (p : Int32) : WQ0 L M (u3 m 16 0 w p) := by
  obtain ⟨h3, ⟨h4, h5, h6⟩, h7, h8, h9, hC⟩ := h
  have e : ∀ g : Nat, ¬ g = 16 → u3 m 16 0 w p g = m g := fun g hg => u3_ne _ _ _ hg
  refine ⟨h3.fr (e 5 (by decide)) (e 6 (by decide)) (e 7 (by decide)) (e 8 (by decide)) (e 9 (by decide)) (by rw [e 0 (by decide)]), ⟨?_, h5, h6⟩, ?_, ?_, ok12_putA h9 (by decide), hC.fr (e 28 (by decide)) (e 29 (by decide)) (e 30 (by decide))⟩
  · unfold RelBk RelMv RelS at h4 ⊢
    rw [e 0 (by decide), e 23 (by decide), e 24 (by decide), e 25 (by decide), e 26 (by decide), e 27 (by decide), e 4 (by decide)]; exact h4
  · obtain ⟨a1, a2, a3, a4, a5⟩ := h7
    unfold RelOr wyI at *
    rw [e 0 (by decide), e 13 (by decide), e 14 (by decide), e 15 (by decide), e 17 (by decide), e 18 (by decide), e 19 (by decide), e 20 (by decide), e 21 (by decide)]
    refine ⟨a1, a2, a3, fun i i0 i1 => ?_, a5⟩
    obtain ⟨q1, q2, q3, q4, q5, q6, q7, q8, q9⟩ := a4 i i0 i1
    refine ⟨q1, q2, q3, q4, q5, q6, q7, fun z => ?_, q9⟩
    obtain ⟨b1, b2, b3, b4⟩ := q8 z
    refine ⟨b1, b2, b3, fun y => ?_⟩
    have ne : ¬ i = w := by intro q; rw [q] at y; exact hn y
    rw [u3_j ne]; exact b4 y
  · rw [e 0 (by decide)]; exact h8
end TAKE
