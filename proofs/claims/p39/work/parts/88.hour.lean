/-! an hour passes, in both -/
section HOUR
variable {L : Int} {M : Wm} {m : Cm}
theorem WQ.to0 {t x8 : Cm} {E : Int32 → Int32 → Prop} (h : WQ t x8 E L M m) : WQ0 L M m := ⟨h.2.2.1, h.2.2.2.1, h.2.2.2.2.1, h.2.2.2.2.2.1, h.2.2.2.2.2.2.1, h.2.2.2.2.2.2.2⟩
theorem WQ0.hour (h : WQ0 L M m) (hh : (m 0 0 10).toInt < 1000) : WQ0 L (uW M 4 (u3 (M 4) 0 0 2 (M 4 0 0 2 + 1))) (u3 m 0 0 10 (m 0 0 10 + 1)) := by
  obtain ⟨h3, ⟨h4, h5, h6⟩, h7, h8, h9, hC⟩ := h
  have e : ∀ g : Nat, ¬ g = 0 → u3 m 0 0 10 (m 0 0 10 + 1) g = m g := fun g hg => u3_ne _ _ _ hg
  have s : ∀ k : Int32, ¬ k = 10 → u3 m 0 0 10 (m 0 0 10 + 1) 0 0 k = m 0 0 k := fun k hk => u3_s hk
  have e10 : (m 0 0 10 + 1).toInt = (m 0 0 10).toInt + 1 := inc_t h8.1 (by omega)
  refine ⟨RelQ.fr (show RelQ (M 5) m from h3) (e 5 (by decide)) (e 6 (by decide)) (e 7 (by decide)) (e 8 (by decide)) (e 9 (by decide)) (s 9 (by decide)), ⟨?_, h5, h6⟩, ?_, ?_, ok12_put0 h9 (by decide), hC.fr (e 28 (by decide)) (e 29 (by decide)) (e 30 (by decide))⟩
  · show RelBk (M 1) _
    unfold RelBk RelMv RelS at h4 ⊢
    rw [s 21 (by decide), e 23 (by decide), e 24 (by decide), e 25 (by decide), e 26 (by decide), e 27 (by decide), e 4 (by decide)]; exact h4
  · show RelOr (u3 (M 4) 0 0 2 (M 4 0 0 2 + 1)) _ (-1) 0
    obtain ⟨a1, a2, a3, a4, a5⟩ := h7
    unfold RelOr wyI at *
    rw [s 11 (by decide), u3_at, u3_at, u3_s (show ¬ (1 : Int32) = 2 by decide), u3_ne _ _ _ (show ¬ 4 = 0 by decide), e 13 (by decide), e 14 (by decide), e 15 (by decide), e 16 (by decide), e 17 (by decide), e 18 (by decide), e 19 (by decide), e 20 (by decide), e 21 (by decide)]
    exact ⟨a1, by rw [a2], a3, a4, a5⟩
  · rw [u3_at, e10]; omega
end HOUR
