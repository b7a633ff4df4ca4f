/-! the run of an order: the whole of it -/
section RUN
variable {t x8 : Cm} {E : Int32 → Int32 → Prop} {L : Int} {w : Int32} {M0 M : Wm} {m0 m e : Cm} {s i : Int32}
/-- between runs -/
def WQ (t x8 : Cm) (E : Int32 → Int32 → Prop) (L : Int) (M : Wm) (m : Cm) : Prop := (M 9 = t ∧ M 8 = x8) ∧ TextR t x8 m E ∧ RelQ (M 5) m ∧ (RelBk (M 1) m ∧ BkI (M 1) ∧ StkP L (M 1)) ∧ RelOr (M 4) m (-1) 0 ∧ (0 ≤ (m 0 0 10).toInt ∧ (m 0 0 10).toInt ≤ 1000) ∧ Ok12 m ∧ Ct12 m
/-- what the class writes at a run's end -/
def endW (M : Wm) (w : Int32) : Wm := uW M 4 (u3 (u3 (u3 (M 4) 4 w 8 (M 4 4 w 8 + M 7 0 0 9)) 4 w 4 (f7_stateThen (M 7))) 4 w 5 (if f7_stateThen (M 7) = 3 then M 7 0 0 10 else 0))
theorem lp96_e {K : Int32 → Cm} {m22 : Cm} (hk : Ok12 m22) (hs : vp_in s 8) (hX : Tx12 m22 s) : ∀ (f : Nat) (c n : Int32), Nx12 m22 s n → CN12 m22 s n < f → 0 ≤ c.toInt → c.toInt + f < 2147483647 → f12_run_lp96 m w s m22 K f (c, n) = K (skp12 m22 s ((m 19 0 w).toInt - c.toInt).toNat n) := by
  intro f
  induction f with
  | zero => intro c n _ h; omega
  | succ f ih =>
    intro c n hN h hc hb
    rw [f12_run_lp96_s]
    simp only [bnd_e]
    by_cases c1 : m 19 0 w ≤ c
    · rw [if_pos c1]
      simp only [i32le] at c1
      rw [show ((m 19 0 w).toInt - c.toInt).toNat = 0 by omega]; rfl
    · rw [if_neg c1]
      by_cases c2 : n = -1
      · rw [if_pos c2, c2, skp12_none]
      · rw [if_neg c2]
        have hI := hN.resolve_left c2
        have e1 : (c + 1).toInt = c.toInt + 1 := inc_t hc (by omega)
        rw [ih (c + 1) (f12_following m22 s n) (following_n hk hs hX hI) (by have := CN12_s hk hs hX hI; omega) (by omega) (by omega), skp12_step hc c1 c2]
/-- a run's end, in both -/
theorem end_c (h : FinR t x8 E L w M m) : WQ t x8 E L (endW M w) m := by
  obtain ⟨h1, h2, h3, h4, h5, h6, h7, h8, h9, s0, s7, s9⟩ := h
  refine ⟨h1, h2, h3, h4, ?_, h6, h7, h8⟩
  show RelOr (u3 (u3 (u3 (M 4) 4 w 8 (M 4 4 w 8 + M 7 0 0 9)) 4 w 4 (f7_stateThen (M 7))) 4 w 5 (if f7_stateThen (M 7) = 3 then M 7 0 0 10 else 0)) m (-1) 0
  generalize hu : M 7 0 0 9 = u at h5
  generalize ho : M 4 = o at h5 h9
  have fin : f7_stateThen (M 7) = m 17 0 w ∧ (if f7_stateThen (M 7) = 3 then M 7 0 0 10 else 0) = wyI m w := by
    unfold f7_stateThen wyI
    by_cases c0 : M 7 0 0 10 = 0
    · obtain ⟨a, b⟩ := s0 c0
      rw [if_pos c0, a, if_neg (by decide), if_neg (by decide)]; exact ⟨rfl, rfl⟩
    · rw [if_neg c0]
      by_cases c7 : M 7 0 0 10 = 7
      · obtain ⟨a, b⟩ := s7 c7
        rw [if_pos c7, a, if_neg (by decide), if_neg (by decide)]; exact ⟨rfl, rfl⟩
      · obtain ⟨a, b⟩ := s9 c0 c7
        rw [if_neg c7, a, if_pos rfl, if_pos rfl]; exact ⟨rfl, b.symm⟩
  have n0 : ¬ m 17 0 w = 0 := by
    by_cases c0 : M 7 0 0 10 = 0
    · rw [(s0 c0).1]; decide
    · by_cases c7 : M 7 0 0 10 = 7
      · rw [(s7 c7).1]; decide
      · rw [(s9 c0 c7).1]; decide
  generalize f7_stateThen (M 7) = st at fin
  generalize (if st = 3 then M 7 0 0 10 else 0) = wy at fin
  obtain ⟨f1, f2⟩ := fin
  have c : ∀ (i k : Int32), (¬ k = 8 ∧ ¬ k = 4) ∧ ¬ k = 5 → u3 (u3 (u3 o 4 w 8 (o 4 w 8 + u)) 4 w 4 st) 4 w 5 wy 4 i k = o 4 i k := by
    intro i k a
    by_cases ci : i = w
    · rw [ci, u3_j a.2, u3_j a.1.2, u3_j a.1.1]
    · rw [u3_i ci, u3_i ci, u3_i ci]
  have cw : u3 (u3 (u3 o 4 w 8 (o 4 w 8 + u)) 4 w 4 st) 4 w 5 wy 4 w 4 = st ∧ u3 (u3 (u3 o 4 w 8 (o 4 w 8 + u)) 4 w 4 st) 4 w 5 wy 4 w 5 = wy ∧ u3 (u3 (u3 o 4 w 8 (o 4 w 8 + u)) 4 w 4 st) 4 w 5 wy 4 w 8 = o 4 w 8 + u := ⟨by rw [u3_j (by decide), u3_at], by rw [u3_at], by rw [u3_j (by decide), u3_j (by decide), u3_at]⟩
  have cn : ∀ (i k : Int32), ¬ i = w → u3 (u3 (u3 o 4 w 8 (o 4 w 8 + u)) 4 w 4 st) 4 w 5 wy 4 i k = o 4 i k := fun i k ci => by rw [u3_i ci, u3_i ci, u3_i ci]
  have o1 : ∀ k : Int32, u3 (u3 (u3 o 4 w 8 (o 4 w 8 + u)) 4 w 4 st) 4 w 5 wy 0 0 k = o 0 0 k := fun k => by rw [u3_ne _ _ _ (by decide), u3_ne _ _ _ (by decide), u3_ne _ _ _ (by decide)]
  obtain ⟨h51, h52, h53, h54, h55⟩ := h5
  unfold RelOr
  rw [o1, o1]
  refine ⟨h51, h52, h53, fun i a b => ?_, fun i a b => ?_⟩
  · obtain ⟨q1, q2, q3, q4, q5, q6, q7, q8, q9⟩ := h54 i a b
    have im : ¬ i = -1 := by intro z; rw [z] at a; exact absurd a (by decide)
    rw [c i 0 (by decide), c i 1 (by decide), c i 2 (by decide), c i 6 (by decide), c i 7 (by decide), c i 3 (by decide)]
    refine ⟨q1, q2, q3, q4, q5, q6, q7, fun _ => ?_, fun z => absurd z im⟩
    by_cases ci : i = w
    · rw [ci, cw.1, cw.2.1, cw.2.2]
      have q := q9 ci
      rw [ci] at q
      exact ⟨f1, f2, q, fun z => absurd z n0⟩
    · rw [cn i 4 ci, cn i 5 ci, cn i 8 ci]; exact q8 ci
  · have ne : ¬ i = w := by rw [i32eq]; omega
    rw [cn i 4 ne, cn i 5 ne, cn i 8 ne, c i 6 (by decide), c i 7 (by decide)]
    exact h55 i a b
end RUN
