/-! the run of an order, in both -/
section RUN
variable {t x8 : Cm} {E : Int32 → Int32 → Prop} {L : Int} {w : Int32} {M0 M N : Wm} {m0 m e : Cm} {s i : Int32}
/-- the world without its texts -/
def WQ0 (L : Int) (M : Wm) (m : Cm) : Prop := RelQ (M 5) m ∧ (RelBk (M 1) m ∧ BkI (M 1) ∧ StkP L (M 1)) ∧ RelOr (M 4) m (-1) 0 ∧ (0 ≤ (m 0 0 10).toInt ∧ (m 0 0 10).toInt ≤ 1000) ∧ Ok12 m ∧ Ct12 m
theorem CN_skp {m : Cm} (hk : Ok12 m) (hs : vp_in s 8) (hX : Tx12 m s) : ∀ (k : Nat) (n : Int32), Nx12 m s n → k ≤ CN12 m s n → CN12 m s (skp12 m s k n) + k = CN12 m s n := by
  intro k
  induction k with
  | zero => intro n _ _; rfl
  | succ k ih =>
    intro n hN h
    have hn : ¬ n = -1 := by intro z; rw [z, CN12_none] at h; omega
    have hI := hN.resolve_left hn
    have c := CN12_s hk hs hX hI
    show CN12 m s (if n = -1 then -1 else skp12 m s k (f12_following m s n)) + (k + 1) = _
    rw [if_neg hn]
    have := ih (f12_following m s n) (following_n hk hs hX hI) (by omega)
    omega
theorem RelOr.begin {o m m' : Cm} (h : RelOr o m (-1) 0) (hw : 0 ≤ w.toInt) (e0 : m' 0 0 11 = m 0 0 11) (e1 : m' 0 0 10 = m 0 0 10) (e13 : m' 13 = m 13) (e14 : m' 14 = m 14) (e15 : m' 15 = m 15) (e16 : m' 16 = m 16) (e17 : ∀ j : Int32, ¬ j = w → m' 17 0 j = m 17 0 j) (e18 : ∀ j : Int32, ¬ j = w → m' 18 0 j = m 18 0 j) (e19 : m' 19 = m 19) (e20 : m' 20 = m 20) (e21 : m' 21 = m 21) : RelOr o m' w 0 := by
  obtain ⟨h1, h2, h3, h4, h5⟩ := h
  refine ⟨h1.trans e0.symm, h2.trans e1.symm, h3, fun i a b => ?_, fun i a b => ?_⟩
  · obtain ⟨q1, q2, q3, q4, q5, q6, q7, q8, q9⟩ := h4 i a b
    have im : ¬ i = -1 := by intro z; rw [z] at a; exact absurd a (by decide)
    have q := q8 im
    rw [e13, e14, e15, e16, e19, e20, e21]
    refine ⟨q1, q2, q3, q4, q5, q6, q7, fun z => ?_, fun z => ?_⟩
    · unfold wyI at q ⊢
      rw [e17 i z, e18 i z]; exact q
    · rw [Int32.add_zero]; exact q.2.2.1
  · rw [e19, e20, e21]; exact h5 i a b
theorem run0_g (m : Cm) (w : Int32) {g : Nat} (h : ¬ g = 0 ∧ ¬ g = 17 ∧ ¬ g = 18) : run0 m w g = m g ∧ runF m w g = m g := by
  unfold run0 runF
  refine ⟨?_, ?_⟩ <;> rw [u3_ne _ _ _ h.2.2, u3_ne _ _ _ h.2.1, u3_ne _ _ _ h.1, u3_ne _ _ _ h.1, u3_ne _ _ _ h.1, u3_ne _ _ _ h.1]
theorem run0_s (m : Cm) (w : Int32) {k : Int32} (h : (¬ k = 56 ∧ ¬ k = 57) ∧ ¬ k = 58 ∧ ¬ k = 50) : run0 m w 0 0 k = m 0 0 k ∧ runF m w 0 0 k = m 0 0 k := by
  unfold run0 runF
  refine ⟨?_, ?_⟩ <;> rw [u3_ne _ _ _ (by decide), u3_ne _ _ _ (by decide), u3_s h.2.2, u3_s h.2.1, u3_s h.1.2, u3_s h.1.1]
theorem run0_17 (m : Cm) (w : Int32) {j : Int32} (h : ¬ j = w) : (run0 m w 17 0 j = m 17 0 j ∧ run0 m w 18 0 j = m 18 0 j) ∧ runF m w 17 0 j = m 17 0 j ∧ runF m w 18 0 j = m 18 0 j := by
  unfold run0 runF
  refine ⟨⟨?_, ?_⟩, ?_, ?_⟩
  · rw [u3_ne _ _ _ (by decide), u3_j h, u3_ne _ _ _ (by decide), u3_ne _ _ _ (by decide), u3_ne _ _ _ (by decide), u3_ne _ _ _ (by decide)]
  · rw [u3_j h, u3_ne _ _ _ (by decide), u3_ne _ _ _ (by decide), u3_ne _ _ _ (by decide), u3_ne _ _ _ (by decide), u3_ne _ _ _ (by decide)]
  · rw [u3_ne _ _ _ (by decide), u3_j h, u3_ne _ _ _ (by decide), u3_ne _ _ _ (by decide), u3_ne _ _ _ (by decide), u3_ne _ _ _ (by decide)]
  · rw [u3_j h, u3_ne _ _ _ (by decide), u3_ne _ _ _ (by decide), u3_ne _ _ _ (by decide), u3_ne _ _ _ (by decide), u3_ne _ _ _ (by decide)]
theorem run0_w (m : Cm) (w : Int32) : (run0 m w 17 0 w = 1 ∧ run0 m w 18 0 w = 0) ∧ runF m w 17 0 w = 3 ∧ runF m w 18 0 w = 1 := by
  unfold run0 runF
  exact ⟨⟨by rw [u3_ne _ _ _ (by decide), u3_at], by rw [u3_at]⟩, by rw [u3_ne _ _ _ (by decide), u3_at], by rw [u3_at]⟩
theorem run0_ok (hk : Ok12 m) (hw : vp_in w 60) : Ok12 (run0 m w) ∧ Ok12 (runF m w) := by
  have h57 : vp_in (m 13 0 w) 4 := by
    have := hk.2.2.2.2.1.1 w hw; exact this
  have a : OkT m (u3 (u3 (u3 (u3 m 0 0 56 w) 0 0 57 (m 13 0 w)) 0 0 58 0) 0 0 50 0) := okT_s50 (okT_put0 (okT_s57 (okT_s56 ⟨hk, rfl, rfl⟩ hw) h57) (by decide)) (by decide)
  exact ⟨ok12_putA (ok12_putA a.1 (by decide)) (by decide), ok12_putA (ok12_putA a.1 (by decide)) (by decide)⟩
end RUN
