/-! PASS: what the reference's hours need, from what one run needs -/
section PASS
theorem PsI_of {P Q : Cm → Prop} (h60 : ∀ m, P m → (m 0 0 11).toInt ≤ 60) (hrun : ∀ (m : Cm) (w : Int32), P m → 0 ≤ w.toInt → w.toInt < (m 0 0 11).toInt → m 17 0 w = 0 → m 15 0 w = m 0 0 10 → RunOk m w ∧ OkT m (f12_run m w) ∧ P (f12_run m w)) (hQ : ∀ m, P m → Q m) : ∀ (k : Nat) (m : Cm) (w : Int32), P m → 0 ≤ w.toInt → w.toInt ≤ 61 → 60 - w.toInt < k → PsI Q k m w := by
  intro k
  induction k with
  | zero =>
    intro m w hp h0 _ h
    refine ⟨?_, hQ m hp⟩
    have := h60 m hp
    simp only [i32le]; omega
  | succ k ih =>
    intro m w hp h0 h1 h
    have hm := h60 m hp
    unfold PsI
    by_cases c : m 0 0 11 ≤ w
    · rw [if_pos c]; exact hQ m hp
    · rw [if_neg c]
      simp only [i32le] at c
      have e1 : (w + 1).toInt = w.toInt + 1 := inc_t h0 (by omega)
      by_cases a : m 17 0 w = 0 ∧ m 15 0 w = m 0 0 10
      · rw [if_pos a]
        obtain ⟨r1, r2, r3⟩ := hrun m w hp h0 (by omega) a.1 a.2
        exact ⟨r1, r2, ih _ (w + 1) r3 (by omega) (by omega) (by omega)⟩
      · rw [if_neg a]
        exact ih m (w + 1) hp (by omega) (by omega) (by omega)
theorem PsO_of {P : Cm → Prop} {hs : Int32} {h0 : Int} (hB : h0 + hs.toInt ≤ 1000) (hh : hs.toInt ≤ 100) (h60 : ∀ m, P m → (m 0 0 11).toInt ≤ 60) (hrun : ∀ (m : Cm) (w : Int32), P m → 0 ≤ w.toInt → w.toInt < (m 0 0 11).toInt → m 17 0 w = 0 → m 15 0 w = m 0 0 10 → RunOk m w ∧ OkT m (f12_run m w) ∧ P (f12_run m w) ∧ (f12_run m w) 0 0 10 = m 0 0 10) (hinc : ∀ m, P m → 0 ≤ (m 0 0 10).toInt → (m 0 0 10).toInt < 1000 → P (u3 m 0 0 10 (m 0 0 10 + 1))) (hz : 0 ≤ h0) : ∀ (k : Nat) (m : Cm) (i : Int32), P m → (m 0 0 10).toInt = h0 + i.toInt → 0 ≤ i.toInt → hs.toInt - i.toInt ≤ k → PsO hs k m i := by
  intro k
  induction k with
  | zero =>
    intro m i _ _ _ h
    show hs ≤ i
    simp only [i32le]; omega
  | succ k ih =>
    intro m i hp hi h1 h
    unfold PsO
    by_cases c : hs ≤ i
    · exact Or.inl c
    · right
      simp only [i32le] at c
      have e1 : (i + 1).toInt = i.toInt + 1 := inc_t h1 (by omega)
      have e10 : (m 0 0 10 + 1).toInt = (m 0 0 10).toInt + 1 := inc_t (by omega) (by omega)
      refine PsI_of (P := fun m' => P m' ∧ (m' 0 0 10).toInt = h0 + (i + 1).toInt) (fun m' hp' => h60 m' hp'.1) (fun m' w hp' a b d e => ?_) (fun m' hp' => ih m' (i + 1) hp'.1 hp'.2 (by omega) (by omega)) 61 _ 0 ⟨hinc m hp (by omega) (by omega), ?_⟩ (by decide) (by decide) (by decide)
      · obtain ⟨r1, r2, r3, r4⟩ := hrun m' w hp'.1 a b d e
        exact ⟨r1, r2, r3, by rw [r4]; exact hp'.2⟩
      · rw [u3_at, e10]; omega
end PASS
