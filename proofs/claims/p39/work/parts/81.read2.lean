/-! READING: letters, minus, the others; a sign in both -/
section READ
variable {M : Wm}
theorem letterR_c {st p v : Int32} (h : Rd (M 6) st) : (¬ (if st = 0 then (11 : Int32) else if st ≤ 10 then -1 else if 16 ≤ st then -1 else st + 1) = -1 → (f6_takesLetter M p v).1 = true ∧ Rd ((f6_takesLetter M p v).2 6) (if st = 0 then (11 : Int32) else if st ≤ 10 then -1 else if 16 ≤ st then -1 else st + 1) ∧ (f6_takesLetter M p v).2 6 0 0 2 = M 6 0 0 2) ∧ ((if st = 0 then (11 : Int32) else if st ≤ 10 then -1 else if 16 ≤ st then -1 else st + 1) = -1 → (f6_takesLetter M p v).1 = false) := by
  have t6 : (6 : Int32).toInt = 6 := by decide
  have t10 : (10 : Int32).toInt = 10 := by decide
  have t16 : (16 : Int32).toInt = 16 := by decide
  have hd : ¬ M 6 0 0 3 = 1 → ¬ M 6 0 0 3 = 2 → ∃ N : Wm, f6_takesLetter M p v = f6_growsWord (uW N 6 (u3 (N 6) 0 0 3 3)) 27 v ∧ (M 6 0 0 3 = 0 → N 6 0 0 5 = 0) ∧ (¬ M 6 0 0 3 = 0 → N 6 0 0 5 = M 6 0 0 5) ∧ N 6 0 0 2 = M 6 0 0 2 := by
    intro h1 h2
    unfold f6_takesLetter
    simp only [bnd_e, jn_e]
    rw [if_neg h1, if_neg h2]
    by_cases c0 : M 6 0 0 3 = 0
    · rw [if_pos c0]; exact ⟨f6_beginWord M p 2, rfl, fun _ => rfl, fun z => absurd c0 z, rfl⟩
    · rw [if_neg c0]; exact ⟨M, rfl, fun z => absurd z c0, fun _ => rfl, rfl⟩
  have go : ∀ (N : Wm) (l : Int32), f6_takesLetter M p v = f6_growsWord (uW N 6 (u3 (N 6) 0 0 3 3)) 27 v → N 6 0 0 5 = l → N 6 0 0 2 = M 6 0 0 2 → (0 ≤ l.toInt ∧ l.toInt ≤ 6) → (l.toInt < 6 → (f6_takesLetter M p v).1 = true ∧ Rd ((f6_takesLetter M p v).2 6) (10 + (l + 1)) ∧ (f6_takesLetter M p v).2 6 0 0 2 = M 6 0 0 2) ∧ (¬ l.toInt < 6 → (f6_takesLetter M p v).1 = false) := by
    intro N l e el e2 hl
    have el' : (uW N 6 (u3 (N 6) 0 0 3 3)) 6 0 0 5 = l := el
    rw [e, grows_e, el']
    refine ⟨fun z => ?_, fun z => ?_⟩
    · rw [if_pos (by simp only [i32lt, t6]; exact z)]
      have e1 : (l + 1).toInt = l.toInt + 1 := inc_t hl.1 (by omega)
      refine ⟨rfl, Or.inr (Or.inr (Or.inr ?_)), e2⟩
      have e5 : ((true, growW (uW N 6 (u3 (N 6) 0 0 3 3)) 27 v) : Bool × Wm).2 6 0 0 5 = l + 1 := by
        show (uW N 6 (u3 (N 6) 0 0 3 3)) 6 0 0 5 + 1 = _
        rw [el']
      exact ⟨rfl, by rw [e5], by rw [e5, e1]; omega, by rw [e5, e1]; omega⟩
    · rw [if_neg (by simp only [i32lt, t6]; exact z)]
  rcases h with ⟨k, z⟩ | ⟨k, z, l0⟩ | ⟨k, z, l1, l2⟩ | ⟨k, z, l1, l2⟩
  · obtain ⟨N, e, n0, n1, n2⟩ := hd (by rw [k]; decide) (by rw [k]; decide)
    have G := go N 0 e (n0 k) n2 (by decide)
    subst z
    rw [if_pos rfl]
    exact ⟨fun _ => G.1 (by decide), fun y => absurd y (by decide)⟩
  · subst z
    rw [if_neg (show ¬ (1 : Int32) = 0 by decide), if_pos (show (1 : Int32) ≤ 10 by decide)]
    refine ⟨fun y => absurd rfl y, fun _ => ?_⟩
    unfold f6_takesLetter
    rw [if_pos k]
  · have ts : st.toInt = 2 + (M 6 0 0 5).toInt := by rw [z, i32addn (by rw [t32_2]; omega) (by rw [t32_2]; omega), t32_2]
    have n0 : ¬ st = 0 := by rw [i32eq, t32_0]; omega
    rw [if_neg n0, if_pos (by simp only [i32le, t10]; omega)]
    refine ⟨fun y => absurd rfl y, fun _ => ?_⟩
    unfold f6_takesLetter
    rw [if_neg (by rw [k]; decide), if_pos k]
  · have ts : st.toInt = 10 + (M 6 0 0 5).toInt := by rw [z, i32addn (by rw [t10]; omega) (by rw [t10]; omega), t10]
    have n0 : ¬ st = 0 := by rw [i32eq, t32_0]; omega
    obtain ⟨N, e, m0, n1, n2⟩ := hd (by rw [k]; decide) (by rw [k]; decide)
    have G := go N (M 6 0 0 5) e (n1 (by rw [k]; decide)) n2 ⟨by omega, by omega⟩
    rw [if_neg n0, if_neg (by simp only [i32le, t10]; omega)]
    by_cases c : (M 6 0 0 5).toInt < 6
    · rw [if_neg (by simp only [i32le, t16]; omega)]
      have e1 : st + 1 = 10 + (M 6 0 0 5 + 1) := by rw [z, Int32.add_assoc]
      rw [e1]
      refine ⟨fun _ => G.1 c, fun y => ?_⟩
      rw [← e1, i32eq, inc_t (by omega) (by omega)] at y
      have : (-1 : Int32).toInt = -1 := by decide
      omega
    · rw [if_pos (by simp only [i32le, t16]; omega)]
      exact ⟨fun y => absurd rfl y, fun _ => G.2 c⟩
theorem minusR_c {st p : Int32} (h : Rd (M 6) st) : (st = 0 → (f6_takesMinus M p).1 = true ∧ Rd ((f6_takesMinus M p).2 6) 1 ∧ (f6_takesMinus M p).2 6 0 0 2 = M 6 0 0 2) ∧ (¬ st = 0 → (f6_takesMinus M p).1 = false) := by
  have k0 : M 6 0 0 3 = 0 ↔ st = 0 := by
    have t10 : (10 : Int32).toInt = 10 := by decide
    rcases h with ⟨k, z⟩ | ⟨k, z, l0⟩ | ⟨k, z, l1, l2⟩ | ⟨k, z, l1, l2⟩
    · exact ⟨fun _ => z, fun _ => k⟩
    · rw [k, z]
    · rw [k]
      refine ⟨fun y => absurd y (by decide), fun y => ?_⟩
      rw [z, i32eq, i32addn (by rw [t32_2]; omega) (by rw [t32_2]; omega), t32_2, t32_0] at y; omega
    · rw [k]
      refine ⟨fun y => absurd y (by decide), fun y => ?_⟩
      rw [z, i32eq, i32addn (by rw [t10]; omega) (by rw [t10]; omega), t10, t32_0] at y; omega
  have e : f6_takesMinus M p = if M 6 0 0 3 = 0 then (true, uW (uW (f6_beginWord M p 1) 6 (u3 (f6_beginWord M p 1 6) 0 0 6 1)) 6 (u3 (u3 (f6_beginWord M p 1 6) 0 0 6 1) 0 0 3 1)) else (false, M) := rfl
  rw [e]
  refine ⟨fun z => ?_, fun z => ?_⟩
  · rw [if_pos (k0.mpr z)]
    exact ⟨rfl, Or.inr (Or.inl ⟨rfl, rfl, rfl⟩), rfl⟩
  · rw [if_neg (fun y => z (k0.mp y))]
end READ
