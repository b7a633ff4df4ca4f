/-! READING: the class' reader and the reference's, sign after sign -/
section READ
variable {M : Wm}
/-- the reader's word and the reference's state -/
def Rd (r : Cm) (st : Int32) : Prop := (r 0 0 3 = 0 ∧ st = 0) ∨ (r 0 0 3 = 1 ∧ st = 1 ∧ r 0 0 5 = 0) ∨ (r 0 0 3 = 2 ∧ st = 2 + r 0 0 5 ∧ 1 ≤ (r 0 0 5).toInt ∧ (r 0 0 5).toInt ≤ 6) ∨ (r 0 0 3 = 3 ∧ st = 10 + r 0 0 5 ∧ 1 ≤ (r 0 0 5).toInt ∧ (r 0 0 5).toInt ≤ 6)
theorem begin_6 (M : Wm) (p c : Int32) : f6_beginWord M p c 6 = u3 (u3 (u3 (M 6) 0 0 4 p) 0 0 5 0) 0 0 6 0 := rfl
def growW (M : Wm) (a b : Int32) : Wm := uW (uW M 6 (u3 (M 6) 0 0 5 (M 6 0 0 5 + 1))) 9 (f9_setContent (M 9) (M 6 0 0 4) ((f9_contentOf (M 9) (M 6 0 0 4) * a) + b))
theorem grows_e (M : Wm) (a b : Int32) : f6_growsWord M a b = if M 6 0 0 5 < 6 then (true, growW M a b) else (false, M) := rfl
/-- a digit -/
theorem digit_c {st p v : Int32} (h : Rd (M 6) st) : (¬ (if 2 ≤ st then if 8 ≤ st then (-1 : Int32) else st + 1 else 3) = -1 → (f6_takesDigit M p v).1 = true ∧ Rd ((f6_takesDigit M p v).2 6) (if 2 ≤ st then if 8 ≤ st then (-1 : Int32) else st + 1 else 3) ∧ (f6_takesDigit M p v).2 6 0 0 2 = M 6 0 0 2) ∧ ((if 2 ≤ st then if 8 ≤ st then (-1 : Int32) else st + 1 else 3) = -1 → (f6_takesDigit M p v).1 = false) := by
  have t6 : (6 : Int32).toInt = 6 := by decide
  have hd : ¬ M 6 0 0 3 = 3 → ∃ (N : Wm) (q : Int32), f6_takesDigit M p v = f6_growsWord (uW N 6 (u3 (N 6) 0 0 3 2)) 10 q ∧ (M 6 0 0 3 = 0 → N 6 0 0 5 = 0) ∧ (¬ M 6 0 0 3 = 0 → N 6 0 0 5 = M 6 0 0 5) ∧ N 6 0 0 2 = M 6 0 0 2 := by
    intro h3
    unfold f6_takesDigit
    simp only [bnd_e, jn_e]
    rw [if_neg h3]
    by_cases c0 : M 6 0 0 3 = 0
    · rw [if_pos c0]
      by_cases c : f6_beginWord M p 1 6 0 0 6 = 0
      · rw [if_pos c]; exact ⟨f6_beginWord M p 1, v, rfl, fun _ => rfl, fun z => absurd c0 z, rfl⟩
      · rw [if_neg c]; exact ⟨f6_beginWord M p 1, -v, rfl, fun _ => rfl, fun z => absurd c0 z, rfl⟩
    · rw [if_neg c0]
      by_cases c : M 6 0 0 6 = 0
      · rw [if_pos c]; exact ⟨M, v, rfl, fun z => absurd z c0, fun _ => rfl, rfl⟩
      · rw [if_neg c]; exact ⟨M, -v, rfl, fun z => absurd z c0, fun _ => rfl, rfl⟩
  have go : ∀ (N : Wm) (q l : Int32), f6_takesDigit M p v = f6_growsWord (uW N 6 (u3 (N 6) 0 0 3 2)) 10 q → N 6 0 0 5 = l → N 6 0 0 2 = M 6 0 0 2 → (0 ≤ l.toInt ∧ l.toInt ≤ 6) → (l.toInt < 6 → (f6_takesDigit M p v).1 = true ∧ Rd ((f6_takesDigit M p v).2 6) (2 + (l + 1)) ∧ (f6_takesDigit M p v).2 6 0 0 2 = M 6 0 0 2) ∧ (¬ l.toInt < 6 → (f6_takesDigit M p v).1 = false) := by
    intro N q l e el e2 hl
    have el' : (uW N 6 (u3 (N 6) 0 0 3 2)) 6 0 0 5 = l := el
    rw [e, grows_e, el']
    refine ⟨fun z => ?_, fun z => ?_⟩
    · rw [if_pos (by simp only [i32lt, t6]; exact z)]
      have e1 : (l + 1).toInt = l.toInt + 1 := inc_t hl.1 (by omega)
      refine ⟨rfl, Or.inr (Or.inr (Or.inl ?_)), e2⟩
      have e5 : ((true, growW (uW N 6 (u3 (N 6) 0 0 3 2)) 10 q) : Bool × Wm).2 6 0 0 5 = l + 1 := by
        show (uW N 6 (u3 (N 6) 0 0 3 2)) 6 0 0 5 + 1 = _
        rw [el']
      exact ⟨rfl, by rw [e5], by rw [e5, e1]; omega, by rw [e5, e1]; omega⟩
    · rw [if_neg (by simp only [i32lt, t6]; exact z)]
  have t8 : (8 : Int32).toInt = 8 := by decide
  rcases h with ⟨k, z⟩ | ⟨k, z, l0⟩ | ⟨k, z, l1, l2⟩ | ⟨k, z, l1, l2⟩
  · obtain ⟨N, q, e, n0, n1, n2⟩ := hd (by rw [k]; decide)
    have G := go N q 0 e (n0 k) n2 (by decide)
    subst z
    rw [if_neg (show ¬ (2 : Int32) ≤ 0 by decide)]
    exact ⟨fun _ => G.1 (by decide), fun y => absurd y (by decide)⟩
  · obtain ⟨N, q, e, n0, n1, n2⟩ := hd (by rw [k]; decide)
    have G := go N q 0 e ((n1 (by rw [k]; decide)).trans l0) n2 (by decide)
    subst z
    rw [if_neg (show ¬ (2 : Int32) ≤ 1 by decide)]
    exact ⟨fun _ => G.1 (by decide), fun y => absurd y (by decide)⟩
  · obtain ⟨N, q, e, n0, n1, n2⟩ := hd (by rw [k]; decide)
    have G := go N q (M 6 0 0 5) e (n1 (by rw [k]; decide)) n2 ⟨by omega, by omega⟩
    have ts : st.toInt = 2 + (M 6 0 0 5).toInt := by rw [z, i32addn (by rw [t32_2]; omega) (by rw [t32_2]; omega), t32_2]
    rw [if_pos (by simp only [i32le, t32_2]; omega)]
    by_cases c : (M 6 0 0 5).toInt < 6
    · rw [if_neg (by simp only [i32le, t8]; omega)]
      have e1 : st + 1 = 2 + (M 6 0 0 5 + 1) := by rw [z, Int32.add_assoc]
      rw [e1]
      refine ⟨fun _ => G.1 c, fun y => ?_⟩
      rw [← e1, i32eq, inc_t (by omega) (by omega)] at y
      have : (-1 : Int32).toInt = -1 := by decide
      omega
    · rw [if_pos (by simp only [i32le, t8]; omega)]
      exact ⟨fun y => absurd rfl y, fun _ => G.2 c⟩
  · have ts : st.toInt = 10 + (M 6 0 0 5).toInt := by
      have t10 : (10 : Int32).toInt = 10 := by decide
      rw [z, i32addn (by rw [t10]; omega) (by rw [t10]; omega), t10]
    rw [if_pos (by simp only [i32le, t32_2]; omega), if_pos (by simp only [i32le, t8]; omega)]
    refine ⟨fun y => absurd rfl y, fun _ => ?_⟩
    unfold f6_takesDigit
    rw [if_pos k]
end READ
