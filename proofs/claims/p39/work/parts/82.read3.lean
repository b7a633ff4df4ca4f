/-! READING: a sign, in both -/
section READ
variable {M : Wm}
theorem Rd.one {r : Cm} {st : Int32} (h : Rd r st) : r 0 0 3 = 1 ↔ st = 1 := by
  have t10 : (10 : Int32).toInt = 10 := by decide
  rcases h with ⟨k, z⟩ | ⟨k, z, l0⟩ | ⟨k, z, l1, l2⟩ | ⟨k, z, l1, l2⟩
  · rw [k, z]
  · exact ⟨fun _ => z, fun _ => k⟩
  · rw [k]
    refine ⟨fun y => absurd y (by decide), fun y => ?_⟩
    rw [z, i32eq, i32addn (by rw [t32_2]; omega) (by rw [t32_2]; omega), t32_2, t32_1] at y; omega
  · rw [k]
    refine ⟨fun y => absurd y (by decide), fun y => ?_⟩
    rw [z, i32eq, i32addn (by rw [t10]; omega) (by rw [t10]; omega), t10, t32_1] at y; omega
/-- what a sign does to the depth -/
def dl32 (g : Int32) : Int32 := if g = 40 then 1 else if g = 41 then -1 else 0
theorem sign_c {st p g : Int32} (h : Rd (M 6) st) (hd : 0 ≤ (M 6 0 0 2).toInt ∧ (M 6 0 0 2).toInt ≤ 20) (hg : sgOk g) : (¬ f12_read g st = -1 → ¬ M 6 0 0 2 + dl32 g < 0 → M 6 0 0 2 + dl32 g ≤ 20 → (f6_takesSign M p g).1 = true ∧ Rd ((f6_takesSign M p g).2 6) (f12_read g st) ∧ (f6_takesSign M p g).2 6 0 0 2 = M 6 0 0 2 + dl32 g) ∧ ((f12_read g st = -1 ∨ M 6 0 0 2 + dl32 g < 0 ∨ ¬ M 6 0 0 2 + dl32 g ≤ 20) → (f6_takesSign M p g).1 = false) := by
  have t20 : (20 : Int32).toInt = 20 := by decide
  have tm : (-1 : Int32).toInt = -1 := by decide
  have dz : ∀ x : Int32, M 6 0 0 2 + (0 : Int32) = M 6 0 0 2 := fun _ => Int32.add_zero _
  have d0 : ¬ M 6 0 0 2 + (0 : Int32) < 0 ∧ M 6 0 0 2 + (0 : Int32) ≤ 20 := by
    rw [dz 0]; simp only [i32lt, i32le, t32_0, t20]; omega
  unfold f6_takesSign f12_read
  simp only [bnd_e]
  have ed : f6_isDigit g = f12_isDigit g := rfl
  have el : f6_isLetter g = f12_isLetter g := rfl
  rw [ed, el]
  by_cases c1 : f12_isDigit g = true
  · have w := wd_48 (Or.inl c1)
    have e0 : dl32 g = 0 := by
      unfold dl32
      rw [if_neg (wd_ne (Or.inl c1) (by decide)), if_neg (wd_ne (Or.inl c1) (by decide))]
    rw [if_pos c1, if_pos c1, e0]
    have D := digit_c (p := p) (v := g - 48) h
    refine ⟨fun a _ _ => ?_, fun a => ?_⟩
    · have := D.1 a
      exact ⟨this.1, this.2.1, this.2.2.trans (dz 0).symm⟩
    · rcases a with a | a | a
      · exact D.2 a
      · exact absurd a d0.1
      · exact absurd d0.2 a
  · rw [if_neg c1, if_neg c1]
    by_cases c2 : f12_isLetter g = true
    · have e0 : dl32 g = 0 := by
        unfold dl32
        rw [if_neg (wd_ne (Or.inr c2) (by decide)), if_neg (wd_ne (Or.inr c2) (by decide))]
      rw [if_pos c2, if_pos c2, e0]
      have D := letterR_c (p := p) (v := f10_digitOf g) h
      refine ⟨fun a _ _ => ?_, fun a => ?_⟩
      · have := D.1 a
        exact ⟨this.1, this.2.1, this.2.2.trans (dz 0).symm⟩
      · rcases a with a | a | a
        · exact D.2 a
        · exact absurd a d0.1
        · exact absurd d0.2 a
    · rw [if_neg c2, if_neg c2]
      by_cases c3 : g = 45
      · have e0 : dl32 g = 0 := by rw [c3]; rfl
        rw [if_pos c3, if_pos c3, e0]
        have D := minusR_c (p := p) h
        by_cases z : st = 0
        · rw [if_pos z]
          refine ⟨fun _ _ _ => ?_, fun a => ?_⟩
          · have := D.1 z
            exact ⟨this.1, this.2.1, this.2.2.trans (dz 0).symm⟩
          · rcases a with a | a | a
            · exact absurd a (by decide)
            · exact absurd a d0.1
            · exact absurd d0.2 a
        · rw [if_neg z]
          exact ⟨fun a => absurd rfl a, fun _ => D.2 z⟩
      · rw [if_neg c3, if_neg c3]
        by_cases c4 : st = 1
        · rw [if_pos (h.one.mpr c4), if_pos c4]
          exact ⟨fun a => absurd rfl a, fun _ => rfl⟩
        · rw [if_neg (fun y => c4 (h.one.mp y)), if_neg c4]
          by_cases c5 : g = 40
          · have e0 : dl32 g = 1 := by rw [c5]; rfl
            have e1 : (M 6 0 0 2 + 1).toInt = (M 6 0 0 2).toInt + 1 := inc_t hd.1 (by omega)
            rw [if_pos c5, e0]
            have eo : f6_opensList (uW M 6 (u3 (M 6) 0 0 3 0)) p = if M 6 0 0 2 < 20 then (true, uW (uW (uW (uW M 6 (u3 (M 6) 0 0 3 0)) 9 (f9_hang (f9_make (M 9) p 3) (M 6 2 0 (M 6 0 0 2)) p)) 6 (u3 (u3 (M 6) 0 0 3 0) 0 0 2 (M 6 0 0 2 + 1))) 6 (u3 (u3 (u3 (M 6) 0 0 3 0) 0 0 2 (M 6 0 0 2 + 1)) 2 0 (M 6 0 0 2 + 1) p)) else (false, uW M 6 (u3 (M 6) 0 0 3 0)) := by
              unfold f6_opensList
              simp only [bnd_e, uW_uW]
              rfl
            rw [eo]
            by_cases c6 : M 6 0 0 2 < 20
            · rw [if_pos c6]
              refine ⟨fun _ _ _ => ⟨rfl, Or.inl ⟨rfl, rfl⟩, rfl⟩, fun a => ?_⟩
              simp only [i32lt, t20] at c6
              rcases a with a | a | a
              · exact absurd a (by decide)
              · simp only [i32lt, e1, t32_0] at a; omega
              · simp only [i32le, e1, t20] at a; omega
            · rw [if_neg c6]
              simp only [i32lt, t20] at c6
              exact ⟨fun _ _ a => by simp only [i32le, e1, t20] at a; omega, fun _ => rfl⟩
          · rw [if_neg c5]
            by_cases c6 : g = 32
            · have e0 : dl32 g = 0 := by rw [c6]; rfl
              rw [if_pos c6, e0]
              refine ⟨fun _ _ _ => ⟨rfl, Or.inl ⟨rfl, rfl⟩, (dz 0).symm⟩, fun a => ?_⟩
              rcases a with a | a | a
              · exact absurd a (by decide)
              · exact absurd a d0.1
              · exact absurd d0.2 a
            · have c41 : g = 41 := by
                rcases hg with (z | z) | (z | z) | z | z
                · exact absurd z c6
                · exact absurd z c5
                · exact z
                · exact absurd z c3
                · exact absurd z c1
                · exact absurd z c2
              have e0 : dl32 g = -1 := by rw [c41]; rfl
              have e1 : (M 6 0 0 2 + -1).toInt = (M 6 0 0 2).toInt - 1 := by rw [i32addn (by rw [tm]; omega) (by rw [tm]; omega), tm]; omega
              rw [if_neg c6, e0]
              have ec : f6_closesList (u3 (M 6) 0 0 3 0) = if 0 < M 6 0 0 2 then (true, u3 (u3 (M 6) 0 0 3 0) 0 0 2 (M 6 0 0 2 - 1)) else (false, u3 (M 6) 0 0 3 0) := rfl
              rw [show (uW M 6 (u3 (M 6) 0 0 3 0)) 6 = u3 (M 6) 0 0 3 0 from rfl, ec]
              by_cases c7 : 0 < M 6 0 0 2
              · rw [if_pos c7]
                simp only [if_true]
                simp only [i32lt, t32_0] at c7
                refine ⟨fun _ _ _ => ⟨trivial, Or.inl ⟨rfl, rfl⟩, ?_⟩, fun a => ?_⟩
                · show M 6 0 0 2 - 1 = _
                  rw [Int32.sub_eq_add_neg]
                · rcases a with a | a | a
                  · exact absurd a (by decide)
                  · simp only [i32lt, e1, t32_0] at a; omega
                  · simp only [i32le, e1, t20] at a; omega
              · rw [if_neg c7]
                simp only [Bool.false_eq_true, if_false]
                simp only [i32lt, t32_0] at c7
                exact ⟨fun _ a _ => absurd (show M 6 0 0 2 + -1 < 0 by simp only [i32lt, e1, t32_0]; omega) a, fun _ => trivial⟩
end READ
