/-! BOTH ALIKE: what the law's first comparison comes to -/
section ALK
variable {sa sb : ST} {M : Wm}
theorem c4t : (4 : Int32).toInt = 4 := by decide
theorem c8t : (8 : Int32).toInt = 8 := by decide
theorem al_85 (h : LST sa M) (hm : sb.2.2 = sa.2.2) (x6 : Int32 × Bool) (hx : vp_in x6.1 4) {K : Bool → Nat × Int32} : ∀ (k : Nat) (i : Int32), 0 ≤ i.toInt → i.toInt ≤ 4 → 4 - i.toInt < k → fL_areAlike_lp85 sa sb x6 K k (i, true) = K true := by
  intro k
  induction k with
  | zero => intro i i0 i1 hk; exfalso; omega
  | succ k ih =>
    intro i i0 i1 hk
    rw [fL_areAlike_lp85_s]
    by_cases c : (4 : Int32) ≤ i
    · rw [if_pos c]
    · rw [if_neg c]
      simp only [i32le, c4t] at c
      have hi : vp_in i 4 := by rw [vp_in_iff]; omega
      have e1 : (i + 1).toInt = i.toInt + 1 := inc_t i0 (by omega)
      simp only [jn_e, bnd_e, hm, q_debt h hx hi, if_true]
      exact ih (i + 1) (by omega) (by omega) (by omega)
theorem al_41 (h : LST sa M) (hm : sb.2.2 = sa.2.2) {K : Bool → Nat × Int32} : ∀ (k : Nat) (i : Int32), 0 ≤ i.toInt → i.toInt ≤ 4 → 4 - i.toInt < k → fL_areAlike_lp41 sa sb K k (i, true) = K true := by
  intro k
  induction k with
  | zero => intro i i0 i1 hk; exfalso; omega
  | succ k ih =>
    intro i i0 i1 hk
    rw [fL_areAlike_lp41_s]
    by_cases c : (4 : Int32) ≤ i
    · rw [if_pos c]
    · rw [if_neg c]
      simp only [i32le, c4t] at c
      have hi : vp_in i 4 := by rw [vp_in_iff]; omega
      have e1 : (i + 1).toInt = i.toInt + 1 := inc_t i0 (by omega)
      simp only [jn_e, bnd_e, hm, q_fuel h hi, q_rations h hi, if_true]
      rw [al_85 h hm (i, true) hi 5 0 (by decide) (by decide) (by decide)]
      exact ih (i + 1) (by omega) (by omega) (by omega)
theorem al_132 (h : LST sa M) (hm : sb.2.2 = sa.2.2) {K : Bool → Nat × Int32} : ∀ (k : Nat) (i : Int32), 0 ≤ i.toInt → i.toInt ≤ 8 → 8 - i.toInt < k → fL_areAlike_lp132 sa sb K k (i, true) = K true := by
  intro k
  induction k with
  | zero => intro i i0 i1 hk; exfalso; omega
  | succ k ih =>
    intro i i0 i1 hk
    rw [fL_areAlike_lp132_s]
    by_cases c : (8 : Int32) ≤ i
    · rw [if_pos c]
    · rw [if_neg c]
      simp only [i32le, c8t] at c
      have hi : vp_in i 8 := by rw [vp_in_iff]; omega
      have e1 : (i + 1).toInt = i.toInt + 1 := inc_t i0 (by omega)
      simp only [jn_e, bnd_e, hm, q_length h hi, q_fault h hi, if_true]
      exact ih (i + 1) (by omega) (by omega) (by omega)
theorem al_182 (h : LST sa M) (hm : sb.2.2 = sa.2.2) {K : Bool → Nat × Int32} : ∀ (k : Nat) (i : Int32), 0 ≤ i.toInt → i.toInt ≤ (M 4 0 0 1).toInt → (M 4 0 0 1).toInt - i.toInt < k → fL_areAlike_lp182 sa sb K k (i, true) = K true := by
  intro k
  induction k with
  | zero => intro i i0 i1 hk; exfalso; omega
  | succ k ih =>
    intro i i0 i1 hk
    rw [fL_areAlike_lp182_s]
    have h60 := h.2.1.o.2.2.1
    rw [(q_n h).1]
    by_cases c : M 4 0 0 1 ≤ i
    · rw [if_pos c]
    · rw [if_neg c]
      simp only [i32le] at c
      have hi : i.toInt < (M 4 0 0 1).toInt := by omega
      have e1 : (i + 1).toInt = i.toInt + 1 := inc_t i0 (by omega)
      simp only [jn_e, bnd_e, hm, q_state h i0 hi, q_done h i0 hi, q_used h i0 hi, q_value h i0 hi, if_true]
      exact ih (i + 1) (by omega) (by omega) (by omega)
theorem al_all (h : LST sa M) (hm : sb.2.2 = sa.2.2) : fL_areAlike sa sb = (0, 1) := by
  have h60 := h.2.1.o.2.2.1
  unfold fL_areAlike
  simp only [jn_e, hm, if_true]
  rw [al_41 h hm 5 0 (by decide) (by decide) (by decide)]
  rw [al_132 h hm 9 0 (by decide) (by decide) (by decide)]
  rw [al_182 h hm 61 0 (by decide) (by rw [t32_0]; omega) (by rw [t32_0]; omega)]
  rfl
end ALK
