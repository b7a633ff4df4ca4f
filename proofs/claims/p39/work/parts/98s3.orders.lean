/-! ORDERS, MOVES, DEBTS: what the law asks of them -/
section ORA
variable {s : ST} {M : Wm} {i j : Int32}
theorem OKS.row (h : LST s M) (h0 : 0 ≤ i.toInt) (h1 : i.toInt < (M 4 0 0 1).toInt) : OS (M 4 4 i) ∧ 0 < (M 4 4 i 2).toInt ∧ 0 ≤ (M 4 4 i 6).toInt ∧ 0 ≤ (M 4 4 i 8).toInt := by
  have R := h.2.2.1.2.1.2.2.1 i h0 h1
  have ho := h.2.1.o
  have hv := h.2.1.2.2.1 i h0 (by rw [← ho.1]; exact h1)
  have e6 := (ho.2.2.2.1 i h0 h1).2.2.2.1
  exact ⟨R.2.2 (fun z => by rw [z] at h0; exact absurd h0 (by decide)), R.1.1, by rw [e6]; exact hv.1.1, R.2.1.1⟩
theorem or_2 (h : LST s M) {K : Unit → Nat × Int32} : ∀ (k : Nat) (i : Int32), 0 ≤ i.toInt → i.toInt ≤ (M 4 0 0 1).toInt → (M 4 0 0 1).toInt - i.toInt < k → fL_areOrdersSo_lp2 s K k i = K () := by
  intro k
  induction k with
  | zero => intro i i0 i1 hk; exfalso; omega
  | succ k ih =>
    intro i i0 i1 hk
    have h60 := h.2.1.o.2.2.1
    rw [fL_areOrdersSo_lp2_s, (q_n h).1]
    by_cases c : M 4 0 0 1 ≤ i
    · rw [if_pos c]
    · rw [if_neg c]
      simp only [i32le] at c
      have hi : i.toInt < (M 4 0 0 1).toInt := by omega
      have e1 : (i + 1).toInt = i.toInt + 1 := inc_t i0 (by omega)
      obtain ⟨⟨o1, o2, o3, o4⟩, r2, r6, r8⟩ := OKS.row h i0 hi
      have nx := ih (i + 1) (by omega) (by omega) (by omega)
      simp only [jn_e, bnd_e, q_state h i0 hi, q_why h i0 hi, q_done h i0 hi, q_used h i0 hi, q_hourOf h i0 hi, if_true]
      have b1 : ¬ M 4 4 i 4 < 0 := by simp only [i32lt, t32_0]; omega
      have b2 : ¬ (5 : Int32) ≤ M 4 4 i 4 := by simp only [i32le, show (5 : Int32).toInt = 5 by decide]; omega
      have b3 : ¬ M 4 4 i 6 < 0 := by simp only [i32lt, t32_0]; omega
      have b4 : ¬ M 4 4 i 8 < 0 := by simp only [i32lt, t32_0]; omega
      have b5 : ¬ M 4 4 i 2 ≤ 0 := by simp only [i32le, t32_0]; omega
      rw [if_neg b1, if_neg b2]
      by_cases c3 : M 4 4 i 4 = 3
      · have w := o2 c3
        have w1 : ¬ M 4 4 i 5 ≤ 0 := by simp only [i32le, t32_0]; omega
        have w2 : ¬ (7 : Int32) ≤ M 4 4 i 5 := by simp only [i32le, t32_7]; omega
        have n0 : ¬ M 4 4 i 4 = 0 := by rw [c3]; decide
        simp only [c3, w1, w2, b3, b4, b5, n0, if_true, if_false]
        first | exact nx | (simp; exact nx) | (rw [if_neg (by decide)]; exact nx)
      · have w := o3 c3
        have w1 : M 4 4 i 5 ≤ 0 := by rw [w]; decide
        have w2 : ¬ (7 : Int32) ≤ M 4 4 i 5 := by rw [w]; decide
        by_cases n0 : M 4 4 i 4 = 0
        · obtain ⟨d6, d8⟩ := o4 n0
          have n3 : ¬ (0 : Int32) = 3 := by decide
          have z0 : ¬ (0 : Int32) < 0 := by decide
          simp only [n0, n3, w1, w2, b5, d6, d8, z0, if_true, if_false]
          exact nx
        · simp only [c3, w1, w2, b3, b4, b5, n0, if_true, if_false]
          exact nx
theorem OKS.mv (h : LST s M) (h0 : 0 ≤ j.toInt) (h1 : j.toInt < (M 1 0 0 7).toInt) : (-1 ≤ (M 1 3 0 j).toInt ∧ (M 1 3 0 j).toInt < 4) ∧ (-1 ≤ (M 1 4 0 j).toInt ∧ (M 1 4 0 j).toInt < 4) ∧ ¬ M 1 3 0 j = M 1 4 0 j ∧ 0 < (M 1 6 0 j).toInt ∧ (0 ≤ (M 1 5 0 j).toInt ∧ (M 1 5 0 j).toInt < 8) ∧ 0 ≤ (M 1 7 0 j).toInt ∧ (M 1 7 0 j).toInt < (M 4 0 0 1).toInt := by
  obtain ⟨⟨e3, e4, e5, e6, e7⟩, v3, v4, v5, ne, am⟩ := h.2.1.b.2.2.1 j h0 h1
  have by_ := h.2.2.1.2.2.2.1 j h0 h1
  have rg : ∀ x : Int32, vp_in x 5 → -1 ≤ (ow x).toInt ∧ (ow x).toInt < 4 := by
    intro x hx
    refine inN (P := fun x => -1 ≤ (ow x).toInt ∧ (ow x).toInt < 4) (fun k hk => ?_) hx
    revert k
    decide +kernel
  rw [vp_in_iff] at v5
  refine ⟨by rw [e3]; exact rg _ v3, by rw [e4]; exact rg _ v4, fun z => ne (ow_e (by rw [← e3, ← e4]; exact z) v3 v4), by rw [e6]; exact am, by rw [e5]; omega, by_⟩
theorem or_125 (h : LST s M) {K : Unit → Nat × Int32} : ∀ (k : Nat) (j : Int32), 0 ≤ j.toInt → j.toInt ≤ (M 1 0 0 7).toInt → (M 1 0 0 7).toInt - j.toInt < k → fL_areOrdersSo_lp125 s K k j = K () := by
  intro k
  induction k with
  | zero => intro i i0 i1 hk; exfalso; omega
  | succ k ih =>
    intro j i0 i1 hk
    have h30 := h.2.1.b.2.1
    rw [fL_areOrdersSo_lp125_s, (q_n h).2.1]
    by_cases c : M 1 0 0 7 ≤ j
    · rw [if_pos c]
    · rw [if_neg c]
      simp only [i32le] at c
      have hi : j.toInt < (M 1 0 0 7).toInt := by omega
      have e1 : (j + 1).toInt = j.toInt + 1 := inc_t i0 (by omega)
      obtain ⟨f, t, ne, am, gd, by_⟩ := OKS.mv h i0 hi
      have nx := ih (j + 1) (by omega) (by omega) (by omega)
      have m1 : (-1 : Int32).toInt = -1 := by decide
      have b1 : ¬ M 1 3 0 j < -1 := by simp only [i32lt, m1]; omega
      have b2 : ¬ (4 : Int32) ≤ M 1 3 0 j := by simp only [i32le, c4t]; omega
      have b3 : ¬ M 1 4 0 j < -1 := by simp only [i32lt, m1]; omega
      have b4 : ¬ (4 : Int32) ≤ M 1 4 0 j := by simp only [i32le, c4t]; omega
      have b5 : ¬ M 1 6 0 j ≤ 0 := by simp only [i32le, t32_0]; omega
      have b6 : ¬ M 1 5 0 j < 0 := by simp only [i32lt, t32_0]; omega
      have b7 : ¬ (8 : Int32) ≤ M 1 5 0 j := by simp only [i32le, c8t]; omega
      have b8 : ¬ M 1 7 0 j < 0 := by simp only [i32lt, t32_0]; omega
      have b9 : ¬ M 4 0 0 1 ≤ M 1 7 0 j := by simp only [i32le]; omega
      simp only [jn_e, bnd_e, q_movedFrom h i0 hi, q_movedTo h i0 hi, q_movedAmount h i0 hi, q_movedGood h i0 hi, q_movedBy h i0 hi, (q_n h).1, ne, b1, b2, b3, b4, b5, b6, b7, b8, b9, if_true, if_false]
      exact nx
theorem or_245 (h : LST s M) {a : Int32} (ha : vp_in a 4) {K : Unit → Nat × Int32} : ∀ (k : Nat) (i : Int32), 0 ≤ i.toInt → i.toInt ≤ 4 → 4 - i.toInt < k → fL_areOrdersSo_lp245 s a K k i = K () := by
  intro k
  induction k with
  | zero => intro i i0 i1 hk; exfalso; omega
  | succ k ih =>
    intro i i0 i1 hk
    rw [fL_areOrdersSo_lp245_s]
    by_cases c : (4 : Int32) ≤ i
    · rw [if_pos c]
    · rw [if_neg c]
      simp only [i32le, c4t] at c
      have hi : vp_in i 4 := by rw [vp_in_iff]; omega
      have e1 : (i + 1).toInt = i.toInt + 1 := inc_t i0 (by omega)
      have nx := ih (i + 1) (by omega) (by omega) (by omega)
      have d0 := (h.2.2.1.1.2.2.1 a i ha hi).1
      have b1 : ¬ M 5 7 a i < 0 := by simp only [i32lt, t32_0]; omega
      simp only [bnd_e, q_debt h ha hi, if_true, b1, if_false]
      by_cases c2 : a = i
      · rw [if_pos c2, if_pos (show M 5 7 a i = 0 by rw [← c2]; exact h.2.2.1.1.2.2.2.1 a ha)]; exact nx
      · rw [if_neg c2]; exact nx
theorem or_238 (h : LST s M) {K : Unit → Nat × Int32} : ∀ (k : Nat) (i : Int32), 0 ≤ i.toInt → i.toInt ≤ 4 → 4 - i.toInt < k → fL_areOrdersSo_lp238 s K k i = K () := by
  intro k
  induction k with
  | zero => intro i i0 i1 hk; exfalso; omega
  | succ k ih =>
    intro i i0 i1 hk
    rw [fL_areOrdersSo_lp238_s]
    by_cases c : (4 : Int32) ≤ i
    · rw [if_pos c]
    · rw [if_neg c]
      simp only [i32le, c4t] at c
      have hi : vp_in i 4 := by rw [vp_in_iff]; omega
      have e1 : (i + 1).toInt = i.toInt + 1 := inc_t i0 (by omega)
      have nx := ih (i + 1) (by omega) (by omega) (by omega)
      have d0 := h.2.2.1.1.2.1 i hi
      have b1 : ¬ M 5 1 0 i < 0 := by simp only [i32lt, t32_0]; omega
      have b2 : (0 : Int32) ≤ M 5 2 0 i := by simp only [i32le, t32_0]; omega
      simp only [jn_e, bnd_e]
      rw [or_245 h hi 5 0 (by decide) (by decide) (by decide)]
      simp only [q_fuel h hi, q_rations h hi, if_true, b1, b2, if_false]
      exact nx
theorem or_all (h : LST s M) : fL_areOrdersSo s = (0, 1) := by
  have h60 := h.2.1.o.2.2.1
  have h30 := h.2.1.b.2.1
  unfold fL_areOrdersSo
  simp only [jn_e]
  rw [or_2 h 61 0 (by decide) (by rw [t32_0]; omega) (by rw [t32_0]; omega)]
  rw [or_125 h 3001 0 (by decide) (by rw [t32_0]; omega) (by rw [t32_0]; omega)]
  rw [or_238 h 5 0 (by decide) (by decide) (by decide)]
end ORA
