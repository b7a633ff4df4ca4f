/-! EVERY CALL keeps what stands between two calls -/
section JOP
variable {x : Int32 → Int32} {BQ BO : Int} {M : Wm} {p1 p2 p3 p4 : Int32}
theorem demC_ok {a : Int32} (h : f11_demandCompany a = 0) : vp_in a 4 := demandCompany_ok h
theorem j_type (h : J0 x BQ BO M) : J0 x BQ BO (f11_type M p1 p2).2 := by
  unfold f11_type; simp only [bnd_e, jn_e]
  repeat' split
  all_goals first | with_reducible exact h | exact h.fr rfl rfl rfl
theorem j_erase (h : J0 x BQ BO M) : J0 x BQ BO (f11_erase M p1 p2).2 := by
  unfold f11_erase; simp only [bnd_e, jn_e]
  repeat' split
  all_goals first | with_reducible exact h | exact h.fr rfl rfl rfl
theorem j_read (h : J0 x BQ BO M) : J0 x BQ BO (f8_readChanged M) :=
  h.fr (rcS_readChanged M 1 (by decide) (by decide) (by decide)) (rcS_readChanged M 4 (by decide) (by decide) (by decide)) (rcS_readChanged M 5 (by decide) (by decide) (by decide))
theorem j_fault (h : J0 x BQ BO M) : J0 x BQ BO (f11_fault M p1).2 := by
  have hr := j_read h
  unfold f11_fault; simp only [bnd_e, jn_e]
  repeat' split
  all_goals first | with_reducible exact h | with_reducible exact hr
theorem j_expressions (h : J0 x BQ BO M) : J0 x BQ BO (f11_expressions M p1).2 := by
  have hr := j_read h
  unfold f11_expressions; simp only [bnd_e, jn_e]
  repeat' split
  all_goals first | with_reducible exact h | with_reducible exact hr
theorem J0.q (h : J0 x BQ BO M) {BQ' : Int} {y : Cm} (hy : QI BQ' y) : J0 x BQ' BO (uW M 5 y) := ⟨hy, h.2⟩
theorem J0.qm {BQ' : Int} (h : J0 x BQ BO M) (h1 : BQ ≤ BQ') (h2 : BQ' ≤ 2000000000) : J0 x BQ' BO M := ⟨h.1.mono h1 h2, h.2⟩
theorem j_giveRations (h : J0 x BQ BO M) (hB : BQ + 100000 ≤ 2000000000) : J0 x (BQ + 100000) BO (f11_giveRations M p1 p2).2 := by
  have hm := h.qm (BQ' := BQ + 100000) (by omega) hB
  unfold f11_giveRations; simp only [bnd_e, jn_e]
  by_cases c1 : f11_demandCompany p1 = 0
  · rw [if_pos c1]
    by_cases c2 : f11_demand (f11_isIn p2 1 1000) = 0
    · rw [if_pos c2]
      have hi := isIn11_t (demand_ok c2)
      rw [t32_1, t32_1000] at hi
      exact h.q (h.1.give (demC_ok c1) hi.1 hi.2 hB)
    · rw [if_neg c2]; exact hm
  · rw [if_neg c1]; exact hm
theorem j_setTariff (h : J0 x BQ BO M) : J0 x BQ BO (f11_setTariff M p1).2 := by
  unfold f11_setTariff; simp only [bnd_e, jn_e]
  by_cases c2 : f11_demand (f11_isIn p1 0 100) = 0
  · rw [if_pos c2]
    have hi := isIn11_t (demand_ok c2)
    rw [t32_0, t32_100] at hi
    exact h.q (h.1.tariff hi.1 hi.2)
  · rw [if_neg c2]; exact h
theorem j_setBuying {b : Bool} (h : J0 x BQ BO M) : J0 x BQ BO (f11_setBuying M p1 b).2 := by
  unfold f11_setBuying; simp only [bnd_e, jn_e]
  by_cases c1 : f11_demandCompany p1 = 0
  · rw [if_pos c1]
    exact h.q (BQ' := BQ) (y := u3 (M 5) 3 0 p1 (b2i b)) h.1
  · rw [if_neg c1]; exact h
theorem j_setCredit (h : J0 x BQ BO M) : J0 x BQ BO (f11_setCredit M p1 p2 p3).2 := by
  have hc : f11_isIn p3 0 1000 = true → J0 x BQ BO (uW M 5 (f5_changeCredit (M 5) p1 p2 p3).2) := fun hi => by
    have hi' := isIn11_t hi
    rw [t32_0, t32_1000] at hi'
    obtain ⟨q1, q2, q3, q4⟩ := h.1
    refine h.q (BQ' := BQ) (y := u3 (M 5) 8 p2 p1 p3) ⟨q1, q2, fun a b ha hb => ⟨(q3 a b ha hb).1, ?_⟩, q4⟩
    by_cases e : a = p2
    · rw [e]
      by_cases e2 : b = p1
      · rw [e2, u3_at]; exact hi'.1
      · rw [u3_j e2, ← e]; exact (q3 a b ha hb).2
    · rw [u3_i e]; exact (q3 a b ha hb).2
  unfold f11_setCredit; simp only [bnd_e, jn_e]
  generalize f5_changeCredit (M 5) p1 p2 p3 = R at hc ⊢
  by_cases c1 : f11_demandCompany p1 = 0
  · rw [if_pos c1]
    by_cases c0 : f11_demandCompany p2 = 0
    · rw [if_pos c0]
      by_cases c2 : p1 = p2
      · rw [if_pos c2, if_neg (show ¬ f11_demand false = 0 by decide)]; exact h
      · rw [if_neg c2]
        by_cases c3 : f11_isIn p3 0 1000 = true
        · rw [if_pos c3, if_pos (show f11_demand true = 0 by decide)]; exact hc c3
        · rw [if_neg c3, if_neg (show ¬ f11_demand false = 0 by decide)]; exact h
    · rw [if_neg c0]; exact h
  · rw [if_neg c1]; exact h
theorem j_buy (h : J0 x BQ BO M) : J0 x BQ BO (f11_buy M p1 p2).2 := by
  have hc : vp_in p1 4 → 1 ≤ p2.toInt → p2.toInt ≤ (f5_rationsOf (M 5) p1).toInt → J0 x BQ BO (uW M 5 (f5_buyFuel (M 5) p1 p2).2) := fun a b c => h.q (h.1.buyFuel a (by omega) c)
  unfold f11_buy; simp only [bnd_e, jn_e]
  generalize f5_buyFuel (M 5) p1 p2 = R at hc ⊢
  by_cases c1 : f11_demandCompany p1 = 0
  · rw [if_pos c1]
    by_cases c2 : p2 < 1
    · rw [if_pos c2, if_neg (show ¬ f11_demand false = 0 by decide)]; exact h
    · rw [if_neg c2, if_pos (show f11_demand true = 0 by decide)]
      by_cases c3 : f5_rationsOf (M 5) p1 < p2
      · rw [if_pos c3, if_neg (show ¬ f11_demandState false = 0 by decide)]; exact h
      · rw [if_neg c3, if_pos (show f11_demandState true = 0 by decide)]
        simp only [i32lt, t32_1] at c2 c3
        exact hc (demC_ok c1) (by omega) (by omega)
  · rw [if_neg c1]; exact h
theorem j_payBack (h : J0 x BQ BO M) : J0 x BQ BO (f11_payBack M p1 p2 p3).2 := by
  have hc : vp_in p1 4 → vp_in p2 4 → 1 ≤ p3.toInt → p3.toInt ≤ (f5_debtOf (M 5) p1 p2).toInt → p3.toInt ≤ (f5_fuelOf (M 5) p1).toInt → J0 x BQ BO (uW M 5 (f5_payFromFuel (M 5) p1 p2 p3).2) := fun a b c d e => h.q (by
    rcases h.1.pay a b (p := p3) (by omega) d e with ⟨g, _⟩ | ⟨g, _⟩ <;> exact g)
  unfold f11_payBack; simp only [bnd_e, jn_e]
  generalize f5_payFromFuel (M 5) p1 p2 p3 = R at hc ⊢
  by_cases c1 : f11_demandCompany p1 = 0
  · rw [if_pos c1]
    by_cases c0 : f11_demandCompany p2 = 0
    · rw [if_pos c0]
      by_cases c2 : p3 < 1
      · rw [if_pos c2, if_neg (show ¬ f11_demand false = 0 by decide)]; exact h
      · rw [if_neg c2, if_pos (show f11_demand true = 0 by decide)]
        by_cases c3 : f5_debtOf (M 5) p1 p2 < p3
        · rw [if_pos c3, if_neg (show ¬ f11_demandState false = 0 by decide)]; exact h
        · rw [if_neg c3]
          by_cases c5 : f5_fuelOf (M 5) p1 < p3
          · rw [if_pos c5, if_neg (show ¬ f11_demandState false = 0 by decide)]; exact h
          · rw [if_neg c5, if_pos (show f11_demandState true = 0 by decide)]
            simp only [i32lt, t32_1] at c2 c3 c5
            exact hc (demC_ok c1) (demC_ok c0) (by omega) (by omega) (by omega)
    · rw [if_neg c0]; exact h
  · rw [if_neg c1]; exact h
theorem J0.add (h : J0 x BQ BO M) {c s hr b : Int32} (hc : vp_in c 4) (hh : 1 ≤ hr.toInt ∧ hr.toInt ≤ 100) (hb : 1 ≤ b.toInt ∧ b.toInt ≤ 1000) : J0 x BQ BO (uW M 4 (f4_add (M 4) c s hr b).2) := by
  obtain ⟨h1, h2, h3, h4, h5⟩ := h
  obtain ⟨a1, a2, _, _⟩ := h2.add (c := c) (s := s) (h := hr) (b := b) (by have := h2.1.1; rw [show (-1 : Int32).toInt = -1 by decide]; omega) hc ⟨by omega, hb.2⟩ hh.1 hh.2 h3.1
  exact ⟨h1, a1, h3, h4.mono a2, h5⟩
theorem j_order (h : J0 x BQ BO M) : J0 x BQ BO (f11_order M p1 p2 p3 p4).2 := by
  have hc : vp_in p1 4 → f11_isIn p3 1 100 = true → f11_isIn p4 1 1000 = true → J0 x BQ BO (uW M 4 (f4_add (M 4) p1 p2 p3 p4).2) := fun a b c => by
    have ib := isIn11_t b; have ic := isIn11_t c
    rw [t32_1, t32_100] at ib; rw [t32_1, t32_1000] at ic
    exact h.add a ib ic
  unfold f11_order; simp only [bnd_e, jn_e]
  generalize f4_add (M 4) p1 p2 p3 p4 = R at hc ⊢
  by_cases c1 : f11_demandCompany p1 = 0
  · rw [if_pos c1]
    by_cases c0 : f11_demandScript p2 = 0
    · rw [if_pos c0]
      by_cases c2 : f11_isIn p3 1 100 = true
      · rw [if_pos c2]
        by_cases c3 : f11_isIn p4 1 1000 = true
        · rw [if_pos c3, if_pos (show f11_demand true = 0 by decide)]
          have hc' := hc (demC_ok c1) c2 c3
          by_cases c5 : f4_areFull (M 4) = true
          · rw [if_pos c5, if_neg (show ¬ f11_demandState false = 0 by decide)]; exact h
          · rw [if_neg c5, if_pos (show f11_demandState true = 0 by decide)]; exact hc'
        · rw [if_neg c3, if_neg (show ¬ f11_demand false = 0 by decide)]; exact h
      · rw [if_neg c2, if_neg (show ¬ f11_demand false = 0 by decide)]; exact h
    · rw [if_neg c0]; exact h
  · rw [if_neg c1]; exact h
/-- a supply: so much more of one good -/
def upx (x : Int32 → Int32) (g n : Int32) : Int32 → Int32 := fI x g (x g + n)
theorem j_supply (h : J0 x BQ BO M) : J0 (if (f11_supply M p1 p2).1.1 = 0 then upx x p1 p2 else x) BQ BO (f11_supply M p1 p2).2 := by
  unfold f11_supply; simp only [bnd_e, jn_e]
  by_cases c1 : f11_demandGood p1 = 0
  · rw [if_pos c1]
    by_cases c2 : f11_demand (f11_isIn p2 1 1000) = 0
    · rw [if_pos c2]
      dsimp only
      rw [if_pos rfl]
      obtain ⟨h1, h2, h3, h4, h5⟩ := h
      refine ⟨h1, h2, h3, h4, ?_⟩
      show fI (M 1 2 0) p1 (M 1 2 0 p1 + p2) = fI x p1 (x p1 + p2)
      rw [h5]
    · rw [if_neg c2]; dsimp only; rw [if_neg c2]; exact h
  · rw [if_neg c1]; dsimp only; rw [if_neg c1]; exact h
end JOP
