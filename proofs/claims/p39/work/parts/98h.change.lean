/-! CHANGES of purses, of the store, orders made: in both alike -/
section REL
variable {L : Int} {M M1 : Wm} {m m1 : Cm} {p1 p2 p3 p4 : Int32}
theorem u3_gc {m m' : Cm} {g : Nat} {i j x : Int32} (h : m' g = m g) : u3 m' g i j x g = u3 m g i j x g := by
  funext a; unfold u3; rw [h]
theorem InvO.fr {m m' : Cm} (h : InvO m) (e : m' 0 0 11 = m 0 0 11) (e16 : m' 16 = m 16) (e17 : m' 17 = m 17) (e19 : m' 19 = m 19) : InvO m' := by
  unfold InvO; rw [e, e16, e17, e19]; exact h
/-- purses change in both, nothing else -/
theorem OpR.pu {kf : Nat → Int32} {z : (Nat × Int32) × Wm} {f : Cm → Int32 × Cm} {v : Int32} {q' m' : Cm} (h : RW L M) (ez : z = ((0, v), uW M 5 q')) (ef : f (M 12) = (v, m')) (e0 : m' 0 0 0 = 0) (hg : ∀ g : Nat, ¬ g = 0 → ¬ g = 5 → ¬ g = 6 → ¬ g = 7 → ¬ g = 8 → ¬ g = 9 → m' g = M 12 g) (hs : ∀ k : Int32, ¬ k = 0 → ¬ k = 9 → m' 0 0 k = M 12 0 0 k) (hk : Ok12 m') (hQ : RelQ q' m') : OpR L M kf z f := by
  have hk0 := h.k
  obtain ⟨h1, ⟨q1, ⟨q2, q3, q4⟩, q5, q6, q7, q8⟩, h3, h4⟩ := h
  have G : ∀ g : Nat, (¬ g = 0 ∧ ¬ g = 5 ∧ ¬ g = 6) ∧ ¬ g = 7 ∧ ¬ g = 8 ∧ ¬ g = 9 → m' g = M 12 g := fun g x => hg g x.1.1 x.1.2.1 x.1.2.2 x.2.1 x.2.2.1 x.2.2.2
  have S : ∀ k : Int32, ¬ k = 0 ∧ ¬ k = 9 → m' 0 0 k = M 12 0 0 k := fun k x => hs k x.1 x.2
  refine OpR.ok ez (uW_ne _ _ (by decide)) ef e0 ?_ ⟨?_, ⟨?_, ?_, ?_⟩, ?_, ?_, hk, ?_⟩ (h3.fr (S 11 (by decide)) (G 16 (by decide)) (G 17 (by decide)) (G 19 (by decide))) h4
  · rw [uW_ne _ _ (show 9 ≠ 5 by decide), uW_ne _ _ (show 8 ≠ 5 by decide)]
    exact h1.fr hk0 ⟨G 2 (by decide), G 3 (by decide)⟩
  · rw [uW_at]; exact hQ
  · rw [uW_ne _ _ (show 1 ≠ 5 by decide)]
    unfold RelBk RelMv RelS at q2 ⊢
    rw [S 21 (by decide), G 23 (by decide), G 24 (by decide), G 25 (by decide), G 26 (by decide), G 27 (by decide), G 4 (by decide)]; exact q2
  · rw [uW_ne _ _ (show 1 ≠ 5 by decide)]; exact q3
  · rw [uW_ne _ _ (show 1 ≠ 5 by decide)]; exact q4.mono (by omega)
  · rw [uW_ne _ _ (show 4 ≠ 5 by decide)]
    exact q5.fr (S 11 (by decide)) (S 10 (by decide)) (G 13 (by decide)) (G 14 (by decide)) (G 15 (by decide)) (G 16 (by decide)) (G 17 (by decide)) (G 18 (by decide)) (G 19 (by decide)) (G 20 (by decide)) (G 21 (by decide))
  · rw [S 10 (by decide)]; exact q6
  · exact q8.fr (G 28 (by decide)) (G 29 (by decide)) (G 30 (by decide))
theorem RW.q0 (h : RW L M) : RelQ (M 5) (u3 (M 12) 0 0 0 0) := h.q.fr (u3_ne _ _ _ (by decide)) (u3_ne _ _ _ (by decide)) (u3_ne _ _ _ (by decide)) (u3_ne _ _ _ (by decide)) (u3_ne _ _ _ (by decide)) (u3_s (by decide))
theorem RW.k0 (h : RW L M) : Ok12 (u3 (M 12) 0 0 0 0) := ok12_put0 h.k (by decide)
theorem R_giveRations (h : RW L M) : OpR L M (kfI 1 1) (f11_giveRations M p1 p2) (fun m => f12_giveRations m p1 p2) := by
  have ei : f11_isIn p2 1 1000 = f12_in p2 1 1000 := rfl
  cases c : f12_isCompany p1 with
  | false => exact OpR.no (k := 1) (x := 0) h (by decide) (by decide) (by simp [f11_giveRations, bnd, dC_e, c]) (by simp [f12_giveRations, bnd, jn, c, gw_t]; rfl)
  | true =>
    cases d : f12_in p2 1 1000 with
    | false => exact OpR.no (k := 1) (x := 0) h (by decide) (by decide) (by simp [f11_giveRations, bnd, dC_e, c, ei, d, f11_demand]) (by simp [f12_giveRations, bnd, jn, c, d, gw_t]; rfl)
    | true =>
      have e5 := (fuel_e h (isC_in c)).2
      refine OpR.pu (v := M 12 5 0 p1 + p2) (q' := u3 (M 5) 2 0 p1 (M 12 5 0 p1 + p2)) (m' := u3 (u3 (M 12) 0 0 0 0) 5 0 p1 (M 12 5 0 p1 + p2)) h ?_ ?_ ?_ (fun g g0 g5 _ _ _ _ => ?_) (fun k k0 _ => ?_) (ok12_putA h.k0 (by decide)) h.q0.rat
      · simp [f11_giveRations, bnd, dC_e, c, ei, d, f11_demand, f5_addRations, e5, u3_at]
      · have e : u3 (M 12) 0 0 0 0 5 0 p1 = M 12 5 0 p1 := by rw [u3_ne _ _ _ (by decide)]
        simp [f12_giveRations, bnd, jn, c, d, gw_f, e, u3_at]
      · rw [u3_ne _ _ _ (show ¬ 0 = 5 by decide), u3_at]
      · rw [u3_ne _ _ _ g5, u3_ne _ _ _ g0]
      · rw [u3_ne _ _ _ (show ¬ 0 = 5 by decide), u3_s k0]
theorem R_setTariff (h : RW L M) : OpR L M (kfI 1 1) (f11_setTariff M p1) (fun m => f12_setTariff m p1) := by
  have ei : f11_isIn p1 0 100 = f12_in p1 0 100 := rfl
  cases c : f12_in p1 0 100 with
  | false => exact OpR.no (k := 1) (x := 0) h (by decide) (by decide) (by simp [f11_setTariff, bnd, ei, c, f11_demand]) (by simp [f12_setTariff, bnd, jn, c, gw_t]; rfl)
  | true =>
    refine OpR.pu (v := M 12 0 0 9) (q' := u3 (M 5) 0 0 5 p1) (m' := u3 (u3 (M 12) 0 0 0 0) 0 0 9 p1) h ?_ ?_ ?_ (fun g g0 _ _ _ _ _ => ?_) (fun k k0 k9 => ?_) (ok12_put0 h.k0 (by decide)) h.q0.tariff
    · simp [f11_setTariff, bnd, ei, c, f11_demand, f5_changeTariff, h.q.tar]
    · have e : u3 (M 12) 0 0 0 0 0 0 9 = M 12 0 0 9 := u3_s (by decide)
      simp [f12_setTariff, bnd, jn, c, gw_f, e]
    · rw [u3_s (by decide), u3_at]
    · rw [u3_ne _ _ _ g0, u3_ne _ _ _ g0]
    · rw [u3_s k9, u3_s k0]
theorem R_setBuying {b : Bool} (h : RW L M) : OpR L M (kfI 1 1) (f11_setBuying M p1 b) (fun m => (b2i (f12_setBuying m p1 b).1, (f12_setBuying m p1 b).2)) := by
  cases c : f12_isCompany p1 with
  | false => exact OpR.no (k := 1) (x := 0) h (by decide) (by decide) (by simp [f11_setBuying, bnd, dC_e, c]) (by simp [f12_setBuying, bnd, jn, c, gw_t]; rfl)
  | true =>
    have e5 := (h.q.1 p1 (isC_in c)).2.2
    refine OpR.pu (v := b2i (i2b (M 12 9 0 p1))) (q' := u3 (M 5) 3 0 p1 (b2i b)) (m' := u3 (u3 (M 12) 0 0 0 0) 9 0 p1 (b2i b)) h ?_ ?_ ?_ (fun g g0 _ _ _ _ g9 => ?_) (fun k k0 _ => ?_) (ok12_putA h.k0 (by decide)) (h.q0.buys (by cases b <;> decide))
    · simp [f11_setBuying, bnd, dC_e, c, f5_changeBuying, e5]
    · have e : u3 (M 12) 0 0 0 0 9 0 p1 = M 12 9 0 p1 := by rw [u3_ne _ _ _ (by decide)]
      simp [f12_setBuying, bnd, jn, c, gw_f, e]
    · rw [u3_ne _ _ _ (show ¬ 0 = 9 by decide), u3_at]
    · rw [u3_ne _ _ _ g9, u3_ne _ _ _ g0]
    · rw [u3_ne _ _ _ (show ¬ 0 = 9 by decide), u3_s k0]
theorem R_setCredit (h : RW L M) : OpR L M (kfI 1 1) (f11_setCredit M p1 p2 p3) (fun m => f12_setCredit m p1 p2 p3) := by
  have ei : f11_isIn p3 0 1000 = f12_in p3 0 1000 := rfl
  cases c : f12_isCompany p1 with
  | false => exact OpR.no (k := 1) (x := 0) h (by decide) (by decide) (by simp [f11_setCredit, bnd, dC_e, c]) (by simp [f12_setCredit, bnd, jn, c, gw_t]; rfl)
  | true =>
    cases d : f12_isCompany p2 with
    | false => exact OpR.no (k := 1) (x := 0) h (by decide) (by decide) (by simp [f11_setCredit, bnd, dC_e, c, d]) (by simp [f12_setCredit, bnd, jn, c, d, gw_t]; rfl)
    | true =>
      by_cases e : p1 = p2
      · exact OpR.no (k := 1) (x := 0) h (by decide) (by decide) (by simp [f11_setCredit, bnd, jn, dC_e, c, d, e, f11_demand]) (by simp [f12_setCredit, bnd, jn, c, d, e, gw_t]; rfl)
      · cases g : f12_in p3 0 1000 with
        | false => exact OpR.no (k := 1) (x := 0) h (by decide) (by decide) (by simp [f11_setCredit, bnd, jn, dC_e, c, d, e, ei, g, f11_demand]) (by simp [f12_setCredit, bnd, jn, c, d, e, g, gw_t]; rfl)
        | true =>
          have e8 := (h.q.2.1 p1 p2 (isC_in c) (isC_in d)).2
          refine OpR.pu (v := M 12 8 0 (4 * p1 + p2)) (q' := u3 (M 5) 8 p2 p1 p3) (m' := u3 (u3 (M 12) 0 0 0 0) 8 0 (4 * p1 + p2) p3) h ?_ ?_ ?_ (fun g g0 _ _ _ g8 _ => ?_) (fun k k0 _ => ?_) (ok12_putA h.k0 (by decide)) (h.q0.lim (isC_in c) (isC_in d))
          · simp [f11_setCredit, bnd, jn, dC_e, c, d, e, ei, g, f11_demand, f5_changeCredit, e8]
          · have e9 : u3 (M 12) 0 0 0 0 8 0 (4 * p1 + p2) = M 12 8 0 (4 * p1 + p2) := by rw [u3_ne _ _ _ (by decide)]
            simp [f12_setCredit, bnd, jn, c, d, e, g, gw_f, e9]
          · rw [u3_ne _ _ _ (show ¬ 0 = 8 by decide), u3_at]
          · rw [u3_ne _ _ _ g8, u3_ne _ _ _ g0]
          · rw [u3_ne _ _ _ (show ¬ 0 = 8 by decide), u3_s k0]
theorem lt_b {a b : Int32} : (if a < b then false else true) = (if b ≤ a then true else false) := by
  by_cases c : a < b
  · rw [if_pos c, if_neg (by simp only [i32lt, i32le] at c ⊢; omega)]
  · rw [if_neg c, if_pos (by simp only [i32lt, i32le] at c ⊢; omega)]
theorem RelQ.pay2 {q m : Cm} (h : RelQ q m) {c l p : Int32} (hc : vp_in c 4) (hl : vp_in l 4) : (f5_payFromFuel q c l p).1 = m 7 0 (4 * c + l) - p ∧ RelQ (f5_payFromFuel q c l p).2 (u3 (u3 (u3 m 7 0 (4 * c + l) (m 7 0 (4 * c + l) - p)) 6 0 c (m 6 0 c - p)) 6 0 l (u3 (u3 m 7 0 (4 * c + l) (m 7 0 (4 * c + l) - p)) 6 0 c (m 6 0 c - p) 6 0 l + p)) := by
  have e6 := (h.1 c hc).1
  have e7 := (h.2.1 c l hc hl).1
  have a : RelQ (u3 q 1 0 c (m 6 0 c - p)) (u3 m 6 0 c (m 6 0 c - p)) := h.fuel
  have el := (a.1 l hl).1
  have b := a.fuel (c := l) (x := u3 m 6 0 c (m 6 0 c - p) 6 0 l + p)
  have d := b.debt (x := m 7 0 (4 * c + l) - p) hc hl
  have ef : f5_payFromFuel q c l p = (m 7 0 (4 * c + l) - p, u3 (u3 (u3 q 1 0 c (m 6 0 c - p)) 1 0 l (u3 m 6 0 c (m 6 0 c - p) 6 0 l + p)) 7 c l (m 7 0 (4 * c + l) - p)) := by
    unfold f5_payFromFuel
    simp only [bnd_e]
    rw [e6, e7, el, u3_at]
  rw [ef]
  have e66 : u3 (u3 m 7 0 (4 * c + l) (m 7 0 (4 * c + l) - p)) 6 0 c (m 6 0 c - p) 6 = u3 m 6 0 c (m 6 0 c - p) 6 := u3_gc (u3_ne _ _ _ (by decide))
  refine ⟨rfl, d.fr ?_ ?_ ?_ ?_ ?_ ?_⟩
  · simp only [u3_ne _ _ _ (show ¬ 5 = 6 by decide), u3_ne _ _ _ (show ¬ 5 = 7 by decide)]
  · rw [u3_ne _ _ _ (show ¬ 6 = 7 by decide), e66]
    exact u3_gc e66
  · rw [u3_ne _ _ _ (show ¬ 7 = 6 by decide), u3_ne _ _ _ (show ¬ 7 = 6 by decide)]
    exact u3_gc (by rw [u3_ne _ _ _ (show ¬ 7 = 6 by decide), u3_ne _ _ _ (show ¬ 7 = 6 by decide)])
  · simp only [u3_ne _ _ _ (show ¬ 8 = 6 by decide), u3_ne _ _ _ (show ¬ 8 = 7 by decide)]
  · simp only [u3_ne _ _ _ (show ¬ 9 = 6 by decide), u3_ne _ _ _ (show ¬ 9 = 7 by decide)]
  · simp only [u3_ne _ _ _ (show ¬ 0 = 6 by decide), u3_ne _ _ _ (show ¬ 0 = 7 by decide)]
theorem R_payBack (h : RW L M) : OpR L M (kfI 1 2) (f11_payBack M p1 p2 p3) (fun m => f12_payBack m p1 p2 p3) := by
  cases c : f12_isCompany p1 with
  | false => exact OpR.no (k := 1) (x := 0) h (by decide) (by decide) (by simp [f11_payBack, bnd, dC_e, c]) (by simp [f12_payBack, bnd, jn, c, gw_1]; rfl)
  | true =>
    cases d : f12_isCompany p2 with
    | false => exact OpR.no (k := 1) (x := 0) h (by decide) (by decide) (by simp [f11_payBack, bnd, dC_e, c, d]) (by simp [f12_payBack, bnd, jn, c, d, gw_1]; rfl)
    | true =>
      by_cases e : p3 < 1
      · exact OpR.no (k := 1) (x := 0) h (by decide) (by decide) (by simp [f11_payBack, bnd, jn, dC_e, c, d, e, f11_demand]) (by simp [f12_payBack, bnd, jn, c, d, e, gw_1]; rfl)
      · have e7 := (h.q.2.1 p1 p2 (isC_in c) (isC_in d)).1
        have e6 := (fuel_e h (isC_in c)).1
        by_cases e1 : M 12 7 0 (4 * p1 + p2) < p3
        · exact OpR.no (k := 2) (x := 0) h (by decide) (by decide) (by simp [f11_payBack, bnd, jn, dC_e, c, d, e, f11_demand, f5_debtOf, e7, e1, f11_demandState]) (by simp [f12_payBack, bnd, jn, c, d, e, e1, gw_2]; rfl)
        · by_cases e2 : M 12 6 0 p1 < p3
          · have e2' : ¬ p3 ≤ M 12 6 0 p1 := by simp only [i32lt, i32le] at e2 ⊢; omega
            exact OpR.no (k := 2) (x := 0) h (by decide) (by decide) (by simp [f11_payBack, bnd, jn, dC_e, c, d, e, f11_demand, f5_debtOf, f5_fuelOf, e7, e6, e1, e2, f11_demandState]) (by simp [f12_payBack, bnd, jn, c, d, e, e1, e2', gw_2]; rfl)
          · have e2' : p3 ≤ M 12 6 0 p1 := by simp only [i32lt, i32le] at e2 ⊢; omega
            obtain ⟨r1, r2⟩ := h.q0.pay2 (p := p3) (isC_in c) (isC_in d)
            have f7 : u3 (M 12) 0 0 0 0 7 = M 12 7 := u3_ne _ _ _ (by decide)
            have f6 : u3 (M 12) 0 0 0 0 6 = M 12 6 := u3_ne _ _ _ (by decide)
            rw [f7] at r1
            refine OpR.pu (v := M 12 7 0 (4 * p1 + p2) - p3) (q' := (f5_payFromFuel (M 5) p1 p2 p3).2) h ?_ ?_ ?_ (fun g g0 _ g6 g7 _ _ => ?_) (fun k k0 _ => ?_) ?_ r2
            · simp [f11_payBack, bnd, jn, dC_e, c, d, e, f11_demand, f5_debtOf, f5_fuelOf, e7, e6, e1, e2, f11_demandState, r1]
            · simp [f12_payBack, bnd, jn, c, d, e, e1, e2', gw_0, f7, f6, u3_at]
            · rw [u3_ne _ _ _ (show ¬ 0 = 6 by decide), u3_ne _ _ _ (show ¬ 0 = 6 by decide), u3_ne _ _ _ (show ¬ 0 = 7 by decide), u3_at]
            · rw [u3_ne _ _ _ g6, u3_ne _ _ _ g6, u3_ne _ _ _ g7, u3_ne _ _ _ g0]
            · rw [u3_ne _ _ _ (show ¬ 0 = 6 by decide), u3_ne _ _ _ (show ¬ 0 = 6 by decide), u3_ne _ _ _ (show ¬ 0 = 7 by decide), u3_s k0]
            · exact ok12_putA (ok12_putA (ok12_putA h.k0 (by decide)) (by decide)) (by decide)
theorem buy12_e {m : Cm} (c : f12_isCompany p1 = true) (e : ¬ p2 < 1) (e1 : p2 ≤ m 5 0 p1) : f12_buy m p1 p2 = f12_buyFuel (u3 m 0 0 0 0) p1 p2 := by
  unfold f12_buy
  generalize f12_buyFuel = F
  simp [bnd, jn, c, e, e1, gw_0]
theorem buy11_e (c : f12_isCompany p1 = true) (e : ¬ p2 < 1) (e1 : ¬ M 5 2 0 p1 < p2) : f11_buy M p1 p2 = ((0, (f5_buyFuel (M 5) p1 p2).1), uW M 5 (f5_buyFuel (M 5) p1 p2).2) := by
  have d0 : f11_demandCompany p1 = 0 := by rw [dC_e, if_pos c]
  unfold f11_buy
  generalize f5_buyFuel = F
  simp [bnd, jn, d0, e, f11_demand, f5_rationsOf, e1, f11_demandState]
theorem buy12_1 {m : Cm} (c : f12_isCompany p1 = false) : (f12_buy m p1 p2).2 = u3 m 0 0 0 1 := by
  unfold f12_buy
  rw [c]
  generalize f12_buyFuel = F
  rfl
theorem buy12_1' {m : Cm} (c : f12_isCompany p1 = true) (e : p2 < 1) : (f12_buy m p1 p2).2 = u3 m 0 0 0 1 := by
  unfold f12_buy
  rw [c]
  generalize f12_buyFuel = F
  simp only [bnd_e, jn_e, if_pos e]
  rfl
theorem buy12_2 {m : Cm} (c : f12_isCompany p1 = true) (e : ¬ p2 < 1) (e1 : ¬ p2 ≤ m 5 0 p1) : (f12_buy m p1 p2).2 = u3 m 0 0 0 2 := by
  unfold f12_buy
  generalize f12_buyFuel = F
  simp [bnd, jn, c, e, e1, gw_2]
theorem buy11_1 (c : f12_isCompany p1 = false) : f11_buy M p1 p2 = ((1, 0), M) := by
  have d0 : f11_demandCompany p1 = 1 := by rw [dC_e, if_neg (by rw [c]; decide)]
  unfold f11_buy
  generalize f5_buyFuel = F
  simp [bnd, d0]
theorem buy11_1' (c : f12_isCompany p1 = true) (e : p2 < 1) : f11_buy M p1 p2 = ((1, 0), M) := by
  have d0 : f11_demandCompany p1 = 0 := by rw [dC_e, if_pos c]
  unfold f11_buy
  generalize f5_buyFuel = F
  simp [bnd, jn, d0, e, f11_demand]
theorem buy11_2 (c : f12_isCompany p1 = true) (e : ¬ p2 < 1) (e1 : M 5 2 0 p1 < p2) : f11_buy M p1 p2 = ((2, 0), M) := by
  have d0 : f11_demandCompany p1 = 0 := by rw [dC_e, if_pos c]
  unfold f11_buy
  generalize f5_buyFuel = F
  simp [bnd, jn, d0, e, f11_demand, f5_rationsOf, e1, f11_demandState]
theorem R_buy (h : RW L M) : OpR L M (kfI 1 2) (f11_buy M p1 p2) (fun m => f12_buy m p1 p2) := by
  cases c : f12_isCompany p1 with
  | false => exact OpR.no (k := 1) (x := 0) h (by decide) (by decide) (buy11_1 c) (buy12_1 c)
  | true =>
    by_cases e : p2 < 1
    · exact OpR.no (k := 1) (x := 0) h (by decide) (by decide) (buy11_1' c e) (buy12_1' c e)
    · have e5 := (fuel_e h (isC_in c)).2
      by_cases e1 : M 12 5 0 p1 < p2
      · have e1' : ¬ p2 ≤ M 12 5 0 p1 := by simp only [i32lt, i32le] at e1 ⊢; omega
        exact OpR.no (k := 2) (x := 0) h (by decide) (by decide) (buy11_2 c e (by rw [e5]; exact e1)) (buy12_2 c e e1')
      · have e1' : p2 ≤ M 12 5 0 p1 := by simp only [i32lt, i32le] at e1 ⊢; omega
        obtain ⟨r1, r2⟩ := buyFuel_c h.q0 (many := p2) (isC_in c)
        have g0' : (f12_buyFuel (u3 (M 12) 0 0 0 0) p1 p2).2 0 = u3 (M 12) 0 0 0 0 0 := buyFuel_g _ _ _ (by decide) (by decide) (by decide)
        have gg : ∀ g : Nat, ¬ g = 0 → ¬ g = 5 → ¬ g = 6 → ¬ g = 7 → (f12_buyFuel (u3 (M 12) 0 0 0 0) p1 p2).2 g = M 12 g := fun g g0 g5 g6 g7 => by rw [buyFuel_g _ _ _ g5 g6 g7, u3_ne _ _ _ g0]
        have ok := okT_buyFuel' h.k0 p1 p2
        have d0 : f11_demandCompany p1 = 0 := by rw [dC_e, if_pos c]
        have ef := buy12_e (m := M 12) c e e1'
        have ez := buy11_e (M := M) c e (by rw [e5]; exact e1)
        generalize f12_buyFuel (u3 (M 12) 0 0 0 0) p1 p2 = R at r1 r2 g0' gg ok ef
        generalize f5_buyFuel (M 5) p1 p2 = S at r1 r2 ez
        refine OpR.pu (v := R.1) (q' := S.2) (m' := R.2) h (by rw [ez, r1]) ef ?_ (fun g g0 g5 g6 g7 _ _ => gg g g0 g5 g6 g7) (fun k k0 _ => ?_) ok r2
        · rw [g0', u3_at]
        · rw [g0', u3_s k0]
end REL
