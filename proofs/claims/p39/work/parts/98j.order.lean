/-! ORDERS given, FAULTS told: in both alike -/
section REL
variable {L : Int} {M M1 : Wm} {m m1 : Cm} {p1 p2 p3 p4 : Int32}
def mkO (m : Cm) (a b c d : Int32) : Cm := u3 (u3 (u3 (u3 (u3 (u3 m 13 0 (m 0 0 11) a) 14 0 (m 0 0 11) b) 15 0 (m 0 0 11) c) 16 0 (m 0 0 11) d) 17 0 (m 0 0 11) 0) 0 0 11 (m 0 0 11 + 1)
theorem mkO_e (m : Cm) (a b c d : Int32) : (f12_makeOrder m a b c d).2 = mkO m a b c d := rfl
theorem mkO_g {a b c d : Int32} {g : Nat} (h : (¬ g = 0 ∧ ¬ g = 13 ∧ ¬ g = 14) ∧ ¬ g = 15 ∧ ¬ g = 16 ∧ ¬ g = 17) : mkO m a b c d g = m g := by
  unfold mkO
  rw [u3_ne _ _ _ h.1.1, u3_ne _ _ _ h.2.2.2, u3_ne _ _ _ h.2.2.1, u3_ne _ _ _ h.2.1, u3_ne _ _ _ h.1.2.2, u3_ne _ _ _ h.1.2.1]
theorem mkO_s {a b c d k : Int32} (h : ¬ k = 11) : mkO m a b c d 0 0 k = m 0 0 k := by
  unfold mkO
  rw [u3_s h, u3_ne _ _ _ (show ¬ 0 = 17 by decide), u3_ne _ _ _ (show ¬ 0 = 16 by decide), u3_ne _ _ _ (show ¬ 0 = 15 by decide), u3_ne _ _ _ (show ¬ 0 = 14 by decide), u3_ne _ _ _ (show ¬ 0 = 13 by decide)]
theorem mkO_11 {a b c d : Int32} : mkO m a b c d 0 0 11 = m 0 0 11 + 1 := by unfold mkO; rw [u3_at]
theorem mkO_16 {a b c d i : Int32} : mkO m a b c d 16 0 i = if i = m 0 0 11 then d else m 16 0 i := by
  unfold mkO
  rw [u3_ne _ _ _ (show ¬ 16 = 0 by decide), u3_ne _ _ _ (show ¬ 16 = 17 by decide)]
  by_cases e : i = m 0 0 11
  · rw [if_pos e, e, u3_at]
  · rw [if_neg e, u3_j e, u3_ne _ _ _ (show ¬ 16 = 15 by decide), u3_ne _ _ _ (show ¬ 16 = 14 by decide), u3_ne _ _ _ (show ¬ 16 = 13 by decide)]
theorem mkO_17 {a b c d i : Int32} : mkO m a b c d 17 0 i = if i = m 0 0 11 then 0 else m 17 0 i := by
  unfold mkO
  rw [u3_ne _ _ _ (show ¬ 17 = 0 by decide)]
  by_cases e : i = m 0 0 11
  · rw [if_pos e, e, u3_at]
  · rw [if_neg e, u3_j e, u3_ne _ _ _ (show ¬ 17 = 16 by decide), u3_ne _ _ _ (show ¬ 17 = 15 by decide), u3_ne _ _ _ (show ¬ 17 = 14 by decide), u3_ne _ _ _ (show ¬ 17 = 13 by decide)]
theorem InvO.mk {o : Cm} (h : InvO m) (hR : RelOr o m (-1) 0) (hc : ¬ m 0 0 11 = 60) {a b c d : Int32} (h0 : 0 ≤ d.toInt) (h1 : d.toInt ≤ 1000) : InvO (mkO m a b c d) := by
  intro i i0 i1
  have r1 := hR.1; have r3 := hR.2.2.1
  have t60 : (60 : Int32).toInt = 60 := by decide
  rw [mkO_11, inc_t (by rw [← r1]; exact r3.1) (by rw [← r1]; omega)] at i1
  rw [mkO_g (g := 19) (by decide), mkO_16, mkO_17]
  by_cases e : i = m 0 0 11
  · rw [if_pos e, if_pos e]
    have z := (hR.2.2.2.2 i (by rw [r1, e]; exact Int.le_refl _) (by rw [i32eq, t60] at hc; rw [e]; rw [r1] at r3; omega)).2.1
    rw [z]
    exact ⟨by decide, fun _ => ⟨h0, h1⟩⟩
  · rw [if_neg e, if_neg e]
    exact h i i0 (by rw [i32eq] at e; omega)
theorem order12_e (c : f12_isCompany p1 = true) (d : f12_isScript p2 = true) (e : f12_in p3 1 100 = true) (g : f12_in p4 1 1000 = true) (n : ¬ m 0 0 11 = 60) : f12_order m p1 p2 p3 p4 = f12_makeOrder (u3 m 0 0 0 0) p1 p2 ((u3 m 0 0 0 0) 0 0 10 + p3) p4 := by
  unfold f12_order
  generalize f12_makeOrder = F
  simp [bnd, jn, c, d, e, g, n, gw_0]
theorem order12_2 (c : f12_isCompany p1 = true) (d : f12_isScript p2 = true) (e : f12_in p3 1 100 = true) (g : f12_in p4 1 1000 = true) (n : m 0 0 11 = 60) : (f12_order m p1 p2 p3 p4).2 = u3 m 0 0 0 2 := by
  unfold f12_order
  generalize f12_makeOrder = F
  simp [bnd, jn, c, d, e, g, n, gw_2]
theorem order12_1 (h : ¬ (f12_isCompany p1 = true ∧ f12_isScript p2 = true ∧ f12_in p3 1 100 = true ∧ f12_in p4 1 1000 = true)) : (f12_order m p1 p2 p3 p4).2 = u3 m 0 0 0 1 := by
  unfold f12_order
  generalize f12_makeOrder = F
  generalize f12_isCompany p1 = a at h
  generalize f12_isScript p2 = b at h
  generalize f12_in p3 1 100 = c at h
  generalize f12_in p4 1 1000 = d at h
  cases a <;> cases b <;> cases c <;> cases d <;> first | rfl | exact absurd ⟨rfl, rfl, rfl, rfl⟩ h
theorem order11_1 (h : ¬ (f12_isCompany p1 = true ∧ f12_isScript p2 = true ∧ f12_in p3 1 100 = true ∧ f12_in p4 1 1000 = true)) : f11_order M p1 p2 p3 p4 = ((1, 0), M) := by
  unfold f11_order
  rw [dC_e, dS_e, show f11_isIn p3 1 100 = f12_in p3 1 100 from rfl, show f11_isIn p4 1 1000 = f12_in p4 1 1000 from rfl]
  generalize f4_add = F
  generalize f12_isCompany p1 = a at h
  generalize f12_isScript p2 = b at h
  generalize f12_in p3 1 100 = c at h
  generalize f12_in p4 1 1000 = d at h
  cases a <;> cases b <;> cases c <;> cases d <;> first | rfl | exact absurd ⟨rfl, rfl, rfl, rfl⟩ h
theorem order11_2 (h : f12_isCompany p1 = true ∧ f12_isScript p2 = true ∧ f12_in p3 1 100 = true ∧ f12_in p4 1 1000 = true) (n : f4_areFull (M 4) = true) : f11_order M p1 p2 p3 p4 = ((2, 0), M) := by
  unfold f11_order
  rw [dC_e, dS_e, show f11_isIn p3 1 100 = f12_in p3 1 100 from rfl, show f11_isIn p4 1 1000 = f12_in p4 1 1000 from rfl, h.1, h.2.1, h.2.2.1, h.2.2.2]
  generalize f4_add = F
  simp [bnd, jn, n, f11_demand, f11_demandState]
theorem order11_e (h : f12_isCompany p1 = true ∧ f12_isScript p2 = true ∧ f12_in p3 1 100 = true ∧ f12_in p4 1 1000 = true) (n : f4_areFull (M 4) = false) : f11_order M p1 p2 p3 p4 = ((0, (f4_add (M 4) p1 p2 p3 p4).1), uW M 4 (f4_add (M 4) p1 p2 p3 p4).2) := by
  unfold f11_order
  rw [dC_e, dS_e, show f11_isIn p3 1 100 = f12_in p3 1 100 from rfl, show f11_isIn p4 1 1000 = f12_in p4 1 1000 from rfl, h.1, h.2.1, h.2.2.1, h.2.2.2]
  generalize f4_add = F
  simp [bnd, jn, n, f11_demand, f11_demandState]
theorem R_order (h : RW L M) : OpR L M (kfI 1 2) (f11_order M p1 p2 p3 p4) (fun m => f12_order m p1 p2 p3 p4) := by
  by_cases c : f12_isCompany p1 = true ∧ f12_isScript p2 = true ∧ f12_in p3 1 100 = true ∧ f12_in p4 1 1000 = true
  · have hk0 := h.k
    have hO := h.o
    have t60 : (60 : Int32).toInt = 60 := by decide
    by_cases n : M 12 0 0 11 = 60
    · refine OpR.no (k := 2) (x := 0) h (by decide) (by decide) (order11_2 c ?_) (order12_2 c.1 c.2.1 c.2.2.1 c.2.2.2 n)
      unfold f4_areFull
      rw [if_neg (by rw [hO.1, n]; decide)]
    · have nf : f4_areFull (M 4) = false := by
        unfold f4_areFull
        rw [if_pos]
        have := hO.2.2.1
        rw [i32eq, t60] at n
        rw [hO.1] at this ⊢
        simp only [i32lt, t60]; omega
      have r4 := isIn11_t (show f11_isIn p4 1 1000 = true from c.2.2.2)
      rw [show (1 : Int32).toInt = 1 from rfl, show (1000 : Int32).toInt = 1000 from rfl] at r4
      have k0 := h.k0
      obtain ⟨h1, ⟨q1, ⟨q2, q3, q4⟩, q5, q6, q7, q8⟩, h3, h4⟩ := h
      have q5' : RelOr (M 4) (u3 (M 12) 0 0 0 0) (-1) 0 := q5.fr (u3_s (by decide)) (u3_s (by decide)) (u3_ne _ _ _ (by decide)) (u3_ne _ _ _ (by decide)) (u3_ne _ _ _ (by decide)) (u3_ne _ _ _ (by decide)) (u3_ne _ _ _ (by decide)) (u3_ne _ _ _ (by decide)) (u3_ne _ _ _ (by decide)) (u3_ne _ _ _ (by decide)) (u3_ne _ _ _ (by decide))
      have n0 : ¬ u3 (M 12) 0 0 0 0 0 0 11 = 60 := by rw [u3_s (by decide)]; exact n
      obtain ⟨a1, a2⟩ := q5'.add (by have := q5.2.2.1.1; have : (-1 : Int32).toInt = -1 := by decide
                                     omega) n0 (hrs := p3) (bu := p4) (isC_in c.1) (isS_in c.2.1)
      have i3 := (h3.s0 0).mk q5' n0 (a := p1) (b := p2) (c := u3 (M 12) 0 0 0 0 0 0 10 + p3) (d := p4) (by omega) (by omega)
      have ok := (okT_f12_makeOrder (m0 := u3 (M 12) 0 0 0 0) ⟨k0, rfl, rfl⟩ p1 p2 (u3 (M 12) 0 0 0 0 0 0 10 + p3) p4 (isC_in c.1) (isS_in c.2.1) (by
        rw [u3_s (by decide)]
        have := hO.2.2.1
        rw [i32eq, t60] at n
        rw [hO.1] at this; omega)).1
      have o7 : Ok7 (uW M 4 (f4_add (M 4) p1 p2 p3 p4).2) := ok7_f4_add h4 p1 p2 p3 p4
      have G : ∀ g : Nat, ¬ g = 0 ∧ (¬ g = 0 ∧ ¬ g = 13 ∧ ¬ g = 14) ∧ ¬ g = 15 ∧ ¬ g = 16 ∧ ¬ g = 17 → mkO (u3 (M 12) 0 0 0 0) p1 p2 (u3 (M 12) 0 0 0 0 0 0 10 + p3) p4 g = M 12 g := fun g a => by rw [mkO_g a.2, u3_ne _ _ _ a.1]
      have S : ∀ k : Int32, ¬ k = 0 ∧ ¬ k = 11 → mkO (u3 (M 12) 0 0 0 0) p1 p2 (u3 (M 12) 0 0 0 0 0 0 10 + p3) p4 0 0 k = M 12 0 0 k := fun k a => by rw [mkO_s a.2, u3_s a.1]
      have s0 : mkO (u3 (M 12) 0 0 0 0) p1 p2 (u3 (M 12) 0 0 0 0 0 0 10 + p3) p4 0 0 0 = 0 := by rw [mkO_s (by decide), u3_at]
      have e12 := order12_e (p1 := p1) (p2 := p2) (p3 := p3) (p4 := p4) c.1 c.2.1 c.2.2.1 c.2.2.2 n
      have e11 := order11_e (M := M) (p1 := p1) (p2 := p2) (p3 := p3) (p4 := p4) c nf
      rw [a1] at e11
      rw [mkO_e] at a2 ok
      have e12' : f12_order (M 12) p1 p2 p3 p4 = ((f12_makeOrder (u3 (M 12) 0 0 0 0) p1 p2 (u3 (M 12) 0 0 0 0 0 0 10 + p3) p4).1, mkO (u3 (M 12) 0 0 0 0) p1 p2 (u3 (M 12) 0 0 0 0 0 0 10 + p3) p4) := by rw [e12, ← mkO_e]
      generalize (f12_makeOrder (u3 (M 12) 0 0 0 0) p1 p2 (u3 (M 12) 0 0 0 0 0 0 10 + p3) p4).1 = v at e11 e12'
      generalize mkO (u3 (M 12) 0 0 0 0) p1 p2 (u3 (M 12) 0 0 0 0 0 0 10 + p3) p4 = m' at *
      generalize (f4_add (M 4) p1 p2 p3 p4).2 = o' at *
      refine OpR.ok e11 (uW_ne _ _ (by decide)) e12' s0 ?_ ⟨?_, ⟨?_, ?_, ?_⟩, ?_, ?_, ok, ?_⟩ i3 o7
      · rw [uW_ne _ _ (show 9 ≠ 4 by decide), uW_ne _ _ (show 8 ≠ 4 by decide)]
        exact h1.fr hk0 ⟨G 2 (by decide), G 3 (by decide)⟩
      · rw [uW_ne _ _ (show 5 ≠ 4 by decide)]
        exact q1.fr (G 5 (by decide)) (G 6 (by decide)) (G 7 (by decide)) (G 8 (by decide)) (G 9 (by decide)) (S 9 (by decide))
      · rw [uW_ne _ _ (show 1 ≠ 4 by decide)]
        unfold RelBk RelMv RelS at q2 ⊢
        rw [S 21 (by decide), G 23 (by decide), G 24 (by decide), G 25 (by decide), G 26 (by decide), G 27 (by decide), G 4 (by decide)]; exact q2
      · rw [uW_ne _ _ (show 1 ≠ 4 by decide)]; exact q3
      · rw [uW_ne _ _ (show 1 ≠ 4 by decide)]; exact q4.mono (by omega)
      · rw [uW_at]; exact a2
      · rw [S 10 (by decide)]; exact q6
      · exact q8.fr (G 28 (by decide)) (G 29 (by decide)) (G 30 (by decide))
  · exact OpR.no (k := 1) (x := 0) h (by decide) (by decide) (order11_1 c) (order12_1 c)
/-- all texts are read, else nothing -/
theorem RW.read {N : Wm} (h : RW L M) (hN : f8_readChanged M = N) : (RW L N ∧ N 12 = M 12) ∧ TextR (N 9) (N 8) (M 12) (Bx (M 12)) ∧ ∀ c : Nat, ¬ c = 6 → ¬ c = 8 → ¬ c = 9 → N c = M c := by
  obtain ⟨a, b, c⟩ := readAll_c h.k h.1 hN
  have o7 : Ok7 N := hN ▸ ok7_f8_readChanged h.2.2.2
  have e12 := c 12 (by decide) (by decide) (by decide)
  obtain ⟨h1, h2, h3, h4⟩ := h
  refine ⟨⟨⟨by rw [e12]; exact a, ?_, by rw [e12]; exact h3, o7⟩, e12⟩, b, c⟩
  unfold WQ0 at h2 ⊢
  rw [e12, c 5 (by decide) (by decide) (by decide), c 1 (by decide) (by decide) (by decide), c 4 (by decide) (by decide) (by decide)]
  exact h2
theorem faultOf_s0 (s x : Int32) : f12_faultOf (u3 m 0 0 0 x) s = f12_faultOf m s := faultOf_fr ⟨u3_ne _ _ _ (by decide), u3_ne _ _ _ (by decide)⟩ s
theorem OpR.qryN {N : Wm} {kf : Nat → Int32} {z : (Nat × Int32) × Wm} {f : Cm → Int32 × Cm} {v : Int32} (h : RW L N) (ez : z = ((0, v), N)) (e12 : N 12 = M 12) (ef : f (M 12) = (v, u3 (M 12) 0 0 0 0)) : OpR L M kf z f := by
  refine OpR.ok ez e12 ef (u3_at _ _ _ _ _) ?_ ?_ ?_ h.2.2.2
  · rw [← e12]; exact h.1.s0 h.k _
  · rw [← e12]; exact (h.2.1.mono (by omega)).s0 _
  · rw [← e12]; exact h.2.2.1.s0 _
theorem R_fault (h : RW L M) : OpR L M (kfI 1 1) (f11_fault M p1) (fun m => f12_fault m p1) := by
  obtain ⟨⟨r1, r2⟩, r3, r4⟩ := h.read (N := f8_readChanged M) rfl
  cases c : f12_isScript p1 with
  | false =>
    refine OpR.no (k := 1) (x := 0) h (by decide) (by decide) ?_ ?_
    · unfold f11_fault; rw [dS_e, c]; rfl
    · unfold f12_fault; rw [c]; rfl
  | true =>
    have e := (r3 p1 (isS_in c)).1.1
    refine OpR.qryN (v := f12_faultOf (M 12) p1) r1 ?_ r2 ?_
    · unfold f11_fault; rw [dS_e, c]
      show ((0, f8_faultOf (f8_readChanged M 8) p1), f8_readChanged M) = _
      unfold f8_faultOf; rw [e]
    · unfold f12_fault; rw [c]
      show (f12_faultOf (u3 (M 12) 0 0 0 0) p1, u3 (M 12) 0 0 0 0) = _
      rw [faultOf_s0]
end REL
