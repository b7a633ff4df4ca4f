/-! BETWEEN TWO CALLS of the law: the class and the reference stand alike; questions that change nothing -/
def kfI (a b : Nat) (j : Nat) : Int32 := if j = a then 1 else if j = b then 2 else 3
section REL
variable {L : Int} {M M1 : Wm} {m m1 : Cm} {p1 p2 p3 p4 : Int32}
def RW (L : Int) (M : Wm) : Prop := RTx (M 9) (M 8) (M 12) ∧ WQ0 L M (M 12) ∧ InvO (M 12) ∧ Ok7 M
theorem RW.k (h : RW L M) : Ok12 (M 12) := h.2.1.2.2.2.2.1
theorem RW.q (h : RW L M) : RelQ (M 5) (M 12) := h.2.1.1
theorem RW.b (h : RW L M) : RelBk (M 1) (M 12) := h.2.1.2.1.1
theorem RW.o (h : RW L M) : RelOr (M 4) (M 12) (-1) 0 := h.2.1.2.2.1
theorem RW.ln (h : RW L M) : ∀ j : Int32, vp_in j 8 → 0 ≤ (M 8 2 0 j).toInt ∧ (M 8 2 0 j).toInt ≤ 120 := fun j hj => by
  rw [(h.1.1 j hj).1]; exact h.k.len j hj
theorem StkP.mono {L L' : Int} {b : Cm} (h : StkP L b) (hl : L ≤ L') : StkP L' b := fun g hg => ⟨(h g hg).1, Int.le_trans (h g hg).2 hl⟩
theorem WQ0.mono {L' : Int} (h : WQ0 L M m) (hl : L ≤ L') : WQ0 L' M m := ⟨h.1, ⟨h.2.1.1, h.2.1.2.1, h.2.1.2.2.mono hl⟩, h.2.2⟩
theorem InvO.s0 (h : InvO m) (x : Int32) : InvO (u3 m 0 0 0 x) := by
  unfold InvO
  rw [u3_s (show ¬ (11 : Int32) = 0 by decide), u3_ne _ _ _ (show ¬ 19 = 0 by decide), u3_ne _ _ _ (show ¬ 17 = 0 by decide), u3_ne _ _ _ (show ¬ 16 = 0 by decide)]
  exact h
theorem RTx.s0 {t x : Cm} (h : RTx t x m) (hk : Ok12 m) (v : Int32) : RTx t x (u3 m 0 0 0 v) := h.fr hk ⟨u3_ne _ _ _ (by decide), u3_ne _ _ _ (by decide)⟩
/-- what one call comes to: the reference's data stay; an answer and both stand alike then, or something thrown and nothing changed -/
def OpR (L : Int) (M : Wm) (kf : Nat → Int32) (z : (Nat × Int32) × Wm) (f : Cm → Int32 × Cm) : Prop :=
  z.2 12 = M 12 ∧ ((z.1.1 = 0 ∧ (f (M 12)).2 0 0 0 = 0 ∧ z.1.2 = (f (M 12)).1 ∧ RW (L + 1000) (uW z.2 12 (f (M 12)).2)) ∨ (¬ z.1.1 = 0 ∧ (f (M 12)).2 = u3 (M 12) 0 0 0 (kf z.1.1) ∧ ¬ kf z.1.1 = 0 ∧ RW L z.2))
theorem OpR.ok {kf : Nat → Int32} {z : (Nat × Int32) × Wm} {f : Cm → Int32 × Cm} {v : Int32} (ez : z = ((0, v), M1)) (e12 : M1 12 = M 12) (ef : f (M 12) = (v, m1)) (e0 : m1 0 0 0 = 0) (h1 : RTx (M1 9) (M1 8) m1) (h2 : WQ0 (L + 1000) M1 m1) (h3 : InvO m1) (h4 : Ok7 M1) : OpR L M kf z f := by
  unfold OpR
  rw [ez, ef]
  dsimp only
  refine ⟨e12, Or.inl ⟨rfl, e0, rfl, ?_, ?_, ?_, h4⟩⟩
  · rw [uW_ne _ _ (show 9 ≠ 12 by decide), uW_ne _ _ (show 8 ≠ 12 by decide), uW_at]; exact h1
  · rw [uW_at]; exact h2
  · rw [uW_at]; exact h3
theorem OpR.thr {kf : Nat → Int32} {z : (Nat × Int32) × Wm} {f : Cm → Int32 × Cm} {k : Nat} {x : Int32} (hk : ¬ k = 0) (hkf : ¬ kf k = 0) (ez : z = ((k, x), M1)) (e12 : M1 12 = M 12) (ef : (f (M 12)).2 = u3 (M 12) 0 0 0 (kf k)) (hR : RW L M1) : OpR L M kf z f := by
  unfold OpR
  rw [ez]
  dsimp only
  exact ⟨e12, Or.inr ⟨hk, ef, hkf, hR⟩⟩
theorem OpR.rw0 {kf : Nat → Int32} {z : (Nat × Int32) × Wm} {f : Cm → Int32 × Cm} (H : OpR L M kf z f) (h : z.1.1 = 0) : RW (L + 1000) (uW z.2 12 (f (M 12)).2) := by
  rcases H.2 with a | a
  · exact a.2.2.2
  · exact absurd h a.1
/-- a question -/
theorem OpR.qry {kf : Nat → Int32} {z : (Nat × Int32) × Wm} {f : Cm → Int32 × Cm} {v : Int32} (h : RW L M) (ez : z = ((0, v), M)) (ef : f (M 12) = (v, u3 (M 12) 0 0 0 0)) : OpR L M kf z f :=
  OpR.ok ez rfl ef (u3_at _ _ _ _ _) (h.1.s0 h.k _) ((h.2.1.mono (by omega)).s0 _) (h.2.2.1.s0 _) h.2.2.2
theorem OpR.no {kf : Nat → Int32} {z : (Nat × Int32) × Wm} {f : Cm → Int32 × Cm} {k : Nat} {x : Int32} (h : RW L M) (hk : ¬ k = 0) (hkf : ¬ kf k = 0) (ez : z = ((k, x), M)) (ef : (f (M 12)).2 = u3 (M 12) 0 0 0 (kf k)) : OpR L M kf z f := OpR.thr hk hkf ez rfl ef h
/-- the guards in both -/
theorem dS_e (a : Int32) : f11_demandScript a = if f12_isScript a = true then 0 else 1 := by
  have e : f12_isScript a = f11_isIn a 0 7 := rfl
  rw [e]
  cases h : f11_isIn a 0 7 <;> simp [f11_demandScript, bnd, f11_demand, h]
theorem dG_e (a : Int32) : f11_demandGood a = if f12_isGood a = true then 0 else 1 := by
  have e : f12_isGood a = f11_isIn a 0 7 := rfl
  rw [e]
  cases h : f11_isIn a 0 7 <;> simp [f11_demandGood, bnd, f11_demand, h]
theorem dC_e (a : Int32) : f11_demandCompany a = if f12_isCompany a = true then 0 else 1 := by
  have e : f12_isCompany a = f11_isIn a 0 3 := rfl
  rw [e]
  cases h : f11_isIn a 0 3 <;> simp [f11_demandCompany, bnd, f11_demand, h]
theorem dI_e {a n : Int32} (h0 : 0 ≤ n.toInt) : f11_demandIndex a n = if f12_in a 0 (n - 1) = true then 0 else 3 := by
  have hr := i32rng n
  have e1 : (n - 1).toInt = n.toInt - 1 := by rw [i32subn (by rw [t32_1]; omega) (by rw [t32_1]; omega), t32_1]
  unfold f11_demandIndex f12_in
  by_cases c1 : a < 0
  · rw [if_pos c1, if_pos c1, if_neg (by decide)]
  · rw [if_neg c1, if_neg c1]
    by_cases c2 : a < n
    · rw [if_pos c2, show (if n - 1 < a then false else true) = true from if_neg (by simp only [i32lt] at c2 ⊢; omega), if_pos rfl]
    · rw [if_neg c2, show (if n - 1 < a then false else true) = false from if_pos (by simp only [i32lt] at c2 ⊢; omega), if_neg (by decide)]
theorem dE_e {a : Int32} (h0 : 0 ≤ (M 4 0 0 1).toInt) : f11_existing M a = if f12_in a 0 (M 4 0 0 1 - 1) = true then 0 else 3 := by
  unfold f11_existing
  simp only [bnd_e]
  rw [dI_e h0]
  by_cases c : f12_in a 0 (M 4 0 0 1 - 1) = true
  · simp [c]
  · simp [c]
theorem gw_0 (m : Cm) : f12_goesWell m 0 = (true, u3 m 0 0 0 0) := rfl
theorem gw_f (m : Cm) : f12_goesWell m (b2i false) = (true, u3 m 0 0 0 0) := rfl
theorem gw_t (m : Cm) : f12_goesWell m (b2i true) = (false, u3 m 0 0 0 1) := rfl
theorem gw_1 (m : Cm) : f12_goesWell m 1 = (false, u3 m 0 0 0 1) := rfl
theorem gw_2 (m : Cm) : f12_goesWell m 2 = (false, u3 m 0 0 0 2) := rfl
theorem gw_3 (m : Cm) : f12_goesWell m 3 = (false, u3 m 0 0 0 3) := rfl
theorem isS_in (h : f12_isScript p1 = true) : vp_in p1 8 := by
  have := isIn11_t (show f11_isIn p1 0 7 = true from h)
  rw [t32_0, t32_7] at this; rw [vp_in_iff]; omega
theorem isG_in (h : f12_isGood p1 = true) : vp_in p1 8 := isS_in h
theorem isC_in (h : f12_isCompany p1 = true) : vp_in p1 4 := by
  have := isIn11_t (show f11_isIn p1 0 3 = true from h)
  rw [t32_0, t32_3] at this; rw [vp_in_iff]; omega
theorem in_l {a n : Int32} (h0 : 0 ≤ n.toInt) (h : f12_in a 0 (n - 1) = true) : 0 ≤ a.toInt ∧ a.toInt < n.toInt := by
  have := isIn11_t (show f11_isIn a 0 (n - 1) = true from h)
  have hr := i32rng n
  rw [t32_0, i32subn (by rw [t32_1]; omega) (by rw [t32_1]; omega), t32_1] at this; omega
theorem k1_0 : kfI 1 1 1 = 1 := rfl
theorem R_length (h : RW L M) : OpR L M (kfI 1 1) (f11_length M p1) (fun m => f12_length m p1) := by
  cases c : f12_isScript p1 with
  | false => exact OpR.no (k := 1) (x := 0) h (by decide) (by decide) (by simp [f11_length, bnd, dS_e, c]) (by simp [f12_length, bnd, jn, c, gw_t]; rfl)
  | true =>
    have hs := isS_in c
    exact OpR.qry (v := M 12 3 0 p1) h (by simp [f11_length, bnd, dS_e, c, f8_lengthOf, (h.1.1 p1 hs).1]) (by simp [f12_length, bnd, jn, c, gw_f]; rfl)
theorem R_hour (h : RW L M) : (f12_hour (M 12)).1 = (f11_hour M).1.2 ∧ RW (L + 1000) (uW M 12 (f12_hour (M 12)).2) := by
  refine ⟨h.o.2.1.symm, ?_⟩
  have H := OpR.qry (kf := kfI 1 1) (z := f11_hour M) (f := f12_hour) (v := M 4 0 0 2) h rfl (by show ((M 12 0 0 10), u3 (M 12) 0 0 0 0) = _; rw [h.o.2.1])
  obtain ⟨h1, h2, h3, h4⟩ := H.rw0 rfl
  exact ⟨h1, h2, h3, h4⟩
end REL
