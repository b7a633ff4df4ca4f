/-! QUESTIONS: class and reference answer alike -/
section REL
variable {L : Int} {M M1 : Wm} {m m1 : Cm} {p1 p2 p3 p4 : Int32}
theorem fuel_e (h : RW L M) (hc : vp_in p1 4) : M 5 1 0 p1 = M 12 6 0 p1 ∧ M 5 2 0 p1 = M 12 5 0 p1 := ⟨(h.q.1 p1 hc).1, (h.q.1 p1 hc).2.1⟩
theorem R_fuel (h : RW L M) : OpR L M (kfI 1 1) (f11_fuel M p1) (fun m => f12_fuel m p1) := by
  cases c : f12_isCompany p1 with
  | false => exact OpR.no (k := 1) (x := 0) h (by decide) (by decide) (by simp [f11_fuel, bnd, dC_e, c]) (by simp [f12_fuel, bnd, jn, c, gw_t]; rfl)
  | true => exact OpR.qry (v := M 12 6 0 p1) h (by simp [f11_fuel, bnd, dC_e, c, f5_fuelOf, (fuel_e h (isC_in c)).1]) (by simp [f12_fuel, bnd, jn, c, gw_f]; rfl)
theorem R_rations (h : RW L M) : OpR L M (kfI 1 1) (f11_rations M p1) (fun m => f12_rations m p1) := by
  cases c : f12_isCompany p1 with
  | false => exact OpR.no (k := 1) (x := 0) h (by decide) (by decide) (by simp [f11_rations, bnd, dC_e, c]) (by simp [f12_rations, bnd, jn, c, gw_t]; rfl)
  | true => exact OpR.qry (v := M 12 5 0 p1) h (by simp [f11_rations, bnd, dC_e, c, f5_rationsOf, (fuel_e h (isC_in c)).2]) (by simp [f12_rations, bnd, jn, c, gw_f]; rfl)
theorem R_debt (h : RW L M) : OpR L M (kfI 1 1) (f11_debt M p1 p2) (fun m => f12_debt m p1 p2) := by
  cases c : f12_isCompany p1 with
  | false => exact OpR.no (k := 1) (x := 0) h (by decide) (by decide) (by simp [f11_debt, bnd, dC_e, c]) (by simp [f12_debt, bnd, jn, c, gw_t]; rfl)
  | true =>
    cases d : f12_isCompany p2 with
    | false => exact OpR.no (k := 1) (x := 0) h (by decide) (by decide) (by simp [f11_debt, bnd, dC_e, c, d]) (by simp [f12_debt, bnd, jn, c, d, gw_t]; rfl)
    | true => exact OpR.qry (v := M 12 7 0 (4 * p1 + p2)) h (by simp [f11_debt, bnd, dC_e, c, d, f5_debtOf, (h.q.2.1 p1 p2 (isC_in c) (isC_in d)).1]) (by simp [f12_debt, bnd, jn, c, d, gw_f]; rfl)
theorem R_orders (h : RW L M) : (f12_orders (M 12)).1 = (f11_orders M).1.2 ∧ RW (L + 1000) (uW M 12 (f12_orders (M 12)).2) := by
  refine ⟨h.o.1.symm, ?_⟩
  have H := OpR.qry (kf := kfI 1 1) (z := f11_orders M) (f := f12_orders) (v := M 4 0 0 1) h rfl (by show ((M 12 0 0 11), u3 (M 12) 0 0 0 0) = _; rw [h.o.1])
  obtain ⟨h1, h2, h3, h4⟩ := H.rw0 rfl
  exact ⟨h1, h2, h3, h4⟩
theorem R_moves (h : RW L M) : (f12_moves (M 12)).1 = (f11_moves M).1.2 ∧ RW (L + 1000) (uW M 12 (f12_moves (M 12)).2) := by
  refine ⟨h.b.1.symm, ?_⟩
  have H := OpR.qry (kf := kfI 1 1) (z := f11_moves M) (f := f12_moves) (v := M 1 0 0 7) h rfl (by show ((M 12 0 0 21), u3 (M 12) 0 0 0 0) = _; rw [h.b.1])
  obtain ⟨h1, h2, h3, h4⟩ := H.rw0 rfl
  exact ⟨h1, h2, h3, h4⟩
/-- rows of orders -/
theorem isO_e (h : RW L M) : f12_isOrder (M 12) p1 = f12_in p1 0 (M 4 0 0 1 - 1) := by
  show f12_in p1 0 (M 12 0 0 11 - 1) = _
  rw [h.o.1]
theorem row_q (h : RW L M) {x : Nat → Int32} {z : (Nat × Int32) × Wm} {f : Cm → Int32 × Cm} {v w : Int32} (ez : z = if f11_existing M p1 = 0 then ((0, v), M) else ((f11_existing M p1, 0), M)) (ef : f (M 12) = if f12_isOrder (M 12) p1 = true then (w, u3 (M 12) 0 0 0 0) else (0, u3 (M 12) 0 0 0 1)) (hvw : 0 ≤ p1.toInt → p1.toInt < (M 4 0 0 1).toInt → v = w) : OpR L M (kfI 3 3) z f := by
  have h0 := h.o.2.2.1.1
  cases c : f12_in p1 0 (M 4 0 0 1 - 1) with
  | false =>
    have e1 : f11_existing M p1 = 3 := by rw [dE_e h0, c]; rfl
    rw [e1] at ez
    rw [isO_e h, c] at ef
    exact OpR.no (k := 3) (x := 0) h (by decide) (by decide) ez (by rw [ef]; rfl)
  | true =>
    have e1 : f11_existing M p1 = 0 := by rw [dE_e h0, c]; rfl
    rw [e1] at ez
    rw [isO_e h, c] at ef
    have r := in_l h0 c
    rw [hvw r.1 r.2] at ez
    exact OpR.qry (v := w) h ez ef
theorem row_f (m : Cm) (p1 : Int32) (g : Cm → Int32) : bnd (f12_isOrder m p1) (fun (r1 : Bool) => jn (fun (v2 : Bool) => bnd (f12_goesWell m (b2i v2)) (fun (r5 : Bool × Cm) => if r5.1 = true then (g r5.2, r5.2) else (0, r5.2))) (fun K3 => if r1 = true then K3 false else K3 true)) = if f12_isOrder m p1 = true then (g (u3 m 0 0 0 0), u3 m 0 0 0 0) else (0, u3 m 0 0 0 1) := by
  simp only [bnd_e, jn_e]
  by_cases c : f12_isOrder m p1 = true
  · rw [if_pos c, if_pos c]; rfl
  · rw [if_neg c, if_neg c]; rfl
theorem R_state (h : RW L M) : OpR L M (kfI 3 3) (f11_state M p1) (fun m => f12_state m p1) :=
  row_q (x := fun _ => 0) h rfl (row_f (M 12) p1 (fun m => m 17 0 p1)) (fun a b => ((h.o.2.2.2.1 p1 a b).2.2.2.2.2.2.2.1 (by intro z; rw [z] at a; exact absurd a (by decide))).1)
theorem R_done (h : RW L M) : OpR L M (kfI 3 3) (f11_done M p1) (fun m => f12_done m p1) :=
  row_q (x := fun _ => 0) h rfl (row_f (M 12) p1 (fun m => m 19 0 p1)) (fun a b => (h.o.2.2.2.1 p1 a b).2.2.2.1)
theorem R_value (h : RW L M) : OpR L M (kfI 3 3) (f11_value M p1) (fun m => f12_value m p1) :=
  row_q (x := fun _ => 0) h rfl (row_f (M 12) p1 (fun m => m 20 0 p1)) (fun a b => (h.o.2.2.2.1 p1 a b).2.2.2.2.1)
theorem R_used (h : RW L M) : OpR L M (kfI 3 3) (f11_used M p1) (fun m => f12_used m p1) :=
  row_q (x := fun _ => 0) h rfl (row_f (M 12) p1 (fun m => m 21 0 p1)) (fun a b => ((h.o.2.2.2.1 p1 a b).2.2.2.2.2.2.2.1 (by intro z; rw [z] at a; exact absurd a (by decide))).2.2.1)
theorem R_hourOf (h : RW L M) : OpR L M (kfI 3 3) (f11_hourOf M p1) (fun m => f12_hourOf m p1) :=
  row_q (x := fun _ => 0) h rfl (row_f (M 12) p1 (fun m => m 15 0 p1)) (fun a b => (h.o.2.2.2.1 p1 a b).2.2.1)
theorem R_why (h : RW L M) : OpR L M (kfI 3 3) (f11_why M p1) (fun m => f12_why m p1) := by
  refine row_q (x := fun _ => 0) (w := wyI (M 12) p1) h rfl ?_ (fun a b => ((h.o.2.2.2.1 p1 a b).2.2.2.2.2.2.2.1 (by intro z; rw [z] at a; exact absurd a (by decide))).2.1)
  show f12_why (M 12) p1 = _
  unfold f12_why wyI
  simp only [bnd_e, jn_e]
  by_cases c : f12_isOrder (M 12) p1 = true
  · rw [if_pos c, if_pos c, gw_f]
    show (if u3 (M 12) 0 0 0 0 17 0 p1 = 3 then (u3 (M 12) 0 0 0 0 18 0 p1, u3 (M 12) 0 0 0 0) else (0, u3 (M 12) 0 0 0 0)) = _
    rw [u3_ne _ _ _ (show ¬ 17 = 0 by decide), u3_ne _ _ _ (show ¬ 18 = 0 by decide)]
    by_cases d : M 12 17 0 p1 = 3
    · rw [if_pos d, if_pos d]
    · rw [if_neg d, if_neg d]
  · rw [if_neg c, if_neg c]; rfl
/-- moves -/
theorem isM_e (m : Cm) (p1 : Int32) : f12_isMove m p1 = if f12_in p1 0 (m 0 0 21 - 1) = true then (true, u3 m 0 0 0 0) else (false, u3 m 0 0 0 1) := by
  unfold f12_isMove
  simp only [bnd_e, jn_e]
  by_cases c : f12_in p1 0 (m 0 0 21 - 1) = true
  · rw [if_pos c, if_pos c]; rfl
  · rw [if_neg c, if_neg c]; rfl
theorem mv_q (h : RW L M) {z : (Nat × Int32) × Wm} {f : Cm → Int32 × Cm} {v w : Int32} (ez : z = if f11_demandIndex p1 (M 1 0 0 7) = 0 then ((0, v), M) else ((f11_demandIndex p1 (M 1 0 0 7), 0), M)) (ef : f12_isMove (M 12) p1 = (true, u3 (M 12) 0 0 0 0) → f (M 12) = (w, u3 (M 12) 0 0 0 0)) (en : f12_isMove (M 12) p1 = (false, u3 (M 12) 0 0 0 1) → f (M 12) = (0, u3 (M 12) 0 0 0 1)) (hvw : 0 ≤ p1.toInt → p1.toInt < (M 1 0 0 7).toInt → v = w) : OpR L M (kfI 3 3) z f := by
  have h0 := h.b.2.1.1
  have em := isM_e (M 12) p1
  rw [← h.b.1] at em
  cases c : f12_in p1 0 (M 1 0 0 7 - 1) with
  | false =>
    have e1 : f11_demandIndex p1 (M 1 0 0 7) = 3 := by rw [dI_e h0, c]; rfl
    rw [e1] at ez
    rw [c] at em
    exact OpR.no (k := 3) (x := 0) h (by decide) (by decide) ez (by rw [en em]; rfl)
  | true =>
    have e1 : f11_demandIndex p1 (M 1 0 0 7) = 0 := by rw [dI_e h0, c]; rfl
    rw [e1] at ez
    rw [c] at em
    have r := in_l h0 c
    rw [hvw r.1 r.2] at ez
    exact OpR.qry (v := w) h ez (ef em)
theorem R_movedGood (h : RW L M) : OpR L M (kfI 3 3) (f11_movedGood M p1) (fun m => f12_movedGood m p1) := by
  refine mv_q (w := M 12 25 0 p1) h rfl (fun e => ?_) (fun e => ?_) (fun a b => (h.b.2.2.1 p1 a b).1.2.2.1)
  · show f12_movedGood (M 12) p1 = _
    unfold f12_movedGood; simp only [bnd_e]; rw [e]; rfl
  · show f12_movedGood (M 12) p1 = _
    unfold f12_movedGood; simp only [bnd_e]; rw [e]; rfl
theorem R_movedAmount (h : RW L M) : OpR L M (kfI 3 3) (f11_movedAmount M p1) (fun m => f12_movedAmount m p1) := by
  refine mv_q (w := M 12 26 0 p1) h rfl (fun e => ?_) (fun e => ?_) (fun a b => (h.b.2.2.1 p1 a b).1.2.2.2.1)
  · show f12_movedAmount (M 12) p1 = _
    unfold f12_movedAmount; simp only [bnd_e]; rw [e]; rfl
  · show f12_movedAmount (M 12) p1 = _
    unfold f12_movedAmount; simp only [bnd_e]; rw [e]; rfl
theorem R_movedBy (h : RW L M) : OpR L M (kfI 3 3) (f11_movedBy M p1) (fun m => f12_movedBy m p1) := by
  refine mv_q (w := M 12 27 0 p1) h rfl (fun e => ?_) (fun e => ?_) (fun a b => (h.b.2.2.1 p1 a b).1.2.2.2.2)
  · show f12_movedBy (M 12) p1 = _
    unfold f12_movedBy; simp only [bnd_e]; rw [e]; rfl
  · show f12_movedBy (M 12) p1 = _
    unfold f12_movedBy; simp only [bnd_e]; rw [e]; rfl
theorem R_movedFrom (h : RW L M) : OpR L M (kfI 3 3) (f11_movedFrom M p1) (fun m => f12_movedFrom m p1) := by
  refine mv_q (w := ow (M 12 23 0 p1)) h rfl (fun e => ?_) (fun e => ?_) (fun a b => (h.b.2.2.1 p1 a b).1.1)
  · show f12_movedFrom (M 12) p1 = _
    unfold f12_movedFrom ow; simp only [bnd_e]; rw [e]
    show (if u3 (M 12) 0 0 0 0 23 0 p1 = 4 then ((-1 : Int32), u3 (M 12) 0 0 0 0) else (u3 (M 12) 0 0 0 0 23 0 p1, u3 (M 12) 0 0 0 0)) = _
    rw [u3_ne _ _ _ (show ¬ 23 = 0 by decide)]
    by_cases c : M 12 23 0 p1 = 4
    · rw [if_pos c, if_pos c]
    · rw [if_neg c, if_neg c]
  · show f12_movedFrom (M 12) p1 = _
    unfold f12_movedFrom; simp only [bnd_e]; rw [e]; rfl
theorem R_movedTo (h : RW L M) : OpR L M (kfI 3 3) (f11_movedTo M p1) (fun m => f12_movedTo m p1) := by
  refine mv_q (w := ow (M 12 24 0 p1)) h rfl (fun e => ?_) (fun e => ?_) (fun a b => (h.b.2.2.1 p1 a b).1.2.1)
  · show f12_movedTo (M 12) p1 = _
    unfold f12_movedTo ow; simp only [bnd_e]; rw [e]
    show (if u3 (M 12) 0 0 0 0 24 0 p1 = 4 then ((-1 : Int32), u3 (M 12) 0 0 0 0) else (u3 (M 12) 0 0 0 0 24 0 p1, u3 (M 12) 0 0 0 0)) = _
    rw [u3_ne _ _ _ (show ¬ 24 = 0 by decide)]
    by_cases c : M 12 24 0 p1 = 4
    · rw [if_pos c, if_pos c]
    · rw [if_neg c, if_neg c]
  · show f12_movedTo (M 12) p1 = _
    unfold f12_movedTo; simp only [bnd_e]; rw [e]; rfl
end REL
