/-! TAKING an order up: in both alike -/
section REL
variable {L : Int} {M M1 : Wm} {m m1 : Cm} {p1 p2 p3 p4 w : Int32}
theorem take12_e : f12_takeUp m p1 p2 = (if f12_isOrder m p1 = true then if f12_in p2 1 1000 = true then if m 17 0 p1 = 2 ∨ m 17 0 p1 = 3 then (f12_run (u3 (u3 m 0 0 0 0) 16 0 p1 p2) p1 17 0 p1, f12_run (u3 (u3 m 0 0 0 0) 16 0 p1 p2) p1) else (0, u3 m 0 0 0 3) else (0, u3 m 0 0 0 2) else (0, u3 m 0 0 0 1)) := by
  unfold f12_takeUp
  generalize f12_run = F
  simp only [bnd_e, jn_e]
  cases f12_isOrder m p1 with
  | false => rfl
  | true =>
    cases f12_in p2 1 1000 with
    | false =>
      simp only [if_true]
      by_cases c2 : m 17 0 p1 = 2
      · rw [if_pos c2]; rfl
      · rw [if_neg c2]
        by_cases c3 : m 17 0 p1 = 3
        · rw [if_pos c3]; rfl
        · rw [if_neg c3]; rfl
    | true =>
      simp only [if_true]
      by_cases c2 : m 17 0 p1 = 2
      · rw [if_pos c2, if_pos (show m 17 0 p1 = 2 ∨ m 17 0 p1 = 3 from Or.inl c2)]; rfl
      · rw [if_neg c2]
        by_cases c3 : m 17 0 p1 = 3
        · rw [if_pos c3, if_pos (show m 17 0 p1 = 2 ∨ m 17 0 p1 = 3 from Or.inr c3)]; rfl
        · rw [if_neg c3, if_neg (show ¬ (m 17 0 p1 = 2 ∨ m 17 0 p1 = 3) from fun z => z.elim c2 c3)]; rfl
theorem take11_e (h0 : 0 ≤ (M 4 0 0 1).toInt) : f11_takeUp M p1 p2 = (if f12_in p1 0 (M 4 0 0 1 - 1) = true then if f12_in p2 1 1000 = true then if M 4 4 p1 4 = 2 ∨ M 4 4 p1 4 = 3 then ((0, f7_execute M p1 p2 4 4 p1 4), f7_execute M p1 p2) else ((2, 0), M) else ((1, 0), M) else ((3, 0), M)) := by
  unfold f11_takeUp
  rw [dE_e h0, show f11_isIn p2 1 1000 = f12_in p2 1 1000 from rfl]
  generalize f7_execute = F
  simp only [bnd_e, jn_e]
  cases f12_in p1 0 (M 4 0 0 1 - 1) with
  | false => rfl
  | true =>
    cases f12_in p2 1 1000 with
    | false => rfl
    | true =>
      simp only [if_true, f11_demand]
      by_cases c2 : M 4 4 p1 4 = 2
      · rw [if_pos c2, if_pos (show M 4 4 p1 4 = 2 ∨ M 4 4 p1 4 = 3 from Or.inl c2)]; rfl
      · rw [if_neg c2]
        by_cases c3 : M 4 4 p1 4 = 3
        · rw [if_pos c3, if_pos (show M 4 4 p1 4 = 2 ∨ M 4 4 p1 4 = 3 from Or.inr c3)]; rfl
        · rw [if_neg c3, if_neg (show ¬ (M 4 4 p1 4 = 2 ∨ M 4 4 p1 4 = 3) from fun z => z.elim c2 c3)]; rfl
/-- an order made ready to be taken up, in the reference -/
theorem RWm.take (h : RWm L M m) (hn : ¬ m 17 0 w = 0) (p : Int32) : RWm L M (u3 (u3 m 0 0 0 0) 16 0 w p) := by
  have hk := h.2.1.2.2.2.2.1
  obtain ⟨h1, h2, h3, h4⟩ := h
  refine ⟨(h1.s0 hk 0).fr (ok12_put0 hk (by decide)) ⟨u3_ne _ _ _ (by decide), u3_ne _ _ _ (by decide)⟩, (h2.s0 0).take (by rw [u3_ne _ _ _ (show ¬ 17 = 0 by decide)]; exact hn) p, ?_, h4⟩
  intro i i0 i1
  rw [u3_ne _ _ _ (show ¬ 0 = 16 by decide), u3_s (by decide)] at i1
  obtain ⟨a, b⟩ := h3 i i0 i1
  rw [u3_ne _ _ _ (show ¬ 19 = 16 by decide), u3_ne _ _ _ (show ¬ 19 = 0 by decide), u3_ne _ _ _ (show ¬ 17 = 16 by decide), u3_ne _ _ _ (show ¬ 17 = 0 by decide)]
  refine ⟨a, fun z => ?_⟩
  have ne : ¬ i = w := by intro q; rw [q] at z; exact hn z
  rw [u3_j ne, u3_ne _ _ _ (show ¬ 16 = 0 by decide)]
  exact b z
theorem take_pre (h : RWm L M m) (hL : L ≤ 1000000) (c : f12_in p1 0 (M 4 0 0 1 - 1) = true) (d : f12_in p2 1 1000 = true) (e : m 17 0 p1 = 2 ∨ m 17 0 p1 = 3) : (0 ≤ p1.toInt ∧ p1.toInt < (M 4 0 0 1).toInt) ∧ (RunOk (u3 (u3 m 0 0 0 0) 16 0 p1 p2) p1 ∧ RWm L (f7_execute M p1 p2) (f12_run (u3 (u3 m 0 0 0 0) 16 0 p1 p2) p1)) ∧ (OkT (u3 (u3 m 0 0 0 0) 16 0 p1 p2) (f12_run (u3 (u3 m 0 0 0 0) 16 0 p1 p2) p1) ∧ RwK p1 (u3 (u3 m 0 0 0 0) 16 0 p1 p2) (f12_run (u3 (u3 m 0 0 0 0) 16 0 p1 p2) p1)) ∧ f12_run (u3 (u3 m 0 0 0 0) 16 0 p1 p2) p1 0 0 0 = 0 ∧ f7_execute M p1 p2 12 = M 12 := by
  have h0 := h.2.1.2.2.1.2.2.1.1
  have hw := in_l h0 c
  have r2 := isIn11_t (show f11_isIn p2 1 1000 = true from d)
  rw [show (1 : Int32).toInt = 1 from rfl, show (1000 : Int32).toInt = 1000 from rfl] at r2
  have hn : ¬ m 17 0 p1 = 0 := by rcases e with z | z <;> rw [z] <;> decide
  obtain ⟨a, b, f, g⟩ := run_w (p2 := p2) (h.take hn p2) hL hw (by rw [u3_at]) ⟨by omega, r2.2⟩
  refine ⟨hw, a, b, ?_, g⟩
  rw [f, u3_ne _ _ _ (show ¬ 0 = 16 by decide), u3_at]
theorem isOrder_e (h : RWm L M m) : f12_isOrder m p1 = f12_in p1 0 (M 4 0 0 1 - 1) := by
  show f12_in p1 0 (m 0 0 11 - 1) = _
  rw [h.2.1.2.2.1.1]
theorem R_takeUp (h : RW L M) (hL : L ≤ 1000000) : OpR L M (kfI 3 1) (f11_takeUp M p1 p2) (fun m => f12_takeUp m p1 p2) := by
  have hm : RWm L M (M 12) := h
  have h0 := h.o.2.2.1.1
  have e11 := take11_e (M := M) (p1 := p1) (p2 := p2) h0
  have e12 := take12_e (m := M 12) (p1 := p1) (p2 := p2)
  rw [isOrder_e hm] at e12
  have P := fun c d e => take_pre (p1 := p1) (p2 := p2) hm hL c d e
  have fe : f12_takeUp (M 12) p1 p2 = f12_takeUp (M 12) p1 p2 := rfl
  generalize f7_execute M p1 p2 = N at e11 P
  generalize f12_run (u3 (u3 (M 12) 0 0 0 0) 16 0 p1 p2) p1 = r at e12 P
  generalize f11_takeUp M p1 p2 = z at e11
  by_cases c : f12_in p1 0 (M 4 0 0 1 - 1) = true
  · rw [if_pos c] at e11 e12
    by_cases d : f12_in p2 1 1000 = true
    · rw [if_pos d] at e11 e12
      have hw := in_l h0 c
      have er := (hm.row hw.1 hw.2).2.2.2.1
      rw [er] at e11
      by_cases e : M 12 17 0 p1 = 2 ∨ M 12 17 0 p1 = 3
      · rw [if_pos e] at e11 e12
        obtain ⟨_, ⟨_, q1⟩, ⟨q2, q3⟩, q4, q5⟩ := P c d e
        have el := q1.2.1.2.2.1.1
        have x1 : (u3 (u3 (M 12) 0 0 0 0) 16 0 p1 p2) 0 0 11 = M 12 0 0 11 := by rw [u3_ne _ _ _ (show ¬ 0 = 16 by decide), u3_s (by decide)]
        have hl : (M 4 0 0 1).toInt ≤ (N 4 0 0 1).toInt := by
          have a := q3.1
          rw [x1] at a
          rw [el, h.o.1]; exact a
        have ev := (q1.row hw.1 (by omega)).2.2.2.1
        rw [ev] at e11
        exact OpR.ok e11 q5 e12 q4 q1.1 (q1.2.1.mono (by omega)) q1.2.2.1 q1.2.2.2
      · rw [if_neg e] at e11 e12
        exact OpR.no (k := 2) (x := 0) h (by decide) (by decide) e11 (by rw [e12]; rfl)
    · rw [if_neg d] at e11 e12
      exact OpR.no (k := 1) (x := 0) h (by decide) (by decide) e11 (by rw [e12]; rfl)
  · rw [if_neg c] at e11 e12
    exact OpR.no (k := 3) (x := 0) h (by decide) (by decide) e11 (by rw [e12]; rfl)
end REL
