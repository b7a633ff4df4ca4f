/-! QUESTIONS, told by the reference's data alone; they change nothing that is told -/
section ASK
variable {x : Int32 → Int32} {k : Int} {M : Wm} {p1 p2 : Int32}
def Q12 (a b : Nat) (r : Int32 × Cm) : Nat × Int32 := if r.2 0 0 0 = 0 then (0, r.1) else (kI a b (r.2 0 0 0), 0)
def LQ (x : Int32 → Int32) (k : Int) (M : Wm) (z : (Nat × Int32) × Wm) (y : Nat × Int32) : Prop := z.1.1 = y.1 ∧ (z.1.1 = 0 → z.1.2 = y.2) ∧ LW x k z.2 ∧ z.2 12 = M 12
theorem u3_s0 {m : Cm} (h : m 0 0 0 = 0) : u3 m 0 0 0 0 = m := by
  funext g i j
  unfold u3
  by_cases c : g = 0 ∧ i = 0
  · rw [if_pos c, c.1, c.2]
    unfold fI
    by_cases d : j = 0
    · rw [if_pos d, d, h]
    · rw [if_neg d]
  · rw [if_neg c]
theorem LQ.of {a c : Nat} {z : (Nat × Int32) × Wm} {f : Cm → Int32 × Cm} (h : LW x k M) (H : OpR 1000 M (kfI a c) z f) (hj : J0 x (100000 * k) (1000 + 1000 * k) z.2) (hf : ∃ t : Int32, (f (M 12)).2 = u3 (M 12) 0 0 0 t) (hk : z.1.1 = 0 ∨ kI a c (kfI a c z.1.1) = z.1.1) : LQ x k M z (Q12 a c (f (M 12))) := by
  have O := LOp.of h H hj h.2.2.1 h.2.2.2.2 hk
  have e12 := H.1
  obtain ⟨t, ht⟩ := hf
  have e0 : (f (M 12)).2 0 0 0 = t := by rw [ht, u3_at]
  obtain ⟨o1, o2, o3⟩ := O
  have eM : uW z.2 12 (M 12) = z.2 := by rw [← e12]; exact (uW_self z.2 12).symm
  by_cases c0 : t = 0
  · have ey : Z12 a c (M 12) (f (M 12)) = ((0, (f (M 12)).1), M 12) := by
      unfold Z12; rw [if_pos (e0.trans c0), ht, c0, u3_s0 h.2.2.2.1]
    have eq : Q12 a c (f (M 12)) = (0, (f (M 12)).1) := by unfold Q12; rw [if_pos (e0.trans c0)]
    rw [ey] at o1 o2 o3
    rw [eq]
    dsimp only at o3
    rw [eM] at o3
    exact ⟨o1, o2, o3, e12⟩
  · have ne : ¬ (f (M 12)).2 0 0 0 = 0 := by rw [e0]; exact c0
    have ey : Z12 a c (M 12) (f (M 12)) = ((kI a c ((f (M 12)).2 0 0 0), 0), M 12) := by unfold Z12; rw [if_neg ne]
    have eq : Q12 a c (f (M 12)) = (kI a c ((f (M 12)).2 0 0 0), 0) := by unfold Q12; rw [if_neg ne]
    rw [ey] at o1 o2 o3
    rw [eq]
    dsimp only at o3
    rw [eM] at o3
    exact ⟨o1, o2, o3, e12⟩
theorem isMove_q (m : Cm) (p1 : Int32) : ∃ t : Int32, (f12_isMove m p1).2 = u3 m 0 0 0 t := by
  unfold f12_isMove; simp only [bnd_e, jn_e]
  repeat' split
  all_goals first | exact ⟨_, goesWell_m _ _⟩ | exact ⟨_, rfl⟩
theorem leftBy_q (p1 p2 : Int32) (r : Bool × Cm) : ∀ (k : Nat) (y : Int32 × Int32), (f12_leftBy_lp41 p1 p2 r k y).2 = r.2 := by
  intro k
  induction k with
  | zero => intro y; rfl
  | succ k ih =>
    intro y
    unfold f12_leftBy_lp41
    simp only [bnd_e, jn_e]
    repeat' split
    all_goals first | rfl | exact ih _
theorem qf_length (m : Cm) (p1 : Int32) : ∃ t : Int32, (f12_length m p1).2 = u3 m 0 0 0 t := by
  unfold f12_length; simp only [bnd_e, jn_e]
  repeat' split
  all_goals first | exact ⟨_, goesWell_m _ _⟩ | exact ⟨_, (leftBy_q _ _ _ _ _).trans (goesWell_m _ _)⟩ | exact isMove_q _ _ | exact ⟨_, rfl⟩
theorem qm_length (M : Wm) (p1 : Int32) : (f11_length M p1).2 = M := by
  unfold f11_length; simp only [bnd_e, jn_e]
  repeat' split
  all_goals rfl
def g_length (m : Cm) (p1 : Int32) : Nat × Int32 := Q12 1 1 (f12_length m p1)
theorem A_length (h : LW x k M) : LQ x k M (f11_length M p1) (g_length (M 12) p1) := LQ.of (f := fun m => f12_length m p1) h (R_length h.1) ((by rw [qm_length]; exact h.2.1)) (qf_length _ _) (k11 k_length)
theorem qf_fault (m : Cm) (p1 : Int32) : ∃ t : Int32, (f12_fault m p1).2 = u3 m 0 0 0 t := by
  unfold f12_fault; simp only [bnd_e, jn_e]
  repeat' split
  all_goals first | exact ⟨_, goesWell_m _ _⟩ | exact ⟨_, (leftBy_q _ _ _ _ _).trans (goesWell_m _ _)⟩ | exact isMove_q _ _ | exact ⟨_, rfl⟩
def g_fault (m : Cm) (p1 : Int32) : Nat × Int32 := Q12 1 1 (f12_fault m p1)
theorem A_fault (h : LW x k M) : LQ x k M (f11_fault M p1) (g_fault (M 12) p1) := LQ.of (f := fun m => f12_fault m p1) h (R_fault h.1) (j_fault h.2.1) (qf_fault _ _) (k11 k_fault)
theorem qf_expressions (m : Cm) (p1 : Int32) : ∃ t : Int32, (f12_expressions m p1).2 = u3 m 0 0 0 t := by
  unfold f12_expressions; simp only [bnd_e, jn_e]
  repeat' split
  all_goals first | exact ⟨_, goesWell_m _ _⟩ | exact ⟨_, (leftBy_q _ _ _ _ _).trans (goesWell_m _ _)⟩ | exact isMove_q _ _ | exact ⟨_, rfl⟩
def g_expressions (m : Cm) (p1 : Int32) : Nat × Int32 := Q12 1 2 (f12_expressions m p1)
theorem A_expressions (h : LW x k M) : LQ x k M (f11_expressions M p1) (g_expressions (M 12) p1) := LQ.of (f := fun m => f12_expressions m p1) h (R_expressions h.1) (j_expressions h.2.1) (qf_expressions _ _) (k12 k_expressions)
theorem qf_stock (m : Cm) (p1 : Int32) (p2 : Int32) : ∃ t : Int32, (f12_stock m p1 p2).2 = u3 m 0 0 0 t := by
  unfold f12_stock f12_stockByMoves; simp only [bnd_e, jn_e]
  repeat' split
  all_goals first | exact ⟨_, goesWell_m _ _⟩ | exact ⟨_, (leftBy_q _ _ _ _ _).trans (goesWell_m _ _)⟩ | exact isMove_q _ _ | exact ⟨_, rfl⟩
theorem qm_stock (M : Wm) (p1 : Int32) (p2 : Int32) : (f11_stock M p1 p2).2 = M := by
  unfold f11_stock; simp only [bnd_e, jn_e]
  repeat' split
  all_goals rfl
def g_stock (m : Cm) (p1 : Int32) (p2 : Int32) : Nat × Int32 := Q12 1 1 (f12_stock m p1 p2)
theorem A_stock (h : LW x k M) : LQ x k M (f11_stock M p1 p2) (g_stock (M 12) p1 p2) := LQ.of (f := fun m => f12_stock m p1 p2) h (R_stock h.1) ((by rw [qm_stock]; exact h.2.1)) (qf_stock _ _ _) (k11 k_stock)
theorem qf_stockByMoves (m : Cm) (p1 : Int32) (p2 : Int32) : ∃ t : Int32, (f12_stockByMoves m p1 p2).2 = u3 m 0 0 0 t := by
  unfold f12_stockByMoves; simp only [bnd_e, jn_e]
  repeat' split
  all_goals first | exact ⟨_, goesWell_m _ _⟩ | exact ⟨_, (leftBy_q _ _ _ _ _).trans (goesWell_m _ _)⟩ | exact isMove_q _ _ | exact ⟨_, rfl⟩
theorem qm_stockByMoves (M : Wm) (p1 : Int32) (p2 : Int32) : (f11_stockByMoves M p1 p2).2 = M := by
  unfold f11_stockByMoves; simp only [bnd_e, jn_e]
  repeat' split
  all_goals rfl
def g_stockByMoves (m : Cm) (p1 : Int32) (p2 : Int32) : Nat × Int32 := Q12 1 1 (f12_stockByMoves m p1 p2)
theorem A_stockByMoves (h : LW x k M) : LQ x k M (f11_stockByMoves M p1 p2) (g_stockByMoves (M 12) p1 p2) := LQ.of (f := fun m => f12_stockByMoves m p1 p2) h (R_stockByMoves h.1) ((by rw [qm_stockByMoves]; exact h.2.1)) (qf_stockByMoves _ _ _) (k11 k_stockByMoves)
theorem qf_leftBy (m : Cm) (p1 : Int32) (p2 : Int32) : ∃ t : Int32, (f12_leftBy m p1 p2).2 = u3 m 0 0 0 t := by
  unfold f12_leftBy; simp only [bnd_e, jn_e]
  repeat' split
  all_goals first | exact ⟨_, goesWell_m _ _⟩ | exact ⟨_, (leftBy_q _ _ _ _ _).trans (goesWell_m _ _)⟩ | exact isMove_q _ _ | exact ⟨_, rfl⟩
theorem qm_leftBy (M : Wm) (p1 : Int32) (p2 : Int32) : (f11_leftBy M p1 p2).2 = M := by
  unfold f11_leftBy; simp only [bnd_e, jn_e]
  repeat' split
  all_goals rfl
def g_leftBy (m : Cm) (p1 : Int32) (p2 : Int32) : Nat × Int32 := Q12 3 1 (f12_leftBy m p1 p2)
theorem A_leftBy (h : LW x k M) : LQ x k M (f11_leftBy M p1 p2) (g_leftBy (M 12) p1 p2) := LQ.of (f := fun m => f12_leftBy m p1 p2) h (R_leftBy h.1) ((by rw [qm_leftBy]; exact h.2.1)) (qf_leftBy _ _ _) (k31 k_leftBy)
theorem qf_fuel (m : Cm) (p1 : Int32) : ∃ t : Int32, (f12_fuel m p1).2 = u3 m 0 0 0 t := by
  unfold f12_fuel; simp only [bnd_e, jn_e]
  repeat' split
  all_goals first | exact ⟨_, goesWell_m _ _⟩ | exact ⟨_, (leftBy_q _ _ _ _ _).trans (goesWell_m _ _)⟩ | exact isMove_q _ _ | exact ⟨_, rfl⟩
theorem qm_fuel (M : Wm) (p1 : Int32) : (f11_fuel M p1).2 = M := by
  unfold f11_fuel; simp only [bnd_e, jn_e]
  repeat' split
  all_goals rfl
def g_fuel (m : Cm) (p1 : Int32) : Nat × Int32 := Q12 1 1 (f12_fuel m p1)
theorem A_fuel (h : LW x k M) : LQ x k M (f11_fuel M p1) (g_fuel (M 12) p1) := LQ.of (f := fun m => f12_fuel m p1) h (R_fuel h.1) ((by rw [qm_fuel]; exact h.2.1)) (qf_fuel _ _) (k11 k_fuel)
theorem qf_rations (m : Cm) (p1 : Int32) : ∃ t : Int32, (f12_rations m p1).2 = u3 m 0 0 0 t := by
  unfold f12_rations; simp only [bnd_e, jn_e]
  repeat' split
  all_goals first | exact ⟨_, goesWell_m _ _⟩ | exact ⟨_, (leftBy_q _ _ _ _ _).trans (goesWell_m _ _)⟩ | exact isMove_q _ _ | exact ⟨_, rfl⟩
theorem qm_rations (M : Wm) (p1 : Int32) : (f11_rations M p1).2 = M := by
  unfold f11_rations; simp only [bnd_e, jn_e]
  repeat' split
  all_goals rfl
def g_rations (m : Cm) (p1 : Int32) : Nat × Int32 := Q12 1 1 (f12_rations m p1)
theorem A_rations (h : LW x k M) : LQ x k M (f11_rations M p1) (g_rations (M 12) p1) := LQ.of (f := fun m => f12_rations m p1) h (R_rations h.1) ((by rw [qm_rations]; exact h.2.1)) (qf_rations _ _) (k11 k_rations)
theorem qf_debt (m : Cm) (p1 : Int32) (p2 : Int32) : ∃ t : Int32, (f12_debt m p1 p2).2 = u3 m 0 0 0 t := by
  unfold f12_debt; simp only [bnd_e, jn_e]
  repeat' split
  all_goals first | exact ⟨_, goesWell_m _ _⟩ | exact ⟨_, (leftBy_q _ _ _ _ _).trans (goesWell_m _ _)⟩ | exact isMove_q _ _ | exact ⟨_, rfl⟩
theorem qm_debt (M : Wm) (p1 : Int32) (p2 : Int32) : (f11_debt M p1 p2).2 = M := by
  unfold f11_debt; simp only [bnd_e, jn_e]
  repeat' split
  all_goals rfl
def g_debt (m : Cm) (p1 : Int32) (p2 : Int32) : Nat × Int32 := Q12 1 1 (f12_debt m p1 p2)
theorem A_debt (h : LW x k M) : LQ x k M (f11_debt M p1 p2) (g_debt (M 12) p1 p2) := LQ.of (f := fun m => f12_debt m p1 p2) h (R_debt h.1) ((by rw [qm_debt]; exact h.2.1)) (qf_debt _ _ _) (k11 k_debt)
theorem qf_state (m : Cm) (p1 : Int32) : ∃ t : Int32, (f12_state m p1).2 = u3 m 0 0 0 t := by
  unfold f12_state; simp only [bnd_e, jn_e]
  repeat' split
  all_goals first | exact ⟨_, goesWell_m _ _⟩ | exact ⟨_, (leftBy_q _ _ _ _ _).trans (goesWell_m _ _)⟩ | exact isMove_q _ _ | exact ⟨_, rfl⟩
theorem qm_state (M : Wm) (p1 : Int32) : (f11_state M p1).2 = M := by
  unfold f11_state; simp only [bnd_e, jn_e]
  repeat' split
  all_goals rfl
def g_state (m : Cm) (p1 : Int32) : Nat × Int32 := Q12 3 3 (f12_state m p1)
theorem A_state (h : LW x k M) : LQ x k M (f11_state M p1) (g_state (M 12) p1) := LQ.of (f := fun m => f12_state m p1) h (R_state h.1) ((by rw [qm_state]; exact h.2.1)) (qf_state _ _) (k33 k_state)
theorem qf_why (m : Cm) (p1 : Int32) : ∃ t : Int32, (f12_why m p1).2 = u3 m 0 0 0 t := by
  unfold f12_why; simp only [bnd_e, jn_e]
  repeat' split
  all_goals first | exact ⟨_, goesWell_m _ _⟩ | exact ⟨_, (leftBy_q _ _ _ _ _).trans (goesWell_m _ _)⟩ | exact isMove_q _ _ | exact ⟨_, rfl⟩
theorem qm_why (M : Wm) (p1 : Int32) : (f11_why M p1).2 = M := by
  unfold f11_why; simp only [bnd_e, jn_e]
  repeat' split
  all_goals rfl
def g_why (m : Cm) (p1 : Int32) : Nat × Int32 := Q12 3 3 (f12_why m p1)
theorem A_why (h : LW x k M) : LQ x k M (f11_why M p1) (g_why (M 12) p1) := LQ.of (f := fun m => f12_why m p1) h (R_why h.1) ((by rw [qm_why]; exact h.2.1)) (qf_why _ _) (k33 k_why)
theorem qf_done (m : Cm) (p1 : Int32) : ∃ t : Int32, (f12_done m p1).2 = u3 m 0 0 0 t := by
  unfold f12_done; simp only [bnd_e, jn_e]
  repeat' split
  all_goals first | exact ⟨_, goesWell_m _ _⟩ | exact ⟨_, (leftBy_q _ _ _ _ _).trans (goesWell_m _ _)⟩ | exact isMove_q _ _ | exact ⟨_, rfl⟩
theorem qm_done (M : Wm) (p1 : Int32) : (f11_done M p1).2 = M := by
  unfold f11_done; simp only [bnd_e, jn_e]
  repeat' split
  all_goals rfl
def g_done (m : Cm) (p1 : Int32) : Nat × Int32 := Q12 3 3 (f12_done m p1)
theorem A_done (h : LW x k M) : LQ x k M (f11_done M p1) (g_done (M 12) p1) := LQ.of (f := fun m => f12_done m p1) h (R_done h.1) ((by rw [qm_done]; exact h.2.1)) (qf_done _ _) (k33 k_done)
theorem qf_value (m : Cm) (p1 : Int32) : ∃ t : Int32, (f12_value m p1).2 = u3 m 0 0 0 t := by
  unfold f12_value; simp only [bnd_e, jn_e]
  repeat' split
  all_goals first | exact ⟨_, goesWell_m _ _⟩ | exact ⟨_, (leftBy_q _ _ _ _ _).trans (goesWell_m _ _)⟩ | exact isMove_q _ _ | exact ⟨_, rfl⟩
theorem qm_value (M : Wm) (p1 : Int32) : (f11_value M p1).2 = M := by
  unfold f11_value; simp only [bnd_e, jn_e]
  repeat' split
  all_goals rfl
def g_value (m : Cm) (p1 : Int32) : Nat × Int32 := Q12 3 3 (f12_value m p1)
theorem A_value (h : LW x k M) : LQ x k M (f11_value M p1) (g_value (M 12) p1) := LQ.of (f := fun m => f12_value m p1) h (R_value h.1) ((by rw [qm_value]; exact h.2.1)) (qf_value _ _) (k33 k_value)
theorem qf_used (m : Cm) (p1 : Int32) : ∃ t : Int32, (f12_used m p1).2 = u3 m 0 0 0 t := by
  unfold f12_used; simp only [bnd_e, jn_e]
  repeat' split
  all_goals first | exact ⟨_, goesWell_m _ _⟩ | exact ⟨_, (leftBy_q _ _ _ _ _).trans (goesWell_m _ _)⟩ | exact isMove_q _ _ | exact ⟨_, rfl⟩
theorem qm_used (M : Wm) (p1 : Int32) : (f11_used M p1).2 = M := by
  unfold f11_used; simp only [bnd_e, jn_e]
  repeat' split
  all_goals rfl
def g_used (m : Cm) (p1 : Int32) : Nat × Int32 := Q12 3 3 (f12_used m p1)
theorem A_used (h : LW x k M) : LQ x k M (f11_used M p1) (g_used (M 12) p1) := LQ.of (f := fun m => f12_used m p1) h (R_used h.1) ((by rw [qm_used]; exact h.2.1)) (qf_used _ _) (k33 k_used)
theorem qf_hourOf (m : Cm) (p1 : Int32) : ∃ t : Int32, (f12_hourOf m p1).2 = u3 m 0 0 0 t := by
  unfold f12_hourOf; simp only [bnd_e, jn_e]
  repeat' split
  all_goals first | exact ⟨_, goesWell_m _ _⟩ | exact ⟨_, (leftBy_q _ _ _ _ _).trans (goesWell_m _ _)⟩ | exact isMove_q _ _ | exact ⟨_, rfl⟩
theorem qm_hourOf (M : Wm) (p1 : Int32) : (f11_hourOf M p1).2 = M := by
  unfold f11_hourOf; simp only [bnd_e, jn_e]
  repeat' split
  all_goals rfl
def g_hourOf (m : Cm) (p1 : Int32) : Nat × Int32 := Q12 3 3 (f12_hourOf m p1)
theorem A_hourOf (h : LW x k M) : LQ x k M (f11_hourOf M p1) (g_hourOf (M 12) p1) := LQ.of (f := fun m => f12_hourOf m p1) h (R_hourOf h.1) ((by rw [qm_hourOf]; exact h.2.1)) (qf_hourOf _ _) (k33 k_hourOf)
theorem qf_movedFrom (m : Cm) (p1 : Int32) : ∃ t : Int32, (f12_movedFrom m p1).2 = u3 m 0 0 0 t := by
  unfold f12_movedFrom; simp only [bnd_e, jn_e]
  repeat' split
  all_goals first | exact ⟨_, goesWell_m _ _⟩ | exact ⟨_, (leftBy_q _ _ _ _ _).trans (goesWell_m _ _)⟩ | exact isMove_q _ _ | exact ⟨_, rfl⟩
theorem qm_movedFrom (M : Wm) (p1 : Int32) : (f11_movedFrom M p1).2 = M := by
  unfold f11_movedFrom; simp only [bnd_e, jn_e]
  repeat' split
  all_goals rfl
def g_movedFrom (m : Cm) (p1 : Int32) : Nat × Int32 := Q12 3 3 (f12_movedFrom m p1)
theorem A_movedFrom (h : LW x k M) : LQ x k M (f11_movedFrom M p1) (g_movedFrom (M 12) p1) := LQ.of (f := fun m => f12_movedFrom m p1) h (R_movedFrom h.1) ((by rw [qm_movedFrom]; exact h.2.1)) (qf_movedFrom _ _) (k33 k_movedFrom)
theorem qf_movedTo (m : Cm) (p1 : Int32) : ∃ t : Int32, (f12_movedTo m p1).2 = u3 m 0 0 0 t := by
  unfold f12_movedTo; simp only [bnd_e, jn_e]
  repeat' split
  all_goals first | exact ⟨_, goesWell_m _ _⟩ | exact ⟨_, (leftBy_q _ _ _ _ _).trans (goesWell_m _ _)⟩ | exact isMove_q _ _ | exact ⟨_, rfl⟩
theorem qm_movedTo (M : Wm) (p1 : Int32) : (f11_movedTo M p1).2 = M := by
  unfold f11_movedTo; simp only [bnd_e, jn_e]
  repeat' split
  all_goals rfl
def g_movedTo (m : Cm) (p1 : Int32) : Nat × Int32 := Q12 3 3 (f12_movedTo m p1)
theorem A_movedTo (h : LW x k M) : LQ x k M (f11_movedTo M p1) (g_movedTo (M 12) p1) := LQ.of (f := fun m => f12_movedTo m p1) h (R_movedTo h.1) ((by rw [qm_movedTo]; exact h.2.1)) (qf_movedTo _ _) (k33 k_movedTo)
theorem qf_movedGood (m : Cm) (p1 : Int32) : ∃ t : Int32, (f12_movedGood m p1).2 = u3 m 0 0 0 t := by
  unfold f12_movedGood; simp only [bnd_e, jn_e]
  repeat' split
  all_goals first | exact ⟨_, goesWell_m _ _⟩ | exact ⟨_, (leftBy_q _ _ _ _ _).trans (goesWell_m _ _)⟩ | exact isMove_q _ _ | exact ⟨_, rfl⟩
theorem qm_movedGood (M : Wm) (p1 : Int32) : (f11_movedGood M p1).2 = M := by
  unfold f11_movedGood; simp only [bnd_e, jn_e]
  repeat' split
  all_goals rfl
def g_movedGood (m : Cm) (p1 : Int32) : Nat × Int32 := Q12 3 3 (f12_movedGood m p1)
theorem A_movedGood (h : LW x k M) : LQ x k M (f11_movedGood M p1) (g_movedGood (M 12) p1) := LQ.of (f := fun m => f12_movedGood m p1) h (R_movedGood h.1) ((by rw [qm_movedGood]; exact h.2.1)) (qf_movedGood _ _) (k33 k_movedGood)
theorem qf_movedAmount (m : Cm) (p1 : Int32) : ∃ t : Int32, (f12_movedAmount m p1).2 = u3 m 0 0 0 t := by
  unfold f12_movedAmount; simp only [bnd_e, jn_e]
  repeat' split
  all_goals first | exact ⟨_, goesWell_m _ _⟩ | exact ⟨_, (leftBy_q _ _ _ _ _).trans (goesWell_m _ _)⟩ | exact isMove_q _ _ | exact ⟨_, rfl⟩
theorem qm_movedAmount (M : Wm) (p1 : Int32) : (f11_movedAmount M p1).2 = M := by
  unfold f11_movedAmount; simp only [bnd_e, jn_e]
  repeat' split
  all_goals rfl
def g_movedAmount (m : Cm) (p1 : Int32) : Nat × Int32 := Q12 3 3 (f12_movedAmount m p1)
theorem A_movedAmount (h : LW x k M) : LQ x k M (f11_movedAmount M p1) (g_movedAmount (M 12) p1) := LQ.of (f := fun m => f12_movedAmount m p1) h (R_movedAmount h.1) ((by rw [qm_movedAmount]; exact h.2.1)) (qf_movedAmount _ _) (k33 k_movedAmount)
theorem qf_movedBy (m : Cm) (p1 : Int32) : ∃ t : Int32, (f12_movedBy m p1).2 = u3 m 0 0 0 t := by
  unfold f12_movedBy; simp only [bnd_e, jn_e]
  repeat' split
  all_goals first | exact ⟨_, goesWell_m _ _⟩ | exact ⟨_, (leftBy_q _ _ _ _ _).trans (goesWell_m _ _)⟩ | exact isMove_q _ _ | exact ⟨_, rfl⟩
theorem qm_movedBy (M : Wm) (p1 : Int32) : (f11_movedBy M p1).2 = M := by
  unfold f11_movedBy; simp only [bnd_e, jn_e]
  repeat' split
  all_goals rfl
def g_movedBy (m : Cm) (p1 : Int32) : Nat × Int32 := Q12 3 3 (f12_movedBy m p1)
theorem A_movedBy (h : LW x k M) : LQ x k M (f11_movedBy M p1) (g_movedBy (M 12) p1) := LQ.of (f := fun m => f12_movedBy m p1) h (R_movedBy h.1) ((by rw [qm_movedBy]; exact h.2.1)) (qf_movedBy _ _) (k33 k_movedBy)
def g_hour (m : Cm) : Nat × Int32 := (0, m 0 0 10)
def g_orders (m : Cm) : Nat × Int32 := (0, m 0 0 11)
def g_moves (m : Cm) : Nat × Int32 := (0, m 0 0 21)
theorem A_hour (h : LW x k M) : LQ x k M (f11_hour M) (g_hour (M 12)) := ⟨rfl, fun _ => h.1.o.2.1, h, rfl⟩
theorem A_orders (h : LW x k M) : LQ x k M (f11_orders M) (g_orders (M 12)) := ⟨rfl, fun _ => h.1.o.1, h, rfl⟩
theorem A_moves (h : LW x k M) : LQ x k M (f11_moves M) (g_moves (M 12)) := ⟨rfl, fun _ => h.1.b.1, h, rfl⟩
end ASK
