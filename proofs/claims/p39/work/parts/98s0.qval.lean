/-! WHAT EACH QUESTION IS ANSWERED, by the class' data -/
section QV
variable {s : ST} {M : Wm} {c a b i g j p : Int32}
def OKS (s : ST) : Prop := ∃ M : Wm, LST s M
theorem qv {x : Int32 → Int32} {k : Int} {z : (Nat × Int32) × Wm} {y : Nat × Int32} {v : Int32} (O : LQ x k M z y) (hz : z.1 = (0, v)) : y = (0, v) := by
  obtain ⟨e1, e2, _⟩ := O
  rw [hz] at e1 e2
  exact Prod.ext e1.symm (e2 rfl).symm
theorem isIn_y {lo hi : Int32} (h0 : lo.toInt ≤ a.toInt) (h1 : a.toInt ≤ hi.toInt) : f11_isIn a lo hi = true := by
  unfold f11_isIn
  rw [if_neg (by simp only [i32lt]; omega), if_neg (by simp only [i32lt]; omega)]
theorem dC0 (h : vp_in c 4) : f11_demandCompany c = 0 := by
  rw [vp_in_iff] at h
  rw [dC_e, if_pos (show f12_isCompany c = true from isIn_y (by rw [t32_0]; omega) (by rw [t32_3]; omega))]
theorem dG0 (h : vp_in c 8) : f11_demandGood c = 0 := by
  rw [vp_in_iff] at h
  rw [dG_e, if_pos (show f12_isGood c = true from isIn_y (by rw [t32_0]; omega) (by rw [t32_7]; omega))]
theorem dS0 (h : vp_in c 8) : f11_demandScript c = 0 := by
  rw [vp_in_iff] at h
  rw [dS_e, if_pos (show f12_isScript c = true from isIn_y (by rw [t32_0]; omega) (by rw [t32_7]; omega))]
theorem dO0 (h0 : -1 ≤ c.toInt) (h1 : c.toInt < 4) : f11_demandOwner c = 0 := by
  rw [demandOwner_e]
  by_cases e : c = -1
  · rw [if_pos e]; decide
  · rw [if_neg e, isIn_y (by rw [t32_0]; rw [i32eq, show (-1 : Int32).toInt = -1 by decide] at e; omega) (by rw [t32_3]; omega)]; decide
theorem dI0 {n : Int32} (h0 : 0 ≤ i.toInt) (h1 : i.toInt < n.toInt) : f11_demandIndex i n = 0 := by
  unfold f11_demandIndex
  rw [if_neg (by simp only [i32lt, t32_0]; omega), if_pos (by simp only [i32lt]; omega)]
theorem dE0 (h0 : 0 ≤ i.toInt) (h1 : i.toInt < (M 4 0 0 1).toInt) : f11_existing M i = 0 := by
  unfold f11_existing
  simp only [bnd_e]
  rw [dI0 h0 h1]; rfl
theorem q_fuel (h : LST s M) (hc : vp_in c 4) : g_fuel s.2.2 c = (0, M 5 1 0 c) := by
  have O := A_fuel (p1 := c) h.2
  rw [h.1] at O
  exact qv O (by unfold f11_fuel; simp only [bnd_e, jn_e]; rw [dC0 hc]; rfl)
theorem q_rations (h : LST s M) (hc : vp_in c 4) : g_rations s.2.2 c = (0, M 5 2 0 c) := by
  have O := A_rations (p1 := c) h.2
  rw [h.1] at O
  exact qv O (by unfold f11_rations; simp only [bnd_e, jn_e]; rw [dC0 hc]; rfl)
theorem q_debt (h : LST s M) (ha : vp_in a 4) (hb : vp_in b 4) : g_debt s.2.2 a b = (0, M 5 7 a b) := by
  have O := A_debt (p1 := a) (p2 := b) h.2
  rw [h.1] at O
  exact qv O (by unfold f11_debt; simp only [bnd_e, jn_e]; rw [dC0 ha, dC0 hb, if_pos rfl]; rfl)
theorem q_length (h : LST s M) (hp : vp_in p 8) : g_length s.2.2 p = (0, M 8 2 0 p) := by
  have O := A_length (p1 := p) h.2
  rw [h.1] at O
  exact qv O (by unfold f11_length; simp only [bnd_e, jn_e]; rw [dS0 hp]; rfl)
theorem q_fault (h : LST s M) (hp : vp_in p 8) : g_fault s.2.2 p = (0, f8_readChanged M 8 3 0 p) := by
  have O := A_fault (p1 := p) h.2
  rw [h.1] at O
  exact qv O (by unfold f11_fault; simp only [bnd_e, jn_e]; rw [dS0 hp]; rfl)
theorem q_stock (h : LST s M) (h0 : -1 ≤ c.toInt) (h1 : c.toInt < 4) (hg : vp_in g 8) : g_stock s.2.2 c g = (0, M 1 8 (c + 1) g) := by
  have O := A_stock (p1 := c) (p2 := g) h.2
  rw [h.1] at O
  exact qv O (by unfold f11_stock; simp only [bnd_e, jn_e]; rw [dO0 h0 h1, dG0 hg, if_pos rfl]; rfl)
theorem q_stockByMoves (h : LST s M) (h0 : -1 ≤ c.toInt) (h1 : c.toInt < 4) (hg : vp_in g 8) : g_stockByMoves s.2.2 c g = (0, f1_stockTold (M 1) c g) := by
  have O := A_stockByMoves (p1 := c) (p2 := g) h.2
  rw [h.1] at O
  exact qv O (by unfold f11_stockByMoves; simp only [bnd_e, jn_e]; rw [dO0 h0 h1, dG0 hg, if_pos rfl]; rfl)
theorem q_leftBy (h : LST s M) (h0 : 0 ≤ i.toInt) (h1 : i.toInt < (M 4 0 0 1).toInt) (hg : vp_in g 8) : g_leftBy s.2.2 i g = (0, f1_leftStoreBy (M 1) i g) := by
  have O := A_leftBy (p1 := i) (p2 := g) h.2
  rw [h.1] at O
  exact qv O (by unfold f11_leftBy; simp only [bnd_e, jn_e]; rw [dI0 h0 h1, dG0 hg, if_pos rfl]; rfl)
theorem q_state (h : LST s M) (h0 : 0 ≤ i.toInt) (h1 : i.toInt < (M 4 0 0 1).toInt) : g_state s.2.2 i = (0, M 4 4 i 4) := by
  have O := A_state (p1 := i) h.2
  rw [h.1] at O
  exact qv O (by unfold f11_state; simp only [bnd_e, jn_e]; rw [dE0 h0 h1]; rfl)
theorem q_why (h : LST s M) (h0 : 0 ≤ i.toInt) (h1 : i.toInt < (M 4 0 0 1).toInt) : g_why s.2.2 i = (0, M 4 4 i 5) := by
  have O := A_why (p1 := i) h.2
  rw [h.1] at O
  exact qv O (by unfold f11_why; simp only [bnd_e, jn_e]; rw [dE0 h0 h1]; rfl)
theorem q_done (h : LST s M) (h0 : 0 ≤ i.toInt) (h1 : i.toInt < (M 4 0 0 1).toInt) : g_done s.2.2 i = (0, M 4 4 i 6) := by
  have O := A_done (p1 := i) h.2
  rw [h.1] at O
  exact qv O (by unfold f11_done; simp only [bnd_e, jn_e]; rw [dE0 h0 h1]; rfl)
theorem q_value (h : LST s M) (h0 : 0 ≤ i.toInt) (h1 : i.toInt < (M 4 0 0 1).toInt) : g_value s.2.2 i = (0, M 4 4 i 7) := by
  have O := A_value (p1 := i) h.2
  rw [h.1] at O
  exact qv O (by unfold f11_value; simp only [bnd_e, jn_e]; rw [dE0 h0 h1]; rfl)
theorem q_used (h : LST s M) (h0 : 0 ≤ i.toInt) (h1 : i.toInt < (M 4 0 0 1).toInt) : g_used s.2.2 i = (0, M 4 4 i 8) := by
  have O := A_used (p1 := i) h.2
  rw [h.1] at O
  exact qv O (by unfold f11_used; simp only [bnd_e, jn_e]; rw [dE0 h0 h1]; rfl)
theorem q_hourOf (h : LST s M) (h0 : 0 ≤ i.toInt) (h1 : i.toInt < (M 4 0 0 1).toInt) : g_hourOf s.2.2 i = (0, M 4 4 i 2) := by
  have O := A_hourOf (p1 := i) h.2
  rw [h.1] at O
  exact qv O (by unfold f11_hourOf; simp only [bnd_e, jn_e]; rw [dE0 h0 h1]; rfl)
theorem q_movedFrom (h : LST s M) (h0 : 0 ≤ j.toInt) (h1 : j.toInt < (M 1 0 0 7).toInt) : g_movedFrom s.2.2 j = (0, M 1 3 0 j) := by
  have O := A_movedFrom (p1 := j) h.2
  rw [h.1] at O
  exact qv O (by unfold f11_movedFrom; simp only [bnd_e, jn_e]; rw [dI0 h0 h1]; rfl)
theorem q_movedTo (h : LST s M) (h0 : 0 ≤ j.toInt) (h1 : j.toInt < (M 1 0 0 7).toInt) : g_movedTo s.2.2 j = (0, M 1 4 0 j) := by
  have O := A_movedTo (p1 := j) h.2
  rw [h.1] at O
  exact qv O (by unfold f11_movedTo; simp only [bnd_e, jn_e]; rw [dI0 h0 h1]; rfl)
theorem q_movedGood (h : LST s M) (h0 : 0 ≤ j.toInt) (h1 : j.toInt < (M 1 0 0 7).toInt) : g_movedGood s.2.2 j = (0, M 1 5 0 j) := by
  have O := A_movedGood (p1 := j) h.2
  rw [h.1] at O
  exact qv O (by unfold f11_movedGood; simp only [bnd_e, jn_e]; rw [dI0 h0 h1]; rfl)
theorem q_movedAmount (h : LST s M) (h0 : 0 ≤ j.toInt) (h1 : j.toInt < (M 1 0 0 7).toInt) : g_movedAmount s.2.2 j = (0, M 1 6 0 j) := by
  have O := A_movedAmount (p1 := j) h.2
  rw [h.1] at O
  exact qv O (by unfold f11_movedAmount; simp only [bnd_e, jn_e]; rw [dI0 h0 h1]; rfl)
theorem q_movedBy (h : LST s M) (h0 : 0 ≤ j.toInt) (h1 : j.toInt < (M 1 0 0 7).toInt) : g_movedBy s.2.2 j = (0, M 1 7 0 j) := by
  have O := A_movedBy (p1 := j) h.2
  rw [h.1] at O
  exact qv O (by unfold f11_movedBy; simp only [bnd_e, jn_e]; rw [dI0 h0 h1]; rfl)
theorem q_n (h : LST s M) : s.2.2 0 0 11 = M 4 0 0 1 ∧ s.2.2 0 0 21 = M 1 0 0 7 ∧ s.2.2 0 0 10 = M 4 0 0 2 := by
  rw [← h.1]; exact ⟨h.2.1.o.1.symm, h.2.1.b.1.symm, h.2.1.o.2.1.symm⟩
end QV
