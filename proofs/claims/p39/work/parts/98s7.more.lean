/-! FAULTS AND EXPRESSIONS; SUPPLIES -/
section MOR
variable {s : ST} {M : Wm} {m : Cm} {p g n : Int32}
theorem fo_rng (hL : 0 ≤ (m 3 0 p).toInt ∧ (m 3 0 p).toInt ≤ 120) : f12_faultOf m p = -1 ∨ (0 ≤ (f12_faultOf m p).toInt ∧ (f12_faultOf m p).toInt ≤ (m 3 0 p).toInt) := by
  have key : ∀ (K : Int32 × Int32 → Int32), (∀ y, K y = -1 ∨ (0 ≤ (K y).toInt ∧ (K y).toInt ≤ (m 3 0 p).toInt)) → ∀ (k : Nat) (x : Int32 × Int32 × Int32), 0 ≤ x.1.toInt → (f12_faultOf_lp7 m p K k x = -1 ∨ (0 ≤ (f12_faultOf_lp7 m p K k x).toInt ∧ (f12_faultOf_lp7 m p K k x).toInt ≤ (m 3 0 p).toInt)) := by
    intro K hK k
    induction k with
    | zero => intro x _; right; show 0 ≤ (0 : Int32).toInt ∧ (0 : Int32).toInt ≤ _; rw [t32_0]; omega
    | succ k ih =>
      intro x hx
      rw [f12_faultOf_lp7_s]
      by_cases c : m 3 0 p ≤ x.1
      · rw [if_pos c]; exact hK _
      · rw [if_neg c]
        simp only [i32le] at c
        have e1 : (x.1 + 1).toInt = x.1.toInt + 1 := inc_t hx (by omega)
        have here : x.1 = -1 ∨ (0 ≤ x.1.toInt ∧ x.1.toInt ≤ (m 3 0 p).toInt) := Or.inr ⟨hx, by omega⟩
        have nx : ∀ a b : Int32, f12_faultOf_lp7 m p K k (x.1 + 1, a, b) = -1 ∨ (0 ≤ (f12_faultOf_lp7 m p K k (x.1 + 1, a, b)).toInt ∧ (f12_faultOf_lp7 m p K k (x.1 + 1, a, b)).toInt ≤ (m 3 0 p).toInt) := fun a b => ih (x.1 + 1, a, b) (by show 0 ≤ (x.1 + 1).toInt; omega)
        simp only [jn_e, bnd_e]
        repeat' split
        all_goals first | exact here | exact nx _ _
  unfold f12_faultOf
  simp only [jn_e]
  refine key _ (fun y => ?_) 122 _ (by decide)
  repeat' split
  all_goals first | exact Or.inl rfl | exact Or.inr ⟨hL.1, Int.le_refl _⟩
theorem ex_ok (h : LST s M) (hp : vp_in p 8) : (g_fault s.2.2 p).1 = 0 ∧ (g_length s.2.2 p).1 = 0 ∧ (W_expressions s p = -1 ↔ 0 ≤ (g_fault s.2.2 p).2.toInt) ∧ (g_fault s.2.2 p).2.toInt ≤ (g_length s.2.2 p).2.toInt := by
  have hR := h.2.1
  obtain ⟨⟨r1, r2⟩, r3, r4⟩ := hR.read (N := f8_readChanged M) rfl
  have e := (r3 p hp).1.1
  have hT := (r3 p hp).2
  have ln := hR.ln p hp
  have el : M 12 3 0 p = M 8 2 0 p := by have := len_e h hp; rw [← this, h.1]
  have fr := fo_rng (m := M 12) (p := p) (by rw [el]; exact ln)
  rw [el] at fr
  have O := A_expressions (p1 := p) h.2
  rw [h.1] at O
  rw [q_fault h hp, q_length h hp]
  refine ⟨rfl, rfl, ?_, ?_⟩
  · show W_expressions s p = -1 ↔ 0 ≤ (f8_readChanged M 8 3 0 p).toInt
    rw [e]
    unfold W_expressions
    by_cases d : f12_faultOf (M 12) p = -1
    · have T := hT d
      have hX := faultOf_T hR.k hp d
      obtain ⟨t1, t2, _⟩ := T.root hR.k hp hX
      have ev : 0 ≤ (f9_partsOf (f8_readChanged M 9) (Pl p 120)).toInt := by rw [t1, t2]; omega
      have hz : (f11_expressions M p).1 = (0, f9_partsOf (f8_readChanged M 9) (Pl p 120)) := by
        unfold f11_expressions
        simp only [bnd_e, jn_e, dS0 hp, if_true]
        rw [show f8_faultOf (f8_readChanged M 8) p = f12_faultOf (M 12) p from e, if_pos d]
        rfl
      rw [qv O hz]
      dsimp only
      rw [if_pos rfl, d]
      exact ⟨fun z => absurd z (by intro z; rw [z] at ev; exact absurd ev (by decide)), fun z => absurd z (by decide)⟩
    · have hz : (f11_expressions M p).1.1 = 2 := by
        unfold f11_expressions
        simp only [bnd_e, jn_e, dS0 hp, if_true]
        rw [show f8_faultOf (f8_readChanged M 8) p = f12_faultOf (M 12) p from e, if_neg d]
        rfl
      have k2 : (g_expressions s.2.2 p).1 = 2 := by rw [← O.1, hz]
      rw [k2, if_neg (by decide), if_neg (by decide)]
      exact ⟨fun _ => (fr.resolve_left d).1, fun _ => rfl⟩
  · show (f8_readChanged M 8 3 0 p).toInt ≤ (M 8 2 0 p).toInt
    rw [e]
    rcases fr with z | z
    · rw [z, show (-1 : Int32).toInt = -1 by decide]; omega
    · exact z.2
/-- a supply that is one -/
theorem su_ok (h : LST s M) (hg : vp_in g 8) (h1 : 1 ≤ n.toInt) (h2 : n.toInt ≤ 1000) (hx : XB (upx s.1 g n)) : (F_supply s g n).1.1 = 0 ∧ ¬ (F_supply s g n).1.2 = -99999 ∧ (F_supply s g n).2.1 = upx s.1 g n ∧ (F_supply s g n).2.2.1 = s.2.1 ∧ ∃ M' : Wm, LST (F_supply s g n).2 M' ∧ g_stock (F_supply s g n).2.2.2 (-1) g = (0, (F_supply s g n).1.2) := by
  have hz : f11_supply M g n = ((0, M 1 8 0 g + n), uW M 1 (f1_receive (M 1) g n).2) := by
    unfold f11_supply
    simp only [bnd_e, dG0 hg, if_true]
    rw [isIn_y (by rw [t32_1]; exact h1) (by rw [t32_1000]; exact h2), if_pos (show f11_demand true = 0 by decide)]
    show ((0, u3 (u3 (M 1) 2 0 g _) 8 0 g (M 1 8 0 g + n) 8 0 g), _) = _
    rw [u3_at]
  have O := O_supply (p1 := g) (p2 := n) h.2 (fun _ => hx)
  rw [h.1] at O
  have k0 : (F_supply s g n).1.1 = 0 := by show (Z12 1 1 s.2.2 (f12_supply s.2.2 g n)).1.1 = 0; rw [← O.1, hz]
  have ex : (F_supply s g n).2.1 = upx s.1 g n := if_pos k0
  rw [if_pos (show (f11_supply M g n).1.1 = 0 by rw [hz])] at O
  have ok : LST (F_supply s g n).2 (uW (f11_supply M g n).2 12 (Z12 1 1 s.2.2 (f12_supply s.2.2 g n)).2) := by
    refine ⟨uW_at _ _ _, ?_⟩
    rw [ex]; exact O.2.2
  have ev : (F_supply s g n).1.2 = M 1 8 0 g + n := by
    show (Z12 1 1 s.2.2 (f12_supply s.2.2 g n)).1.2 = _
    rw [← O.2.1 (by rw [hz]), hz]
  refine ⟨k0, ?_, ex, rfl, _, ok, ?_⟩
  · have hS := (h.2.1.2.1.2.1.2.2.le (r := 0) (vin_lit (by decide)) hg)
    rw [ev]
    refine n99 ?_
    rw [i32addn (by omega) (by omega)]; omega
  · rw [q_stock ok (by decide) (by decide) hg, ev, uW_ne _ _ (by decide), hz]
    show (0, uW M 1 (f1_receive (M 1) g n).2 1 8 (-1 + 1) g) = _
    rw [uW_at, show (-1 : Int32) + 1 = 0 by decide]
    show (0, u3 (u3 (M 1) 2 0 g _) 8 0 g (M 1 8 0 g + n) 8 0 g) = _
    rw [u3_at]
/-- two that are none -/
theorem su_no (hb : f12_isGood g = false ∨ f12_in n 1 1000 = false) : W_supply s g n = (-99999, s) ∧ ¬ (Z12 1 1 s.2.2 (f12_supply s.2.2 g n)).1.1 = 0 := by
  have e : f12_supply s.2.2 g n = (0, u3 s.2.2 0 0 0 1) := by
    unfold f12_supply
    simp only [bnd_e, jn_e]
    by_cases c : f12_isGood g = true
    · rw [if_pos c]
      rcases hb with z | z
      · rw [z] at c; cases c
      · rw [z]; rfl
    · rw [if_neg c]; rfl
  have z1 : Z12 1 1 s.2.2 (f12_supply s.2.2 g n) = ((1, 0), s.2.2) := by
    rw [e]; unfold Z12
    dsimp only
    rw [if_neg (show ¬ u3 s.2.2 0 0 0 1 0 0 0 = 0 by rw [u3_at]; decide), u3_at]; rfl
  have nz : ¬ (Z12 1 1 s.2.2 (f12_supply s.2.2 g n)).1.1 = 0 := by rw [z1]; show ¬ (1 : Nat) = 0; decide
  refine ⟨?_, nz⟩
  have eF : F_supply s g n = ((1, 0), s) := by
    unfold F_supply
    rw [if_neg nz, z1]
  unfold W_supply
  rw [eF]; rfl
theorem su_w (h0 : (F_supply s g n).1.1 = 0) : W_supply s g n = ((F_supply s g n).1.2, (F_supply s g n).2) := by unfold W_supply; rw [if_pos h0]
end MOR
