/-! SUPPLY, ORDERS, FAULTS: in both alike -/
section SUP
variable {L : Int} {b m : Cm} {g p : Int32}
def supB (b : Cm) (g p : Int32) : Cm := u3 (u3 b 2 0 g (b 2 0 g + p)) 8 0 g (b 8 0 g + p)
theorem supB_e (b : Cm) (g p : Int32) : (f1_receive b g p).2 = supB b g p := rfl
theorem supB_8 {r k : Int32} : supB b g p 8 r k = if r = 0 then if k = g then b 8 0 g + p else b 8 0 k else b 8 r k := by
  unfold supB
  by_cases c : r = 0
  · subst c
    rw [if_pos rfl]
    by_cases d : k = g
    · rw [d, u3_at, if_pos rfl]
    · rw [u3_j d, if_neg d, u3_ne _ _ _ (by decide)]
  · rw [u3_i c, if_neg c, u3_ne _ _ _ (by decide)]
theorem supB_2 {k : Int32} : supB b g p 2 0 k = if k = g then b 2 0 g + p else b 2 0 k := by
  unfold supB
  rw [u3_ne _ _ _ (by decide)]
  by_cases d : k = g
  · rw [d, u3_at, if_pos rfl]
  · rw [u3_j d, if_neg d]
theorem supB_o {c : Nat} (h2 : ¬ c = 2) (h8 : ¬ c = 8) : supB b g p c = b c := by
  unfold supB; rw [u3_ne _ _ _ h8, u3_ne _ _ _ h2]
theorem tm_sup {r k : Int32} : ∀ n : Nat, tm (supB b g p) r k n = tm b r k n + (if r = 0 then if k = g then p else 0 else 0) := by
  intro n
  induction n with
  | zero =>
    show (if r = 0 then supB b g p 2 0 k else 0) = (if r = 0 then b 2 0 k else 0) + _
    by_cases c : r = 0
    · rw [if_pos c, if_pos c, if_pos c, supB_2]
      by_cases d : k = g
      · rw [if_pos d, if_pos d, d]
      · rw [if_neg d, if_neg d, Int32.add_zero]
    · rw [if_neg c, if_neg c, if_neg c, Int32.add_zero]
  | succ n ih =>
    show tm (supB b g p) r k n + ef (supB b g p) r k (nI n) = tm b r k n + ef b r k (nI n) + _
    have e : ef (supB b g p) r k (nI n) = ef b r k (nI n) := by
      unfold ef
      rw [supB_o (c := 5) (by decide) (by decide), supB_o (c := 4) (by decide) (by decide), supB_o (c := 3) (by decide) (by decide), supB_o (c := 6) (by decide) (by decide)]
    rw [ih, e, Int32.add_assoc, Int32.add_comm (if r = 0 then if k = g then p else 0 else 0), ← Int32.add_assoc]
theorem BkI.sup (h : BkI b) : BkI (supB b g p) := by
  intro r k hr hk
  rw [supB_o (c := 0) (by decide) (by decide), tm_sup, supB_8, ← h r k hr hk]
  by_cases c : r = 0
  · rw [if_pos c, if_pos c, c]
    by_cases d : k = g
    · rw [if_pos d, if_pos d, d]
    · rw [if_neg d, if_neg d, Int32.add_zero]
  · rw [if_neg c, if_neg c, Int32.add_zero]
theorem StkP.sup (h : StkP L b) (hL : L ≤ 1000000) (hg : vp_in g 8) (h0 : 0 ≤ p.toInt) (h1 : p.toInt ≤ 1000) : StkP (L + 1000) (supB b g p) := by
  intro k hk
  obtain ⟨a1, a2⟩ := h k hk
  have z0 := h.le (r := 0) (vin_lit (by decide)) hk
  have e0 : (supB b g p 8 0 k).toInt = (b 8 0 k).toInt + (if k = g then p.toInt else 0) := by
    rw [supB_8, if_pos rfl]
    by_cases d : k = g
    · rw [if_pos d, if_pos d, ← d, i32addn (by omega) (by omega)]
    · rw [if_neg d, if_neg d]; omega
  have er : ∀ r : Int32, ¬ r = 0 → supB b g p 8 r k = b 8 r k := fun r hr => by rw [supB_8, if_neg hr]
  refine ⟨fun r hr => ?_, ?_⟩
  · by_cases c : r = 0
    · rw [c, e0]; split <;> omega
    · rw [er r c]; exact a1 r hr
  · unfold sm at a2 ⊢
    rw [e0, er 1 (by decide), er 2 (by decide), er 3 (by decide), er 4 (by decide)]
    split <;> omega
theorem RelBk.sup (h : RelBk b m) (hg : vp_in g 8) : RelBk (supB b g p) (u3 m 4 0 (32 + g) (m 4 0 (32 + g) + p)) := by
  obtain ⟨h1, h2, h3, h4⟩ := h
  have e := h4 4 g (vin_lit (by decide)) hg
  have w4 : ow 4 + 1 = 0 := by decide
  have w32 : (8 * 4 : Int32) = 32 := by decide
  have S := RelS.put h4 (w := 4) (x := b 8 0 g + p) (vin_lit (by decide)) hg
  rw [w4, w32] at e S
  have T : RelS (supB b g p) (u3 m 4 0 (32 + g) (m 4 0 (32 + g) + p)) := by
    rw [← e]
    intro w k hw hk
    have s := S w k hw hk
    rw [← s]
    unfold supB
    by_cases c : ow w + 1 = 0
    · rw [c]
      by_cases d : k = g
      · rw [d, u3_at, u3_at]
      · rw [u3_j d, u3_j d, u3_ne _ _ _ (by decide)]
    · rw [u3_i c, u3_i c, u3_ne _ _ _ (by decide)]
  refine ⟨?_, ?_, ?_, T⟩
  · rw [supB_o (c := 0) (by decide) (by decide), u3_ne _ _ _ (by decide)]; exact h1
  · rw [supB_o (c := 0) (by decide) (by decide)]; exact h2
  · unfold RelMv
    rw [supB_o (c := 0) (by decide) (by decide), supB_o (c := 3) (by decide) (by decide), supB_o (c := 4) (by decide) (by decide), supB_o (c := 5) (by decide) (by decide), supB_o (c := 6) (by decide) (by decide), supB_o (c := 7) (by decide) (by decide), u3_ne _ _ _ (show ¬ 23 = 4 by decide), u3_ne _ _ _ (show ¬ 24 = 4 by decide), u3_ne _ _ _ (show ¬ 25 = 4 by decide), u3_ne _ _ _ (show ¬ 26 = 4 by decide), u3_ne _ _ _ (show ¬ 27 = 4 by decide)]
    exact h3
end SUP
section REL
variable {L : Int} {M M1 : Wm} {m m1 : Cm} {p1 p2 p3 p4 : Int32}
theorem RW.bk0 (h : RW L M) : RelBk (M 1) (u3 (M 12) 0 0 0 0) := by
  have q2 := h.b
  unfold RelBk RelMv RelS at q2 ⊢
  rw [u3_s (show ¬ (21 : Int32) = 0 by decide), u3_ne _ _ _ (show ¬ 23 = 0 by decide), u3_ne _ _ _ (show ¬ 24 = 0 by decide), u3_ne _ _ _ (show ¬ 25 = 0 by decide), u3_ne _ _ _ (show ¬ 26 = 0 by decide), u3_ne _ _ _ (show ¬ 27 = 0 by decide), u3_ne _ _ _ (show ¬ 4 = 0 by decide)]; exact q2
theorem R_supply (h : RW L M) (hL : L ≤ 1000000) : OpR L M (kfI 1 1) (f11_supply M p1 p2) (fun m => f12_supply m p1 p2) := by
  have ei : f11_isIn p2 1 1000 = f12_in p2 1 1000 := rfl
  cases c : f12_isGood p1 with
  | false => exact OpR.no (k := 1) (x := 0) h (by decide) (by decide) (by simp [f11_supply, bnd, dG_e, c]) (by simp [f12_supply, bnd, jn, c, gw_t]; rfl)
  | true =>
    cases d : f12_in p2 1 1000 with
    | false => exact OpR.no (k := 1) (x := 0) h (by decide) (by decide) (by simp [f11_supply, bnd, dG_e, c, ei, d, f11_demand]) (by simp [f12_supply, bnd, jn, c, d, gw_t]; rfl)
    | true =>
      have hg := isG_in c
      have hb := h.b
      have e4 : M 1 8 0 p1 = M 12 4 0 (32 + p1) := hb.2.2.2 4 p1 (vin_lit (by decide)) hg
      have r2 := isIn11_t (show f11_isIn p2 1 1000 = true from d)
      rw [show (1 : Int32).toInt = 1 from rfl, show (1000 : Int32).toInt = 1000 from rfl] at r2
      have hk0 := h.k
      have e40 : u3 (M 12) 0 0 0 0 4 0 (32 + p1) = M 12 4 0 (32 + p1) := by rw [u3_ne _ _ _ (by decide)]
      have B := (h.bk0).sup (p := p2) hg
      rw [e40] at B
      obtain ⟨h1, ⟨q1, ⟨q2, q3, q4⟩, q5, q6, q7, q8⟩, h3, h4⟩ := h
      have X1 : RTx (M 9) (M 8) (u3 (u3 (M 12) 0 0 0 0) 4 0 (32 + p1) (M 12 4 0 (32 + p1) + p2)) := h1.fr hk0 ⟨by rw [u3_ne _ _ _ (by decide), u3_ne _ _ _ (by decide)], by rw [u3_ne _ _ _ (by decide), u3_ne _ _ _ (by decide)]⟩
      refine OpR.ok (v := M 12 4 0 (32 + p1) + p2) (M1 := uW M 1 (supB (M 1) p1 p2)) (m1 := u3 (u3 (M 12) 0 0 0 0) 4 0 (32 + p1) (M 12 4 0 (32 + p1) + p2)) ?_ (uW_ne _ _ (by decide)) ?_ ?_ ?_ ⟨?_, ⟨?_, ?_, ?_⟩, ?_, ?_, ?_, ?_⟩ ?_ ?_
      · simp [f11_supply, bnd, dG_e, c, ei, d, f11_demand, f1_receive, supB, e4, u3_at]
      · simp [f12_supply, bnd, jn, c, d, gw_f, e40, u3_at]
      · rw [u3_ne _ _ _ (by decide), u3_at]
      · rw [uW_ne _ _ (show 9 ≠ 1 by decide), uW_ne _ _ (show 8 ≠ 1 by decide)]; exact X1
      · rw [uW_ne _ _ (show 5 ≠ 1 by decide)]
        exact q1.fr (by rw [u3_ne _ _ _ (by decide), u3_ne _ _ _ (by decide)]) (by rw [u3_ne _ _ _ (by decide), u3_ne _ _ _ (by decide)]) (by rw [u3_ne _ _ _ (by decide), u3_ne _ _ _ (by decide)]) (by rw [u3_ne _ _ _ (by decide), u3_ne _ _ _ (by decide)]) (by rw [u3_ne _ _ _ (by decide), u3_ne _ _ _ (by decide)]) (by rw [u3_ne _ _ _ (by decide), u3_s (by decide)])
      · rw [uW_at]; exact B
      · rw [uW_at]; exact q3.sup
      · rw [uW_at]; exact q4.sup hL hg (by omega) (by omega)
      · rw [uW_ne _ _ (show 4 ≠ 1 by decide)]
        have G : ∀ g : Nat, ¬ g = 0 → ¬ g = 4 → u3 (u3 (M 12) 0 0 0 0) 4 0 (32 + p1) (M 12 4 0 (32 + p1) + p2) g = M 12 g := fun g a b => by rw [u3_ne _ _ _ b, u3_ne _ _ _ a]
        have S : ∀ k : Int32, ¬ k = 0 → u3 (u3 (M 12) 0 0 0 0) 4 0 (32 + p1) (M 12 4 0 (32 + p1) + p2) 0 0 k = M 12 0 0 k := fun k a => by rw [u3_ne _ _ _ (show ¬ 0 = 4 by decide), u3_s a]
        exact q5.fr (S 11 (by decide)) (S 10 (by decide)) (G 13 (by decide) (by decide)) (G 14 (by decide) (by decide)) (G 15 (by decide) (by decide)) (G 16 (by decide) (by decide)) (G 17 (by decide) (by decide)) (G 18 (by decide) (by decide)) (G 19 (by decide) (by decide)) (G 20 (by decide) (by decide)) (G 21 (by decide) (by decide))
      · rw [u3_ne _ _ _ (show ¬ 0 = 4 by decide), u3_s (by decide)]; exact q6
      · exact ok12_putA (ok12_put0 hk0 (by decide)) (by decide)
      · exact q8.fr (by rw [u3_ne _ _ _ (by decide), u3_ne _ _ _ (by decide)]) (by rw [u3_ne _ _ _ (by decide), u3_ne _ _ _ (by decide)]) (by rw [u3_ne _ _ _ (by decide), u3_ne _ _ _ (by decide)])
      · exact h3.fr (by rw [u3_ne _ _ _ (show ¬ 0 = 4 by decide), u3_s (by decide)]) (by rw [u3_ne _ _ _ (by decide), u3_ne _ _ _ (by decide)]) (by rw [u3_ne _ _ _ (by decide), u3_ne _ _ _ (by decide)]) (by rw [u3_ne _ _ _ (by decide), u3_ne _ _ _ (by decide)])
      · exact h4
end REL
