/-! the run of an order: what a fault takes back, what a value leaves -/
section RUN
variable {t x8 : Cm} {E : Int32 → Int32 → Prop} {L : Int} {w : Int32} {M0 M : Wm} {m0 m e : Cm} {s i : Int32}
/-- stocks are as their moves tell: with fewer moves, as they were -/
theorem stk_back {b0 b b' : Cm} (hI0 : BkI b0) (hH : HsB b0 b) (h0 : 0 ≤ (b0 0 0 7).toInt ∧ (b0 0 0 7).toInt ≤ 3000) (hI : BkI b') (h7 : b' 0 0 7 = b0 0 0 7) (hF : BF b b') {r g : Int32} (hr : vp_in r 5) (hg : vp_in g 8) : b' 8 r g = b0 8 r g := by
  rw [hI r g hr hg, hI0 r g hr hg, h7]
  refine tm_congr _ ?_ (fun j hj => ?_)
  · rw [hF 2 (by decide) (by decide)]; exact hH.2.1
  · have tj : (nI j : Int32).toInt = j := nI_toInt (by omega)
    obtain ⟨a1, a2, a3, a4, a5⟩ := hH.2.2 (nI j) (by omega) (by omega)
    rw [hF 5 (by decide) (by decide), hF 4 (by decide) (by decide), hF 3 (by decide) (by decide), hF 6 (by decide) (by decide)]
    exact ⟨a3, a2, a1, a4⟩
theorem stkP_back {b0 b' : Cm} (h : StkP L b0) (k : ∀ r g : Int32, vp_in r 5 → vp_in g 8 → b' 8 r g = b0 8 r g) : StkP L b' := by
  intro g hg
  obtain ⟨a, b⟩ := h g hg
  refine ⟨fun r hr => by rw [k r g hr hg]; exact a r hr, ?_⟩
  unfold sm at b ⊢
  rw [k 0 g (vin_lit (by decide)) hg, k 1 g (vin_lit (by decide)) hg, k 2 g (vin_lit (by decide)) hg, k 3 g (vin_lit (by decide)) hg, k 4 g (vin_lit (by decide)) hg]; exact b
/-- a fault: what was done in the expression is undone, in both -/
theorem back_c (h0 : WR t x8 E L w M0 m0) (h : WR t x8 E L w M e) (hA : HsA w M0 m0 M e) : RelBk (f1_undoTo (M 1) (M0 1 0 0 7)) (f12_undo e (m0 0 0 21) (m0 0 0 11)) ∧ BkI (f1_undoTo (M 1) (M0 1 0 0 7)) ∧ StkP L (f1_undoTo (M 1) (M0 1 0 0 7)) ∧ RelOr (f4_undoFrom (M 4) (M0 4 0 0 1)) (f12_undo e (m0 0 0 21) (m0 0 0 11)) w (M 7 0 0 9) ∧ (∀ g : Nat, ¬ g = 0 → ¬ g = 4 → ¬ g = 17 → f12_undo e (m0 0 0 21) (m0 0 0 11) g = e g) ∧ (∀ k : Int32, ¬ k = 21 → f12_undo e (m0 0 0 21) (m0 0 0 11) 0 0 k = e 0 0 k) ∧ ∀ j : Int32, j.toInt < (M0 4 0 0 1).toInt → f12_undo e (m0 0 0 21) (m0 0 0 11) 17 0 j = e 17 0 j := by
  obtain ⟨bk0, bi0, sp0⟩ := h0.2.2.2.1
  obtain ⟨bk, bi, sp⟩ := h.2.2.2.1
  have o0 := h0.2.2.2.2.1
  have o := h.2.2.2.2.1
  have rr := h0.2.2.2.2.2.1
  obtain ⟨hB, hO, hW, hO0⟩ := hA
  rw [← bk0.1, ← o0.1]
  have m1 := bk0.2.1
  have m2 := bk.2.1
  have hb := hB.1
  have ei : (M 1 0 0 7 - 1).toInt = (M 1 0 0 7).toInt - 1 := by rw [i32subn (by rw [t32_1]; omega) (by rw [t32_1]; omega), t32_1]
  obtain ⟨b', m', u1, u2, u3', u4, u5, u6, u7⟩ := undo_c (mark := M0 1 0 0 7) m1.1 (K := fun y11 => f12_undo_lp101 (62 + 0 * (M0 1 0 0 7).toInt.toNat) (M0 4 0 0 1, y11)) 3001 (3002 + 0 * (M0 1 0 0 7).toInt.toNat) (M 1 0 0 7 - 1) (M 1) e bk bi ei hb (by omega) (by omega)
  have eu : f1_undoTo (M 1) (M0 1 0 0 7) = b' := u1
  have ev : f12_undo e (M0 1 0 0 7) (M0 4 0 0 1) = f12_undo_lp101 (62 + 0 * (M0 1 0 0 7).toInt.toNat) (M0 4 0 0 1, m') := u2
  have eo : f4_undoFrom (M 4) (M0 4 0 0 1) = f4_undoFrom_lp2 61 (M0 4 0 0 1, M 4) := rfl
  have sk := stkP_back (b' := b') sp0 (fun r g hr hg => stk_back bi0 hB m1 u4 u5 u7 hr hg)
  have g' : ∀ g : Nat, ¬ g = 0 ∧ ¬ g = 4 → m' g = e g := fun g hg => u6.1 g hg.1 hg.2
  have s' : ∀ k : Int32, ¬ k = 21 → m' 0 0 k = e 0 0 k := u6.2
  have o' : RelOr (M 4) m' w (M 7 0 0 9) := o.fr (s' 11 (by decide)) (s' 10 (by decide)) (g' 13 (by decide)) (g' 14 (by decide)) (g' 15 (by decide)) (g' 16 (by decide)) (g' 17 (by decide)) (g' 18 (by decide)) (g' 19 (by decide)) (g' 20 (by decide)) (g' 21 (by decide))
  have hc := o.2.2.1
  have hwl : w.toInt < (M0 4 0 0 1).toInt := by rw [o0.1]; exact rr.2.1.2
  have U := undoFrom_c 61 (62 + 0 * (M0 1 0 0 7).toInt.toNat) (M0 4 0 0 1) (M 4) m' o' hO0 hO.1 hwl (by omega) (by omega) (fun j a b => (hO.2.2.2 j a b).2.1)
  rw [eu, ev, eo]
  obtain ⟨U1, U2, U3, U4⟩ := U
  have fr : ∀ g : Nat, ¬ g = 17 → f12_undo_lp101 (62 + 0 * (M0 1 0 0 7).toInt.toNat) (M0 4 0 0 1, m') g = m' g := U3
  refine ⟨?_, u4, sk, U1, fun g a b c => (fr g c).trans (g' g ⟨a, b⟩), fun k hk => ?_, fun j hj => ?_⟩
  · unfold RelBk RelMv RelS at u3' ⊢
    rw [fr 0 (by decide), fr 23 (by decide), fr 24 (by decide), fr 25 (by decide), fr 26 (by decide), fr 27 (by decide), fr 4 (by decide)]; exact u3'
  · rw [fr 0 (by decide)]; exact s' k hk
  · rw [(U4 j hj).1, g' 17 (by decide)]
/-- the end of a run, before the class writes it down -/
def FinR (t x8 : Cm) (E : Int32 → Int32 → Prop) (L : Int) (w : Int32) (M : Wm) (m : Cm) : Prop := (M 9 = t ∧ M 8 = x8) ∧ TextR t x8 m E ∧ RelQ (M 5) m ∧ (RelBk (M 1) m ∧ BkI (M 1) ∧ StkP L (M 1)) ∧ RelOr (M 4) m w (M 7 0 0 9) ∧ (0 ≤ (m 0 0 10).toInt ∧ (m 0 0 10).toInt ≤ 1000) ∧ Ok12 m ∧ Ct12 m ∧ (0 ≤ w.toInt ∧ w.toInt < (M 4 0 0 1).toInt) ∧ (M 7 0 0 10 = 0 → m 17 0 w = 1 ∧ m 18 0 w = 0) ∧ (M 7 0 0 10 = 7 → m 17 0 w = 2 ∧ m 18 0 w = 0) ∧ (¬ M 7 0 0 10 = 0 → ¬ M 7 0 0 10 = 7 → m 17 0 w = 3 ∧ m 18 0 w = M 7 0 0 10)
theorem RelOr.st {o m m' : Cm} {u : Int32} (h : RelOr o m w u) (e0 : m' 0 0 11 = m 0 0 11) (e1 : m' 0 0 10 = m 0 0 10) (e13 : m' 13 = m 13) (e14 : m' 14 = m 14) (e15 : m' 15 = m 15) (e16 : m' 16 = m 16) (e17 : ∀ j : Int32, ¬ j = w → m' 17 0 j = m 17 0 j) (e18 : ∀ j : Int32, ¬ j = w → m' 18 0 j = m 18 0 j) (e19 : m' 19 = m 19) (e20 : m' 20 = m 20) (e21 : m' 21 = m 21) : RelOr o m' w u := by
  obtain ⟨h1, h2, h3, h4, h5⟩ := h
  refine ⟨h1.trans e0.symm, h2.trans e1.symm, h3, fun i a b => ?_, fun i a b => ?_⟩
  · obtain ⟨q1, q2, q3, q4, q5, q6, q7, q8, q9⟩ := h4 i a b
    rw [e13, e14, e15, e16, e19, e20, e21]
    refine ⟨q1, q2, q3, q4, q5, q6, q7, fun z => ?_, q9⟩
    unfold wyI at q8 ⊢
    rw [e17 i z, e18 i z]; exact q8 z
  · rw [e19, e20, e21]; exact h5 i a b
end RUN
