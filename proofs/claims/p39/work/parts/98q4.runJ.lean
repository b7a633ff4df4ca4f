/-! BETWEEN TWO CALLS and over a whole run: purses, orders, movers, what was supplied -/
section JRU
variable {X : JX} {M : Wm}
def setf (X : JX) (f : Int32) : JX := (X.1, X.2.1, f, X.2.2.2)
theorem JR.fr {M' : Wm} (h : JR X M) (e1 : M' 1 = M 1) (e4 : M' 4 = M 4) (e5 : M' 5 = M 5) (e7 : M' 7 = M 7) : JR X M' := by
  unfold JR at h ⊢
  rw [e1, e4, e5, e7]; exact h
theorem BY.undo {b : Cm} {n : Int32} (h : BY b n) (mark : Int32) (hc : 0 ≤ (b 0 0 7).toInt ∧ (b 0 0 7).toInt ≤ 3000) : BY (f1_undoTo b mark) n ∧ (f1_undoTo b mark) 2 = b 2 := by
  have key : ∀ (k : Nat) (i : Int32) (b : Cm), BY b n → i.toInt < (b 0 0 7).toInt → -1 ≤ i.toInt → BY (f1_undoTo_lp7 mark k (i, b)) n ∧ (f1_undoTo_lp7 mark k (i, b)) 2 = b 2 := by
    intro k
    induction k with
    | zero => intro i b h _ _; exact ⟨h, rfl⟩
    | succ k ih =>
      intro i b h hi h0
      rw [f1_undoTo_lp7]
      by_cases c1 : i < mark
      · rw [if_pos c1]; exact ⟨h, rfl⟩
      · rw [if_neg c1]
        by_cases c2 : i < 0
        · rw [if_pos c2]; exact ⟨h, rfl⟩
        · rw [if_neg c2]
          simp only [bnd_e]
          simp only [i32lt, t32_0] at c2
          have e1 : (i + -1).toInt = i.toInt - 1 := by
            have hr := i32rng i
            rw [i32addn (by rw [show (-1 : Int32).toInt = -1 by decide]; omega) (by rw [show (-1 : Int32).toInt = -1 by decide]; omega), show (-1 : Int32).toInt = -1 by decide]; omega
          obtain ⟨p1, p2⟩ := ih (i + -1) (u3 (u3 (u3 b 8 (b 4 0 i + 1) (b 5 0 i) (b 8 (b 4 0 i + 1) (b 5 0 i) - b 6 0 i)) 8 (b 3 0 i + 1) (b 5 0 i) ((u3 b 8 (b 4 0 i + 1) (b 5 0 i) (b 8 (b 4 0 i + 1) (b 5 0 i) - b 6 0 i)) 8 (b 3 0 i + 1) (b 5 0 i) + b 6 0 i)) 0 0 7 i) (fun j a d => by
            have d' : j.toInt < i.toInt := d
            exact h j a (by omega)) (by show _ < i.toInt; omega) (by omega)
          exact ⟨p1, p2.trans rfl⟩
  have e1 : (b 0 0 7 - 1).toInt = (b 0 0 7).toInt - 1 := by rw [i32subn (by rw [t32_1]; omega) (by rw [t32_1]; omega), t32_1]
  exact key 3001 _ b h (by rw [e1]; omega) (by rw [e1]; omega)
theorem jr_f7_runExpression (h : JR X M) (hk : Ok7 M) (p2 : Int32) : JR (setf X (M 4 0 0 1)) (f7_runExpression M (jw X) p2) := by
  have h' : JR (setf X (M 4 0 0 1)) M := ⟨h.1, ⟨h.2.1.1.from, h.2.1.2⟩, h.2.2⟩
  have h1 := jr_ev 30 h' p2 0
  have hw := h.2.2.2.1.2.2
  have hw0 := h.2.2.2.1.2.1
  have k1 := ok7_ev 30 hk p2 0
  unfold f7_runExpression
  simp only [bnd_e]
  generalize f7_ev 30 M p2 0 = r at h1 k1 ⊢
  obtain ⟨q1, ⟨q2, q2', q2B, q2N⟩, ⟨q3, q3'⟩, q4, q5, q6, q7⟩ := h1
  by_cases c : r.2 7 0 0 10 = 0
  · rw [if_pos c]
    have a1 := q2.row (k := 7) (x := r.1) (by decide) (by decide) (by decide) (by decide) (by decide) q4.2.1 q4.2.2
    have a2 := a1.row (k := 6) (x := r.2 4 4 (jw X) 6 + 1) (by decide) (by decide) (by decide) (by decide) (by decide) q4.2.1 q4.2.2
    refine ⟨q1, ⟨a2, ?_, q2B, q2N⟩, ⟨q3, q3'⟩, q4, q5, q6, q7⟩
    show u3 (u3 (r.2 4) 4 (jw X) 7 r.1) 4 (jw X) 6 (r.2 4 4 (jw X) 6 + 1) 4 (jw X) 8 = _
    rw [u3_j (by decide), u3_j (by decide)]; exact q2'
  · rw [if_neg c]
    have b1 := q3.undo (M 1 0 0 7) ⟨k1.b.1, k1.b.2.1⟩
    have o1 := q2.undo (by show 0 ≤ (M 4 0 0 1).toInt; omega) hw
    obtain ⟨o1a, o1b, o1c, _⟩ := o1
    have en : f4_undoFrom (r.2 4) (M 4 0 0 1) 0 0 1 = r.2 4 0 0 1 := congrFun (congrFun o1b 0) 1
    refine ⟨q1, ⟨o1a, ?_, q2B, by show jN X ≤ (f4_undoFrom (r.2 4) (M 4 0 0 1) 0 0 1).toInt; rw [en]; exact q2N.1, (congrFun (congrFun o1b 0) 2).trans q2N.2⟩, ⟨?_, ?_⟩, ?_, q5, q6, q7⟩
    · show f4_undoFrom (r.2 4) (M 4 0 0 1) 4 (jw X) 8 = _
      exact (congrFun (o1c _ hw) 8).trans q2'
    · show BY (f1_undoTo (r.2 1) (M 1 0 0 7)) (f4_undoFrom (r.2 4) (M 4 0 0 1) 0 0 1)
      rw [en]; exact b1.1
    · show f1_undoTo (r.2 1) (M 1 0 0 7) 2 0 = _
      rw [b1.2]; exact q3'
    · show r.2 7 0 0 6 = jw X ∧ _ ∧ (jw X).toInt < (f4_undoFrom (r.2 4) (M 4 0 0 1) 0 0 1).toInt
      rw [en]; exact q4
def J0 (x : Int32 → Int32) (BQ BO : Int) (M : Wm) : Prop := QI BQ (M 5) ∧ OI (-1) 60 BO (M 4) ∧ (0 ≤ BO ∧ BO ≤ 2000000000) ∧ BY (M 1) (M 4 0 0 1) ∧ M 1 2 0 = x
theorem J0.fr {x : Int32 → Int32} {BQ BO : Int} {M' : Wm} (h : J0 x BQ BO M) (e1 : M' 1 = M 1) (e4 : M' 4 = M 4) (e5 : M' 5 = M 5) : J0 x BQ BO M' := by
  unfold J0 at h ⊢
  rw [e1, e4, e5]; exact h
theorem jr_end {B' : Int} (h : JR X M) (hB : jO X ≤ B') (hu : (ju X).toInt + 1000 ≤ B') (hB' : B' ≤ 2000000000) : J0 (jx X) (jQ X) B' (endW M (jw X)) ∧ jN X ≤ ((endW M (jw X)) 4 0 0 1).toInt ∧ (endW M (jw X)) 4 0 0 2 = jH X := by
  obtain ⟨q1, ⟨q2, q2', q2B, q2N⟩, ⟨q3, q3'⟩, q4, q5, q6, q7⟩ := h
  have st : f7_stateThen (M 7) = if M 7 0 0 10 = 0 then 1 else if M 7 0 0 10 = 7 then 2 else 3 := rfl
  have hu0 := (q2.2.2.1 _ q4.2.1 q4.2.2).2.1
  rw [q2'] at hu0
  have eu : (M 4 4 (jw X) 8 + M 7 0 0 9).toInt = (ju X).toInt + (M 7 0 0 9).toInt := by rw [q2', i32addn (by omega) (by omega)]
  have sr : (1 ≤ (f7_stateThen (M 7)).toInt ∧ (f7_stateThen (M 7)).toInt ≤ 4) ∧ (f7_stateThen (M 7) = 3 → 1 ≤ (if f7_stateThen (M 7) = 3 then M 7 0 0 10 else 0).toInt ∧ (if f7_stateThen (M 7) = 3 then M 7 0 0 10 else 0).toInt ≤ 6) ∧ (¬ f7_stateThen (M 7) = 3 → (if f7_stateThen (M 7) = 3 then M 7 0 0 10 else 0) = 0) := by
    refine ⟨?_, fun z => ?_, fun z => if_neg z⟩
    · rw [st]; split
      · decide
      · split <;> decide
    · rw [if_pos z]
      rw [st] at z
      by_cases c1 : M 7 0 0 10 = 0
      · rw [if_pos c1] at z; exact absurd z (by decide)
      · rw [if_neg c1] at z
        by_cases c2 : M 7 0 0 10 = 7
        · rw [if_pos c2] at z; exact absurd z (by decide)
        · rw [i32eq, t32_0] at c1; rw [i32eq, show (7 : Int32).toInt = 7 by decide] at c2; omega
  have D := q2.done (B' := B') (st := f7_stateThen (M 7)) (wy := if f7_stateThen (M 7) = 3 then M 7 0 0 10 else 0) (us := M 4 4 (jw X) 8 + M 7 0 0 9) hB q4.2.1 q4.2.2 sr.1.1 sr.1.2 sr.2.1 sr.2.2 (by rw [eu]; omega) (by rw [eu]; omega)
  have en : (endW M (jw X)) 4 0 = M 4 0 := by unfold endW; rw [uW_at, u3_ne _ _ _ (by decide), u3_ne _ _ _ (by decide), u3_ne _ _ _ (by decide)]
  refine ⟨⟨q1, D, ⟨by omega, hB'⟩, ?_, q3'⟩, by rw [congrFun (congrFun en 0) 1]; exact q2N.1, by rw [congrFun (congrFun en 0) 2]; exact q2N.2⟩
  show BY (M 1) ((endW M (jw X)) 4 0 0 1)
  rw [congrFun (congrFun en 0) 1]; exact q3
theorem J0.exec {x : Int32 → Int32} {BQ BO B' : Int} {p1 p2 : Int32} (h : J0 x BQ BO M) (hk : Ok7 M) (h0 : 0 ≤ p1.toInt) (h1 : p1.toInt < (M 4 0 0 1).toInt) (h2 : 0 ≤ p2.toInt ∧ p2.toInt ≤ 1000) (hB : BO ≤ B') (hu : (M 4 4 p1 8).toInt + 1000 ≤ B') (hB' : B' ≤ 2000000000) : J0 x BQ B' (f7_execute M p1 p2) ∧ (M 4 0 0 1).toInt ≤ ((f7_execute M p1 p2) 4 0 0 1).toInt ∧ (f7_execute M p1 p2) 4 0 0 2 = M 4 0 0 2 := by
  obtain ⟨q1, q2, q3, q4, q5⟩ := h
  have hc := (q2.2.2.1 p1 h0 h1).1.2.1
  have key : ∀ (r20 : Int32) (k : Nat) (y : Int32 × Int32 × Wm) (f : Int32), JR (x, p1, f, M 4 4 p1 8, BQ, BO, (M 4 0 0 1).toInt, M 4 0 0 2) y.2.2 → Ok7 y.2.2 → 2147483648 - y.1.toInt ≤ k → J0 x BQ B' (f7_execute_lp105 p1 (endB p1) r20 k y) ∧ (M 4 0 0 1).toInt ≤ ((f7_execute_lp105 p1 (endB p1) r20 k y) 4 0 0 1).toInt ∧ (f7_execute_lp105 p1 (endB p1) r20 k y) 4 0 0 2 = M 4 0 0 2 := by
    intro r20 k
    induction k with
    | zero => intro y f _ _ hy; exfalso; have := i32rng y.1; omega
    | succ k ih =>
      intro y f hy hok hm
      rw [f7_execute_lp105_s]
      simp only [bnd_e]
      have E : J0 x BQ B' (endB p1 y.2.2) ∧ (M 4 0 0 1).toInt ≤ ((endB p1 y.2.2) 4 0 0 1).toInt ∧ (endB p1 y.2.2) 4 0 0 2 = M 4 0 0 2 := by rw [endB_e]; exact jr_end hy hB hu hB'
      by_cases c1 : f9_partsOf (y.2.2 9) r20 ≤ y.1
      · rw [if_pos c1]; exact E
      · rw [if_neg c1]
        by_cases c2 : y.2.2 7 0 0 10 = 0
        · rw [if_pos c2]
          simp only [i32le] at c1
          have hr := i32rng y.1; have hr2 := i32rng (f9_partsOf (y.2.2 9) r20)
          have e1 : (y.1 + 1).toInt = y.1.toInt + 1 := by rw [i32addn (by rw [t32_1]; omega) (by rw [t32_1]; omega), t32_1]
          exact ih _ _ (jr_f7_runExpression hy hok y.2.1) (ok7_f7_runExpression hok _ _) (by show 2147483648 - (y.1 + 1).toInt ≤ _; rw [e1]; omega)
        · rw [if_neg c2]; exact E
  obtain ⟨c7, c2, c1, c4, c5⟩ := st0_c M p1 p2
  have hs : JR (x, p1, M 4 0 0 1, M 4 4 p1 8, BQ, BO, (M 4 0 0 1).toInt, M 4 0 0 2) (st0 M p1 p2) := by
    unfold JR
    rw [c1, c4, c5, c7]
    refine ⟨q1, ⟨q2.at, rfl, q3.1, Int.le_refl _, rfl⟩, ⟨q4, q5⟩, ?_⟩
    exact ⟨⟨rfl, h0, h1⟩, hc, ⟨(by decide : (0 : Int) ≤ (0 : Int32).toInt), h2.1, h2.2⟩, (by decide : (0 : Int) ≤ (0 : Int32).toInt), (by decide : (0 : Int32).toInt ≤ (7 : Int))⟩
  have hos : Ok7 (st0 M p1 p2) := by
    have h1 : Ok7 (uW M 7 (u3 (M 7) 0 0 6 p1)) := ok7_put7 hk (by decide)
    have h2 := ok7_put7c h1 (x := M 4 4 p1 0) hc
    have h3 := ok7_put7 h2 (j := 8) (x := p2) (by decide)
    have h4 := ok7_put7 h3 (j := 9) (x := 0) (by decide)
    have h5 := ok7_put7 h4 (j := 10) (x := 0) (by decide)
    exact ok7_f2_clear h5
  have hor : Ok7 (f8_readChanged (st0 M p1 p2)) := ok7_f8_readChanged hos
  have rc := fun (c : Nat) (a : c ≠ 6) (b : c ≠ 9) (d : c ≠ 8) => rcS_readChanged (st0 M p1 p2) c a b d
  have hr : JR (x, p1, M 4 0 0 1, M 4 4 p1 8, BQ, BO, (M 4 0 0 1).toInt, M 4 0 0 2) (f8_readChanged (st0 M p1 p2)) := hs.fr (rc 1 (by decide) (by decide) (by decide)) (rc 4 (by decide) (by decide) (by decide)) (rc 5 (by decide) (by decide) (by decide)) (rc 7 (by decide) (by decide) (by decide))
  rw [execute_e (N := f8_readChanged (st0 M p1 p2)) rfl]
  split
  · exact key _ _ (_, _, _) _ hr hor (by show 2147483648 - (f8_readChanged (st0 M p1 p2) 4 4 p1 6).toInt ≤ ((4294967296 + 0 * p1.toInt.toNat : Nat) : Int); have := i32rng (f8_readChanged (st0 M p1 p2) 4 4 p1 6); omega)
  · rw [endB_e]
    refine jr_end (X := (x, p1, M 4 0 0 1, M 4 4 p1 8, BQ, BO, (M 4 0 0 1).toInt, M 4 0 0 2)) (M := uW (f8_readChanged (st0 M p1 p2)) 7 (u3 (f8_readChanged (st0 M p1 p2) 7) 0 0 10 1)) ?_ hB hu hB'
    exact jr_f7_stop hr (a := 1) (by decide)
end JRU
