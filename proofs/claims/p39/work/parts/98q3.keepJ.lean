/-! WHAT A RUN KEEPS: purses, the rows of orders, which orders made the moves -/
def BY (b : Cm) (n : Int32) : Prop := ∀ j : Int32, 0 ≤ j.toInt → j.toInt < (b 0 0 7).toInt → 0 ≤ (b 7 0 j).toInt ∧ (b 7 0 j).toInt < n.toInt
theorem BY.mono {b : Cm} {n n' : Int32} (h : BY b n) (hn : n.toInt ≤ n'.toInt) : BY b n' := fun j a c => ⟨(h j a c).1, by have := (h j a c).2; omega⟩
/-- what was supplied, the order, the first that may be undone, what it has used, the two bounds -/
abbrev JX : Type := (Int32 → Int32) × Int32 × Int32 × Int32 × Int × Int × Int × Int32
def jx (X : JX) : Int32 → Int32 := X.1
def jw (X : JX) : Int32 := X.2.1
def jf (X : JX) : Int32 := X.2.2.1
def ju (X : JX) : Int32 := X.2.2.2.1
def jQ (X : JX) : Int := X.2.2.2.2.1
def jO (X : JX) : Int := X.2.2.2.2.2.1
def jN (X : JX) : Int := X.2.2.2.2.2.2.1
def jH (X : JX) : Int32 := X.2.2.2.2.2.2.2
def R7 (w n : Int32) (r : Cm) : Prop := (r 0 0 6 = w ∧ 0 ≤ w.toInt ∧ w.toInt < n.toInt) ∧ vp_in (r 0 0 7) 4 ∧ (0 ≤ (r 0 0 9).toInt ∧ (r 0 0 9).toInt ≤ (r 0 0 8).toInt ∧ (r 0 0 8).toInt ≤ 1000) ∧ 0 ≤ (r 0 0 10).toInt ∧ (r 0 0 10).toInt ≤ 7
def JR (X : JX) (M : Wm) : Prop := QI (jQ X) (M 5) ∧ (OI (jw X) (jf X) (jO X) (M 4) ∧ M 4 4 (jw X) 8 = ju X ∧ 0 ≤ jO X ∧ jN X ≤ (M 4 0 0 1).toInt ∧ M 4 0 0 2 = jH X) ∧ (BY (M 1) (M 4 0 0 1) ∧ M 1 2 0 = jx X) ∧ R7 (jw X) (M 4 0 0 1) (M 7)
section JRN
variable {X : JX} {M : Wm}
theorem jr_ite {P : Prop} [Decidable P] {a b : Int32 × Wm} (ha : P → JR X a.2) (hb : ¬ P → JR X b.2) : JR X (if P then a else b).2 := by
  split
  · exact ha (by assumption)
  · exact hb (by assumption)
theorem jr_2 (h : JR X M) (y : Cm) : JR X (uW M 2 y) := h
theorem jr_5 (h : JR X M) {y : Cm} (hy : QI (jQ X) y) : JR X (uW M 5 y) := ⟨hy, h.2⟩
theorem jr_f7_stop (h : JR X M) {a : Int32} (ha : decide (0 ≤ a.toInt ∧ a.toInt ≤ 7) = true) : JR X (uW M 7 (f7_stop (M 7) a).2) := by
  obtain ⟨h1, h2, h3, h4, h5, h6, h7⟩ := h
  refine ⟨h1, h2, h3, ?_⟩
  show R7 (jw X) (M 4 0 0 1) (u3 (M 7) 0 0 10 a)
  unfold R7
  rw [u3_s (by decide), u3_s (by decide), u3_s (by decide), u3_s (by decide), u3_at]
  exact ⟨h4, h5, h6, of_decide_eq_true ha⟩
theorem jr_used (h : JR X M) (hn : ¬ M 7 0 0 8 ≤ M 7 0 0 9) : JR X (uW M 7 (u3 (M 7) 0 0 9 (M 7 0 0 9 + 1))) := by
  obtain ⟨h1, h2, h3, h4, h5, h6, h7⟩ := h
  refine ⟨h1, h2, h3, ?_⟩
  show R7 (jw X) (M 4 0 0 1) (u3 (M 7) 0 0 9 (M 7 0 0 9 + 1))
  simp only [i32le] at hn
  have e1 : (M 7 0 0 9 + 1).toInt = (M 7 0 0 9).toInt + 1 := inc_t h6.1 (by omega)
  unfold R7
  rw [u3_s (show ¬ (6 : Int32) = 9 by decide), u3_s (show ¬ (7 : Int32) = 9 by decide), u3_s (show ¬ (8 : Int32) = 9 by decide), u3_s (show ¬ (10 : Int32) = 9 by decide), u3_at, e1]
  exact ⟨h4, h5, ⟨by omega, by omega, h6.2.2⟩, h7⟩
theorem jr_buy (h : JR X M) {p : Int32} (hp : 0 ≤ p) : JR X (uW M 5 (f5_buyFuel (M 5) (M 7 0 0 7) (mnI p (f5_rationsOf (M 5) (M 7 0 0 7)))).2) := by
  have hc := h.2.2.2.2.1
  simp only [i32le, t32_0] at hp
  have h0 := (h.1.2.1 _ hc).2
  exact jr_5 h (h.1.buyFuel hc (mnI_0 hp h0) mnI_t.2.1)
theorem jr_takes (h : JR X M) : JR X (uW M 5 (f5_takesOne (M 5) (M 7 0 0 7)).2) := jr_5 h (h.1.takes h.2.2.2.2.1)
theorem BY.move {b : Cm} {n : Int32} (h : BY b n) (p1 p2 p3 p4 : Int32) {w : Int32} (h0 : 0 ≤ w.toInt) (h1 : w.toInt < n.toInt) : BY (f1_move b p1 p2 p3 p4 w) n ∧ (f1_move b p1 p2 p3 p4 w) 2 = b 2 := by
  unfold f1_move
  simp only [bnd_e]
  by_cases c : (3000 : Int32) ≤ b 0 0 7
  · rw [if_pos c]; exact ⟨h, rfl⟩
  · rw [if_neg c]
    refine ⟨fun j a d => ?_, rfl⟩
    show 0 ≤ (fI (b 7 0) (b 0 0 7) w j).toInt ∧ (fI (b 7 0) (b 0 0 7) w j).toInt < n.toInt
    have d' : j.toInt < (b 0 0 7 + 1).toInt := d
    unfold fI
    by_cases e : j = b 0 0 7
    · rw [if_pos e]; exact ⟨h0, h1⟩
    · rw [if_neg e]
      simp only [i32le, t32_3000] at c
      by_cases cn : 0 ≤ (b 0 0 7).toInt
      · rw [inc_t cn (by omega)] at d'
        exact h j a (by rw [i32eq] at e; omega)
      · exfalso
        have : (b 0 0 7 + 1).toInt = (b 0 0 7).toInt + 1 := by have := i32rng (b 0 0 7); rw [i32addn (by rw [t32_1]; omega) (by rw [t32_1]; omega), t32_1]
        rw [this] at d'; omega
theorem jr_move (h : JR X M) (p1 p2 p3 p4 : Int32) : JR X (uW M 1 (f1_move (M 1) p1 p2 p3 p4 (M 7 0 0 6))) := by
  obtain ⟨h1, h2, ⟨h3, h3'⟩, h4, h5, h6, h7⟩ := h
  have g := h3.move p1 p2 p3 p4 (w := M 7 0 0 6) (by rw [h4.1]; exact h4.2.1) (by rw [h4.1]; exact h4.2.2)
  exact ⟨h1, h2, ⟨g.1, (congrFun g.2 0).trans h3'⟩, h4, h5, h6, h7⟩
theorem jr_add (h : JR X M) {s hr b : Int32} (hh : f11_isIn hr 1 100 = true) (hb : f11_isIn b 1 1000 = true) : JR X (uW M 4 (f4_add (M 4) (M 7 0 0 7) s hr b).2) := by
  obtain ⟨h1, ⟨h2, hu, hB, hN⟩, ⟨h3, h3'⟩, h4, h5, h6, h7⟩ := h
  have ih := isIn11_t hh
  rw [t32_1, t32_100] at ih
  have ib := isIn11_t hb
  rw [t32_1, t32_1000] at ib
  obtain ⟨a1, a2, a3, a4⟩ := h2.add (c := M 7 0 0 7) (s := s) (b := b) h4.2.2 h5 ⟨by omega, ib.2⟩ ih.1 ih.2 hB
  exact ⟨h1, ⟨a1, by show (f4_add (M 4) (M 7 0 0 7) s hr b).2 4 (jw X) 8 = _; rw [a3 _ h4.2.2]; exact hu, hB, Int.le_trans hN.1 a2, a4.trans hN.2⟩, ⟨h3.mono a2, h3'⟩, ⟨h4.1, h4.2.1, by show _ < ((f4_add (M 4) (M 7 0 0 7) s hr b).2 0 0 1).toInt; have := h4.2.2; omega⟩, h5, h6, h7⟩
theorem jr_f2_bind {M : Wm} (h : JR X M) (a b : Int32) : JR X (uW M 2 (f2_bind (M 2) a b)) := h
theorem jr_f2_defines {M : Wm} (h : JR X M) (a b : Int32) : JR X (uW M 2 (f2_defines (M 2) a b).2) := h
theorem jr_f2_unbindLatest {M : Wm} (h : JR X M) : JR X (uW M 2 (f2_unbindLatest (M 2))) := h
theorem jr_f2_enter {M : Wm} (h : JR X M) : JR X (uW M 2 (f2_enter (M 2)).2) := h
theorem jr_f2_leave {M : Wm} (h : JR X M) (a : Int32) : JR X (uW M 2 (f2_leave (M 2) a)) := h
theorem jr_f2_setAt {M : Wm} (h : JR X M) (a b : Int32) : JR X (uW M 2 (f2_setAt (M 2) a b)) := h
theorem jr_f7_combine {M : Wm} (h : JR X M) (a b c : Int32) : JR X (f7_combine M a b c).2 := by
  unfold f7_combine; simp only [bnd, jn]
  repeat' split
  all_goals first | with_reducible exact h | with_reducible exact jr_f7_stop h (by decide)
theorem jr_f7_valueOfName {M : Wm} (h : JR X M) (a : Int32) : JR X (f7_valueOfName M a).2 := by
  unfold f7_valueOfName; simp only [bnd, jn]
  repeat' split
  all_goals first | with_reducible exact h | with_reducible exact jr_f7_stop h (by decide)
theorem jr_f7_bindInner {M : Wm} (h : JR X M) (a b c : Int32) : JR X (f7_bindInner M a b c) := by
  unfold f7_bindInner; simp only [bnd, jn]
  repeat' split
  all_goals first | exact h | exact jr_f2_bind h _ _
theorem jr_f7_buyWith {M : Wm} (h : JR X M) (a : Int32) : JR X (f7_buyWith M a).2 := by
  unfold f7_buyWith; simp only [bnd, jn]
  split
  · split
    · exact jr_buy h (by assumption)
    · exact jr_f7_stop h (by decide)
  · exact h
theorem jr_f7_define {M : Wm} (h : JR X M) (a : Int32) : JR X (f7_define M a).2 := by
  unfold f7_define; simp only [bnd, jn]
  repeat' split
  all_goals first | with_reducible exact h | with_reducible exact jr_f7_stop h (by decide) | exact jr_f2_defines h _ _ | exact jr_f7_stop (jr_f2_defines h _ _) (by decide)
theorem jr_f7_carry {M : Wm} (h : JR X M) (p1 p2 p3 p4 : Int32) : JR X (f7_carry M p1 p2 p3 p4).2 := by
  unfold f7_carry; simp only [bnd, jn]
  repeat' split
  all_goals first | with_reducible exact h | with_reducible exact jr_f7_stop h (by decide) | exact jr_move h _ _ _ _
abbrev HJR (X : JX) (VA : Wm → Int32 → Int32 → Int32 × Wm) : Prop := ∀ {M : Wm}, JR X M → ∀ a dep : Int32, JR X (VA M a dep).2
theorem jr_f7_valueOfPart (VA : Wm → Int32 → Int32 → Int32 × Wm) (hOk : HJR X VA) {M : Wm} (h : JR X M) (p1 p2 p3 : Int32) : JR X (f7_valueOfPart VA M p1 p2 p3).2 := by
  unfold f7_valueOfPart; simp only [bnd, jn]
  with_reducible exact hOk h _ _
theorem jr_f7_valueOfRow (VA : Wm → Int32 → Int32 → Int32 × Wm) (hOk : HJR X VA) {M : Wm} (h : JR X M) (p1 p2 p3 : Int32) : JR X (f7_valueOfRow VA M p1 p2 p3).2 := by
  have key : ∀ (k : Nat) (x : Int32 × Int32 × Int32 × Wm), JR X x.2.2.2 → JR X (f7_valueOfRow_lp17 VA p1 p3 k x).2 := by
    intro k
    induction k with
    | zero => intro x hx; exact hx
    | succ k ih =>
      intro x hx
      unfold f7_valueOfRow_lp17; simp only [bnd, jn]
      repeat' split
      all_goals first | with_reducible exact hx | with_reducible exact ih _ (hOk hx _ _)
  unfold f7_valueOfRow; simp only [bnd, jn]
  exact key _ _ h
theorem jr_f7_valueOfChoice (VA : Wm → Int32 → Int32 → Int32 × Wm) (hOk : HJR X VA) {M : Wm} (h : JR X M) (p1 p2 p3 : Int32) : JR X (f7_valueOfChoice VA M p1 p2 p3).2 := by
  unfold f7_valueOfChoice; simp only [bnd, jn]
  repeat' split
  all_goals first | with_reducible exact jr_f7_valueOfPart VA hOk (jr_f7_valueOfPart VA hOk h _ _ _) _ _ _ | with_reducible exact jr_f7_valueOfPart VA hOk h _ _ _
theorem jr_f7_valueOfWhile (VA : Wm → Int32 → Int32 → Int32 × Wm) (hOk : HJR X VA) {M : Wm} (h : JR X M) (p1 p2 : Int32) : JR X (f7_valueOfWhile VA M p1 p2).2 := by
  have key : ∀ (k : Nat) (x : Int32 × Wm), JR X x.2 → JR X (f7_valueOfWhile_lp2 VA p1 p2 k x).2 := by
    intro k
    induction k with
    | zero => intro x hx; exact hx
    | succ k ih =>
      intro x hx
      unfold f7_valueOfWhile_lp2; simp only [bnd, jn]
      repeat' split
      all_goals first | with_reducible exact hx | with_reducible exact jr_f7_valueOfPart VA hOk hx _ _ _ | with_reducible exact ih _ (jr_f7_valueOfRow VA hOk (jr_f7_valueOfPart VA hOk hx _ _ _) _ _ _)
  unfold f7_valueOfWhile
  exact key _ _ h
theorem jr_f7_valueOfLet (VA : Wm → Int32 → Int32 → Int32 × Wm) (hOk : HJR X VA) {M : Wm} (h : JR X M) (p1 p2 : Int32) : JR X (f7_valueOfLet VA M p1 p2).2 := by
  unfold f7_valueOfLet; simp only [bnd, jn]
  with_reducible exact jr_f2_unbindLatest (jr_f7_valueOfRow VA hOk (jr_f2_bind (jr_f7_valueOfPart VA hOk h _ _ _) _ _) _ _ _)
theorem jr_f7_setBinding (VA : Wm → Int32 → Int32 → Int32 × Wm) (hOk : HJR X VA) {M : Wm} (h : JR X M) (p1 p2 : Int32) : JR X (f7_setBinding VA M p1 p2).2 := by
  unfold f7_setBinding; simp only [bnd, jn]
  have h1 := jr_f7_valueOfPart VA hOk h p1 2 p2
  repeat' split
  all_goals first | with_reducible exact h1 | with_reducible exact jr_f7_stop h1 (by decide) | with_reducible exact jr_f2_setAt h1 _ _
theorem jr_f7_valueOfFunction (VA : Wm → Int32 → Int32 → Int32 × Wm) (hOk : HJR X VA) {M : Wm} (h : JR X M) (p1 p2 p3 : Int32) : JR X (f7_valueOfFunction VA M p1 p2 p3).2 := by
  have key : ∀ {N : Wm} (_ : JR X N) (e a b c q : Int32), JR X (uW (f7_valueOfPart VA (f7_bindInner (f7_bindInner (f7_bindInner (uW N 2 (f2_enter (N 2)).2) e 0 a) e 1 b) e 2 c) q 3 p3).2 2 (f2_leave ((f7_valueOfPart VA (f7_bindInner (f7_bindInner (f7_bindInner (uW N 2 (f2_enter (N 2)).2) e 0 a) e 1 b) e 2 c) q 3 p3).2 2) (f2_enter (N 2)).1)) := by
    intro N hN e a b c q
    have h1 := jr_f7_bindInner (jr_f7_bindInner (jr_f7_bindInner (jr_f2_enter hN) e 0 a) e 1 b) e 2 c
    exact jr_f2_leave (jr_f7_valueOfPart VA hOk h1 q 3 p3) _
  have h1 := jr_f7_valueOfPart VA hOk h p2 1 p3
  have h2 := jr_f7_valueOfPart VA hOk h1 p2 2 p3
  have h3 := jr_f7_valueOfPart VA hOk h2 p2 3 p3
  have g1 := jr_f7_valueOfPart VA hOk h p2 2 p3
  have g2 := jr_f7_valueOfPart VA hOk g1 p2 3 p3
  have g3 := jr_f7_valueOfPart VA hOk h p2 3 p3
  have g4 := jr_f7_valueOfPart VA hOk h1 p2 3 p3
  unfold f7_valueOfFunction; simp only [bnd, jn]
  repeat' split
  all_goals first
    | with_reducible exact jr_f7_stop h (by decide)
    | with_reducible exact key h _ _ _ _ _
    | with_reducible exact key h1 _ _ _ _ _
    | with_reducible exact key h2 _ _ _ _ _
    | with_reducible exact key h3 _ _ _ _ _
    | with_reducible exact key g1 _ _ _ _ _
    | with_reducible exact key g2 _ _ _ _ _
    | with_reducible exact key g3 _ _ _ _ _
    | with_reducible exact key g4 _ _ _ _ _
theorem jr_f7_valueOfScript (VA : Wm → Int32 → Int32 → Int32 × Wm) (hOk : HJR X VA) {M : Wm} (h : JR X M) (p1 p2 : Int32) : JR X (f7_valueOfScript VA M p1 p2).2 := by
  have hb : JR X (uW (f7_valueOfRow VA (uW M 2 (f2_enter (M 2)).2) (f9_rowOf p1) 0 p2).2 2 (f2_leave ((f7_valueOfRow VA (uW M 2 (f2_enter (M 2)).2) (f9_rowOf p1) 0 p2).2 2) (f2_enter (M 2)).1)) := jr_f2_leave (jr_f7_valueOfRow VA hOk (jr_f2_enter h) _ 0 p2) _
  unfold f7_valueOfScript; simp only [bnd, jn]
  repeat' split
  all_goals first | with_reducible exact h | with_reducible exact jr_f7_stop h (by decide) | with_reducible exact hb
theorem jr_f7_give (VA : Wm → Int32 → Int32 → Int32 × Wm) (hOk : HJR X VA) {M : Wm} (h : JR X M) (p1 p2 : Int32) : JR X (f7_give VA M p1 p2).2 := by
  have h2 := jr_f7_valueOfPart VA hOk (jr_f7_valueOfPart VA hOk h p1 1 p2) p1 3 p2
  unfold f7_give; simp only [bnd, jn]
  repeat' split
  all_goals first | with_reducible exact jr_f7_stop h2 (by decide) | exact jr_f7_carry h2 _ _ _ _
theorem jr_f7_orderAhead (VA : Wm → Int32 → Int32 → Int32 × Wm) (hOk : HJR X VA) {M : Wm} (h : JR X M) (p1 p2 : Int32) : JR X (f7_orderAhead VA M p1 p2).2 := by
  have h3 := jr_f7_valueOfPart VA hOk (jr_f7_valueOfPart VA hOk (jr_f7_valueOfPart VA hOk h p1 1 p2) p1 2 p2) p1 3 p2
  unfold f7_orderAhead; simp only [bnd, jn]
  split
  · split
    · split
      · split
        · exact jr_add h3 (by assumption) (by assumption)
        · exact jr_f7_stop h3 (by decide)
      · exact jr_f7_stop h3 (by decide)
    · exact jr_f7_stop h3 (by decide)
  · exact h3
theorem jr_f7_valueOfList (VA : Wm → Int32 → Int32 → Int32 × Wm) (hOk : HJR X VA) {M : Wm} (h : JR X M) (p1 p2 : Int32) : JR X (f7_valueOfList VA M p1 p2).2 := by
  have hv := jr_f7_valueOfPart VA hOk h p1 2 p2
  have h1 := jr_f7_valueOfPart VA hOk h p1 1 p2
  have hc : ∀ {N : Wm} (_ : JR X N) (a b : Int32), JR X (f7_carry N (-1) (M 7 0 0 7) a b).2 := fun hN a b => jr_f7_carry hN _ _ a b
  have hd : ∀ {N : Wm} (_ : JR X N) (a b : Int32), JR X (f7_carry N (M 7 0 0 7) (-1) a b).2 := fun hN a b => jr_f7_carry hN _ _ a b
  unfold f7_valueOfList; simp only [bnd, jn]
  repeat' (with_reducible refine jr_ite (fun _ => ?_) (fun _ => ?_))
  all_goals first
    | with_reducible exact h
    | with_reducible exact h1
    | with_reducible exact jr_f7_stop h (by decide)
    | with_reducible exact jr_f7_valueOfFunction VA hOk h _ _ _
    | with_reducible exact jr_f7_valueOfChoice VA hOk h _ _ _
    | with_reducible exact jr_f7_valueOfWhile VA hOk h _ _
    | with_reducible exact jr_f7_valueOfRow VA hOk h _ _ _
    | with_reducible exact jr_f7_valueOfLet VA hOk h _ _
    | with_reducible exact jr_f7_setBinding VA hOk h _ _
    | with_reducible exact jr_f7_define h _
    | with_reducible exact hc hv _ _
    | with_reducible exact hd hv _ _
    | with_reducible exact jr_f7_give VA hOk h _ _
    | with_reducible exact jr_f7_orderAhead VA hOk h _ _
    | with_reducible exact jr_f7_valueOfScript VA hOk h1 _ _
    | with_reducible exact jr_f7_buyWith h1 _
    | with_reducible exact jr_f7_combine (jr_f7_valueOfPart VA hOk h1 _ _ _) _ _ _
theorem jr_f7_valueAt (VA : Wm → Int32 → Int32 → Int32 × Wm) (hOk : HJR X VA) {M : Wm} (h : JR X M) (p1 p2 : Int32) : JR X (f7_valueAt VA M p1 p2).2 := by
  have hT := jr_takes h
  unfold f7_valueAt; simp only [bnd, jn]
  split
  · split
    · exact jr_f7_stop h (by decide)
    · rename_i hn
      have hU : JR X (uW (uW M 5 (f5_takesOne (M 5) (M 7 0 0 7)).2) 7 (u3 ((uW M 5 (f5_takesOne (M 5) (M 7 0 0 7)).2) 7) 0 0 9 (M 7 0 0 9 + 1))) := jr_used hT hn
      repeat' split
      all_goals first
        | with_reducible exact hU
        | with_reducible exact jr_f7_stop hT (by decide)
        | with_reducible exact jr_f7_stop hU (by decide)
        | with_reducible exact jr_f7_valueOfName hU _
        | with_reducible exact jr_f7_valueOfList VA hOk hU _ _
  · exact h
theorem jr_ev : ∀ k : Nat, HJR X (f7_ev k) := by
  intro k
  induction k with
  | zero => intro M h a dep; exact jr_f7_valueAt _ (fun h _ _ => h) h a dep
  | succ k ih => intro M h a dep; exact jr_f7_valueAt _ ih h a dep
end JRN
