/-! what an interpreter's run leaves alone: the reference's data -/
section FK
variable {x0 : Cm}
def Fk (x : Cm) (M : Wm) : Prop := M 12 = x
theorem fk_w {M : Wm} {c : Nat} {y : Cm} (h : Fk x0 M) (hc : 12 ≠ c) : Fk x0 (uW M c y) := (uW_ne _ _ hc).trans h
theorem fk_ite {P : Prop} [Decidable P] {a b : Int32 × Wm} (ha : P → Fk x0 a.2) (hb : ¬ P → Fk x0 b.2) : Fk x0 (if P then a else b).2 := by
  split
  · exact ha (by assumption)
  · exact hb (by assumption)
theorem fk_f7_stop {M : Wm} (h : Fk x0 M) (a : Int32) : Fk x0 (uW M 7 (f7_stop (M 7) a).2) := fk_w h (by decide)
theorem fk_f2_bind {M : Wm} (h : Fk x0 M) (a b : Int32) : Fk x0 (uW M 2 (f2_bind (M 2) a b)) := fk_w h (by decide)
theorem fk_f5_buyFuel {M : Wm} (h : Fk x0 M) (a b : Int32) : Fk x0 (uW M 5 (f5_buyFuel (M 5) a b).2) := fk_w h (by decide)
theorem fk_f5_takesOne {M : Wm} (h : Fk x0 M) (a : Int32) : Fk x0 (uW M 5 (f5_takesOne (M 5) a).2) := fk_w h (by decide)
theorem fk_f2_defines {M : Wm} (h : Fk x0 M) (a b : Int32) : Fk x0 (uW M 2 (f2_defines (M 2) a b).2) := fk_w h (by decide)
theorem fk_f2_unbindLatest {M : Wm} (h : Fk x0 M) : Fk x0 (uW M 2 (f2_unbindLatest (M 2))) := fk_w h (by decide)
theorem fk_f2_enter {M : Wm} (h : Fk x0 M) : Fk x0 (uW M 2 (f2_enter (M 2)).2) := fk_w h (by decide)
theorem fk_f2_leave {M : Wm} (h : Fk x0 M) (a : Int32) : Fk x0 (uW M 2 (f2_leave (M 2) a)) := fk_w h (by decide)
theorem fk_f2_setAt {M : Wm} (h : Fk x0 M) (a b : Int32) : Fk x0 (uW M 2 (f2_setAt (M 2) a b)) := fk_w h (by decide)
theorem fk_f4_add {M : Wm} (h : Fk x0 M) (p1 p2 p3 p4 : Int32) : Fk x0 (uW M 4 (f4_add (M 4) p1 p2 p3 p4).2) := fk_w h (by decide)
theorem fk_f4_undoFrom {M : Wm} (h : Fk x0 M) (p1 : Int32) : Fk x0 (uW M 4 (f4_undoFrom (M 4) p1)) := fk_w h (by decide)
theorem fk_f1_undoTo {M : Wm} (h : Fk x0 M) (p1 : Int32) : Fk x0 (uW M 1 (f1_undoTo (M 1) p1)) := fk_w h (by decide)
theorem fk_f7_combine {M : Wm} (h : Fk x0 M) (a b c : Int32) : Fk x0 (f7_combine M a b c).2 := by
  unfold f7_combine; simp only [bnd, jn]
  repeat' split
  all_goals first | with_reducible exact h | with_reducible exact fk_f7_stop h _
theorem fk_f7_valueOfName {M : Wm} (h : Fk x0 M) (a : Int32) : Fk x0 (f7_valueOfName M a).2 := by
  unfold f7_valueOfName; simp only [bnd, jn]
  repeat' split
  all_goals first | with_reducible exact h | with_reducible exact fk_f7_stop h _
theorem fk_f7_bindInner {M : Wm} (h : Fk x0 M) (a b c : Int32) : Fk x0 (f7_bindInner M a b c) := by
  unfold f7_bindInner; simp only [bnd, jn]
  repeat' split
  all_goals first | exact h | exact fk_f2_bind h _ _
theorem fk_f7_buyWith {M : Wm} (h : Fk x0 M) (a : Int32) : Fk x0 (f7_buyWith M a).2 := by
  unfold f7_buyWith; simp only [bnd, jn]
  repeat' split
  all_goals first | with_reducible exact h | with_reducible exact fk_f7_stop h _ | exact fk_f5_buyFuel h _ _
theorem fk_f7_define {M : Wm} (h : Fk x0 M) (a : Int32) : Fk x0 (f7_define M a).2 := by
  unfold f7_define; simp only [bnd, jn]
  repeat' split
  all_goals first | with_reducible exact h | with_reducible exact fk_f7_stop h _ | exact fk_f2_defines h _ _ | exact fk_f7_stop (fk_f2_defines h _ _) _
theorem fk_f7_carry {M : Wm} (h : Fk x0 M) (p1 p2 p3 p4 : Int32) : Fk x0 (f7_carry M p1 p2 p3 p4).2 := by
  unfold f7_carry; simp only [bnd, jn]
  repeat' split
  all_goals first | with_reducible exact h | with_reducible exact fk_f7_stop h _ | exact fk_w h (by decide)
abbrev HFk (x0 : Cm) (VA : Wm → Int32 → Int32 → Int32 × Wm) : Prop := ∀ {M : Wm}, Fk x0 M → ∀ a dep : Int32, Fk x0 (VA M a dep).2
theorem fk_f7_valueOfPart (VA : Wm → Int32 → Int32 → Int32 × Wm) (hOk : HFk x0 VA) {M : Wm} (h : Fk x0 M) (p1 p2 p3 : Int32) : Fk x0 (f7_valueOfPart VA M p1 p2 p3).2 := by
  unfold f7_valueOfPart; simp only [bnd, jn]
  with_reducible exact hOk h _ _
theorem fk_f7_valueOfRow (VA : Wm → Int32 → Int32 → Int32 × Wm) (hOk : HFk x0 VA) {M : Wm} (h : Fk x0 M) (p1 p2 p3 : Int32) : Fk x0 (f7_valueOfRow VA M p1 p2 p3).2 := by
  have key : ∀ (k : Nat) (x : Int32 × Int32 × Int32 × Wm), Fk x0 x.2.2.2 → Fk x0 (f7_valueOfRow_lp17 VA p1 p3 k x).2 := by
    intro k
    induction k with
    | zero => intro x hx; exact hx
    | succ k ih =>
      intro x hx
      unfold f7_valueOfRow_lp17; simp only [bnd, jn]
      repeat' split
      all_goals first | with_reducible exact hx | with_reducible exact ih _ (hOk hx _ _)
  unfold f7_valueOfRow; simp only [bnd, jn]
  exact key _ _ h
theorem fk_f7_valueOfChoice (VA : Wm → Int32 → Int32 → Int32 × Wm) (hOk : HFk x0 VA) {M : Wm} (h : Fk x0 M) (p1 p2 p3 : Int32) : Fk x0 (f7_valueOfChoice VA M p1 p2 p3).2 := by
  unfold f7_valueOfChoice; simp only [bnd, jn]
  repeat' split
  all_goals first | with_reducible exact fk_f7_valueOfPart VA hOk (fk_f7_valueOfPart VA hOk h _ _ _) _ _ _ | with_reducible exact fk_f7_valueOfPart VA hOk h _ _ _
theorem fk_f7_valueOfWhile (VA : Wm → Int32 → Int32 → Int32 × Wm) (hOk : HFk x0 VA) {M : Wm} (h : Fk x0 M) (p1 p2 : Int32) : Fk x0 (f7_valueOfWhile VA M p1 p2).2 := by
  have key : ∀ (k : Nat) (x : Int32 × Wm), Fk x0 x.2 → Fk x0 (f7_valueOfWhile_lp2 VA p1 p2 k x).2 := by
    intro k
    induction k with
    | zero => intro x hx; exact hx
    | succ k ih =>
      intro x hx
      unfold f7_valueOfWhile_lp2; simp only [bnd, jn]
      repeat' split
      all_goals first | with_reducible exact hx | with_reducible exact fk_f7_valueOfPart VA hOk hx _ _ _ | with_reducible exact ih _ (fk_f7_valueOfRow VA hOk (fk_f7_valueOfPart VA hOk hx _ _ _) _ _ _)
  unfold f7_valueOfWhile
  exact key _ _ h
theorem fk_f7_valueOfLet (VA : Wm → Int32 → Int32 → Int32 × Wm) (hOk : HFk x0 VA) {M : Wm} (h : Fk x0 M) (p1 p2 : Int32) : Fk x0 (f7_valueOfLet VA M p1 p2).2 := by
  unfold f7_valueOfLet; simp only [bnd, jn]
  with_reducible exact fk_f2_unbindLatest (fk_f7_valueOfRow VA hOk (fk_f2_bind (fk_f7_valueOfPart VA hOk h _ _ _) _ _) _ _ _)
theorem fk_f7_setBinding (VA : Wm → Int32 → Int32 → Int32 × Wm) (hOk : HFk x0 VA) {M : Wm} (h : Fk x0 M) (p1 p2 : Int32) : Fk x0 (f7_setBinding VA M p1 p2).2 := by
  unfold f7_setBinding; simp only [bnd, jn]
  have h1 := fk_f7_valueOfPart VA hOk h p1 2 p2
  repeat' split
  all_goals first | with_reducible exact h1 | with_reducible exact fk_f7_stop h1 _ | with_reducible exact fk_f2_setAt h1 _ _
theorem fk_f7_valueOfFunction (VA : Wm → Int32 → Int32 → Int32 × Wm) (hOk : HFk x0 VA) {M : Wm} (h : Fk x0 M) (p1 p2 p3 : Int32) : Fk x0 (f7_valueOfFunction VA M p1 p2 p3).2 := by
  have key : ∀ {N : Wm} (_ : Fk x0 N) (e a b c q : Int32), Fk x0 (uW (f7_valueOfPart VA (f7_bindInner (f7_bindInner (f7_bindInner (uW N 2 (f2_enter (N 2)).2) e 0 a) e 1 b) e 2 c) q 3 p3).2 2 (f2_leave ((f7_valueOfPart VA (f7_bindInner (f7_bindInner (f7_bindInner (uW N 2 (f2_enter (N 2)).2) e 0 a) e 1 b) e 2 c) q 3 p3).2 2) (f2_enter (N 2)).1)) := by
    intro N hN e a b c q
    have h1 := fk_f7_bindInner (fk_f7_bindInner (fk_f7_bindInner (fk_f2_enter hN) e 0 a) e 1 b) e 2 c
    exact fk_f2_leave (fk_f7_valueOfPart VA hOk h1 q 3 p3) _
  have h1 := fk_f7_valueOfPart VA hOk h p2 1 p3
  have h2 := fk_f7_valueOfPart VA hOk h1 p2 2 p3
  have h3 := fk_f7_valueOfPart VA hOk h2 p2 3 p3
  have g1 := fk_f7_valueOfPart VA hOk h p2 2 p3
  have g2 := fk_f7_valueOfPart VA hOk g1 p2 3 p3
  have g3 := fk_f7_valueOfPart VA hOk h p2 3 p3
  have g4 := fk_f7_valueOfPart VA hOk h1 p2 3 p3
  unfold f7_valueOfFunction; simp only [bnd, jn]
  repeat' split
  all_goals first
    | with_reducible exact fk_f7_stop h _
    | with_reducible exact key h _ _ _ _ _
    | with_reducible exact key h1 _ _ _ _ _
    | with_reducible exact key h2 _ _ _ _ _
    | with_reducible exact key h3 _ _ _ _ _
    | with_reducible exact key g1 _ _ _ _ _
    | with_reducible exact key g2 _ _ _ _ _
    | with_reducible exact key g3 _ _ _ _ _
    | with_reducible exact key g4 _ _ _ _ _
theorem fk_f7_valueOfScript (VA : Wm → Int32 → Int32 → Int32 × Wm) (hOk : HFk x0 VA) {M : Wm} (h : Fk x0 M) (p1 p2 : Int32) : Fk x0 (f7_valueOfScript VA M p1 p2).2 := by
  have hb : Fk x0 (uW (f7_valueOfRow VA (uW M 2 (f2_enter (M 2)).2) (f9_rowOf p1) 0 p2).2 2 (f2_leave ((f7_valueOfRow VA (uW M 2 (f2_enter (M 2)).2) (f9_rowOf p1) 0 p2).2 2) (f2_enter (M 2)).1)) := fk_f2_leave (fk_f7_valueOfRow VA hOk (fk_f2_enter h) _ 0 p2) _
  unfold f7_valueOfScript; simp only [bnd, jn]
  repeat' split
  all_goals first | with_reducible exact h | with_reducible exact fk_f7_stop h _ | with_reducible exact hb
theorem fk_f7_give (VA : Wm → Int32 → Int32 → Int32 × Wm) (hOk : HFk x0 VA) {M : Wm} (h : Fk x0 M) (p1 p2 : Int32) : Fk x0 (f7_give VA M p1 p2).2 := by
  have h2 := fk_f7_valueOfPart VA hOk (fk_f7_valueOfPart VA hOk h p1 1 p2) p1 3 p2
  unfold f7_give; simp only [bnd, jn]
  repeat' split
  all_goals first | with_reducible exact fk_f7_stop h2 _ | exact fk_f7_carry h2 _ _ _ _
theorem fk_f7_orderAhead (VA : Wm → Int32 → Int32 → Int32 × Wm) (hOk : HFk x0 VA) {M : Wm} (h : Fk x0 M) (p1 p2 : Int32) : Fk x0 (f7_orderAhead VA M p1 p2).2 := by
  have h3 := fk_f7_valueOfPart VA hOk (fk_f7_valueOfPart VA hOk (fk_f7_valueOfPart VA hOk h p1 1 p2) p1 2 p2) p1 3 p2
  unfold f7_orderAhead; simp only [bnd, jn]
  repeat' split
  all_goals first | with_reducible exact h3 | with_reducible exact fk_f7_stop h3 _ | with_reducible exact fk_f4_add h3 _ _ _ _
theorem fk_f7_valueOfList (VA : Wm → Int32 → Int32 → Int32 × Wm) (hOk : HFk x0 VA) {M : Wm} (h : Fk x0 M) (p1 p2 : Int32) : Fk x0 (f7_valueOfList VA M p1 p2).2 := by
  have hv := fk_f7_valueOfPart VA hOk h p1 2 p2
  have h1 := fk_f7_valueOfPart VA hOk h p1 1 p2
  have hc : ∀ {N : Wm} (_ : Fk x0 N) (a b : Int32), Fk x0 (f7_carry N (-1) (M 7 0 0 7) a b).2 := fun hN a b => fk_f7_carry hN _ _ a b
  have hd : ∀ {N : Wm} (_ : Fk x0 N) (a b : Int32), Fk x0 (f7_carry N (M 7 0 0 7) (-1) a b).2 := fun hN a b => fk_f7_carry hN _ _ a b
  unfold f7_valueOfList; simp only [bnd, jn]
  repeat' (with_reducible refine fk_ite (fun _ => ?_) (fun _ => ?_))
  all_goals first
    | with_reducible exact h
    | with_reducible exact h1
    | with_reducible exact fk_f7_stop h _
    | with_reducible exact fk_f7_valueOfFunction VA hOk h _ _ _
    | with_reducible exact fk_f7_valueOfChoice VA hOk h _ _ _
    | with_reducible exact fk_f7_valueOfWhile VA hOk h _ _
    | with_reducible exact fk_f7_valueOfRow VA hOk h _ _ _
    | with_reducible exact fk_f7_valueOfLet VA hOk h _ _
    | with_reducible exact fk_f7_setBinding VA hOk h _ _
    | with_reducible exact fk_f7_define h _
    | with_reducible exact hc hv _ _
    | with_reducible exact hd hv _ _
    | with_reducible exact fk_f7_give VA hOk h _ _
    | with_reducible exact fk_f7_orderAhead VA hOk h _ _
    | with_reducible exact fk_f7_valueOfScript VA hOk h1 _ _
    | with_reducible exact fk_f7_buyWith h1 _
    | with_reducible exact fk_f7_combine (fk_f7_valueOfPart VA hOk h1 _ _ _) _ _ _
theorem fk_f7_valueAt (VA : Wm → Int32 → Int32 → Int32 × Wm) (hOk : HFk x0 VA) {M : Wm} (h : Fk x0 M) (p1 p2 : Int32) : Fk x0 (f7_valueAt VA M p1 p2).2 := by
  have hT := fk_f5_takesOne h (M 7 0 0 7)
  have hU : ∀ x : Int32, Fk x0 (uW (uW M 5 (f5_takesOne (M 5) (M 7 0 0 7)).2) 7 (u3 ((uW M 5 (f5_takesOne (M 5) (M 7 0 0 7)).2) 7) 0 0 9 x)) := fun x => fk_w hT (by decide)
  unfold f7_valueAt; simp only [bnd, jn]
  repeat' split
  all_goals first
    | with_reducible exact h
    | with_reducible exact fk_f7_stop h _
    | with_reducible exact hU _
    | with_reducible exact fk_f7_stop hT _
    | with_reducible exact fk_f7_stop (hU _) _
    | with_reducible exact fk_f7_valueOfName (hU _) _
    | with_reducible exact fk_f7_valueOfList VA hOk (hU _) _ _
theorem fk_ev : ∀ k : Nat, HFk x0 (f7_ev k) := by
  intro k
  induction k with
  | zero => intro M h a dep; exact fk_f7_valueAt _ (fun h _ _ => h) h a dep
  | succ k ih => intro M h a dep; exact fk_f7_valueAt _ ih h a dep
theorem fk_f7_runExpression {M : Wm} (h : Fk x0 M) (p1 p2 : Int32) : Fk x0 (f7_runExpression M p1 p2) := by
  have h1 := fk_ev 30 h p2 0
  unfold f7_runExpression; simp only [bnd, jn]
  by_cases c : (f7_ev 30 M p2 0).2 7 0 0 10 = 0
  · rw [if_pos c]; exact fk_w (fk_w h1 (by decide)) (by decide)
  · rw [if_neg c]; exact fk_f4_undoFrom (fk_f1_undoTo h1 _) _
theorem fk_f7_execute {M : Wm} (h : Fk x0 M) (p1 p2 : Int32) : Fk x0 (f7_execute M p1 p2) := by
  have key : ∀ (K18 : Wm → Wm) (_ : ∀ N : Wm, Fk x0 N → Fk x0 (K18 N)) (r20 : Int32) (k : Nat) (x : Int32 × Int32 × Wm), Fk x0 x.2.2 → Fk x0 (f7_execute_lp105 p1 K18 r20 k x) := by
    intro K18 hK r20 k
    induction k with
    | zero => intro x hx; exact hx
    | succ k ih =>
      intro x hx
      rw [f7_execute_lp105_s]
      simp only [bnd_e]
      split
      · exact hK _ hx
      · split
        · exact ih _ (fk_f7_runExpression hx _ _)
        · exact hK _ hx
  have hK : ∀ N : Wm, Fk x0 N → Fk x0 (endW N p1) := fun N hN => fk_w hN (by decide)
  rw [execute_e (N := f8_readChanged (st0 M p1 p2)) rfl]
  have hs : Fk x0 (st0 M p1 p2) := fk_w (fk_w (fk_w (fk_w (fk_w (fk_w h (by decide)) (by decide)) (by decide)) (by decide)) (by decide)) (by decide)
  have hr : Fk x0 (f8_readChanged (st0 M p1 p2)) := (rcS_readChanged (st0 M p1 p2) 12 (by decide) (by decide) (by decide)).trans hs
  split
  · exact key _ (fun N hN => by rw [endB_e]; exact hK N hN) _ _ _ hr
  · rw [endB_e]; exact hK _ (fk_w hr (by decide))
end FK
theorem ok7_f7_execute {M : Wm} (h : Ok7 M) (p1 p2 : Int32) (hc : vp_in (M 4 4 p1 0) 4) : Ok7 (f7_execute M p1 p2) := by
  have key : ∀ (K18 : Wm → Wm) (_ : ∀ N : Wm, Ok7 N → Ok7 (K18 N)) (r20 : Int32) (k : Nat) (x : Int32 × Int32 × Wm), Ok7 x.2.2 → Ok7 (f7_execute_lp105 p1 K18 r20 k x) := by
    intro K18 hK r20 k
    induction k with
    | zero => intro x hx; exact hx
    | succ k ih =>
      intro x hx
      rw [f7_execute_lp105_s]
      simp only [bnd_e]
      split
      · exact hK _ hx
      · split
        · exact ih _ (ok7_f7_runExpression hx _ _)
        · exact hK _ hx
  have hK : ∀ N : Wm, Ok7 N → Ok7 (endW N p1) := fun N hN => ok7_put4 (ok7_put4 (ok7_put4 hN))
  rw [execute_e (N := f8_readChanged (st0 M p1 p2)) rfl]
  have h1 : Ok7 (uW M 7 (u3 (M 7) 0 0 6 p1)) := ok7_put7 h (by decide)
  have h2 := ok7_put7c h1 (x := M 4 4 p1 0) hc
  have h3 := ok7_put7 h2 (j := 8) (x := p2) (by decide)
  have h4 := ok7_put7 h3 (j := 9) (x := 0) (by decide)
  have h5 := ok7_put7 h4 (j := 10) (x := 0) (by decide)
  have hs : Ok7 (st0 M p1 p2) := ok7_f2_clear h5
  have hr : Ok7 (f8_readChanged (st0 M p1 p2)) := ok7_f8_readChanged hs
  split
  · exact key _ (fun N hN => by rw [endB_e]; exact hK N hN) _ _ _ hr
  · rw [endB_e]; exact hK _ (ok7_put7 hr (by decide))
