/-! what a call leaves alone: the other object, the law's row -/
section GK
variable {x0 : Wm}
def Gk (x : Wm) (M : Wm) : Prop := ∀ c : Nat, 10 ≤ c → M c = x c
theorem gk_w {M : Wm} {c : Nat} {y : Cm} (h : Gk x0 M) (hc : c < 10) : Gk x0 (uW M c y) := fun c2 h2 => (uW_ne _ _ (by omega)).trans (h c2 h2)
theorem gk_ite {P : Prop} [Decidable P] {a b : Int32 × Wm} (ha : P → Gk x0 a.2) (hb : ¬ P → Gk x0 b.2) : Gk x0 (if P then a else b).2 := by
  split
  · exact ha (by assumption)
  · exact hb (by assumption)
theorem gk_f7_stop {M : Wm} (h : Gk x0 M) (a : Int32) : Gk x0 (uW M 7 (f7_stop (M 7) a).2) := gk_w h (by decide)
theorem gk_f2_bind {M : Wm} (h : Gk x0 M) (a b : Int32) : Gk x0 (uW M 2 (f2_bind (M 2) a b)) := gk_w h (by decide)
theorem gk_f5_buyFuel {M : Wm} (h : Gk x0 M) (a b : Int32) : Gk x0 (uW M 5 (f5_buyFuel (M 5) a b).2) := gk_w h (by decide)
theorem gk_f5_takesOne {M : Wm} (h : Gk x0 M) (a : Int32) : Gk x0 (uW M 5 (f5_takesOne (M 5) a).2) := gk_w h (by decide)
theorem gk_f2_defines {M : Wm} (h : Gk x0 M) (a b : Int32) : Gk x0 (uW M 2 (f2_defines (M 2) a b).2) := gk_w h (by decide)
theorem gk_f2_unbindLatest {M : Wm} (h : Gk x0 M) : Gk x0 (uW M 2 (f2_unbindLatest (M 2))) := gk_w h (by decide)
theorem gk_f2_enter {M : Wm} (h : Gk x0 M) : Gk x0 (uW M 2 (f2_enter (M 2)).2) := gk_w h (by decide)
theorem gk_f2_leave {M : Wm} (h : Gk x0 M) (a : Int32) : Gk x0 (uW M 2 (f2_leave (M 2) a)) := gk_w h (by decide)
theorem gk_f2_setAt {M : Wm} (h : Gk x0 M) (a b : Int32) : Gk x0 (uW M 2 (f2_setAt (M 2) a b)) := gk_w h (by decide)
theorem gk_f4_add {M : Wm} (h : Gk x0 M) (p1 p2 p3 p4 : Int32) : Gk x0 (uW M 4 (f4_add (M 4) p1 p2 p3 p4).2) := gk_w h (by decide)
theorem gk_f4_undoFrom {M : Wm} (h : Gk x0 M) (p1 : Int32) : Gk x0 (uW M 4 (f4_undoFrom (M 4) p1)) := gk_w h (by decide)
theorem gk_f1_undoTo {M : Wm} (h : Gk x0 M) (p1 : Int32) : Gk x0 (uW M 1 (f1_undoTo (M 1) p1)) := gk_w h (by decide)
theorem gk_f7_combine {M : Wm} (h : Gk x0 M) (a b c : Int32) : Gk x0 (f7_combine M a b c).2 := by
  unfold f7_combine; simp only [bnd, jn]
  repeat' split
  all_goals first | with_reducible exact h | with_reducible exact gk_f7_stop h _
theorem gk_f7_valueOfName {M : Wm} (h : Gk x0 M) (a : Int32) : Gk x0 (f7_valueOfName M a).2 := by
  unfold f7_valueOfName; simp only [bnd, jn]
  repeat' split
  all_goals first | with_reducible exact h | with_reducible exact gk_f7_stop h _
theorem gk_f7_bindInner {M : Wm} (h : Gk x0 M) (a b c : Int32) : Gk x0 (f7_bindInner M a b c) := by
  unfold f7_bindInner; simp only [bnd, jn]
  repeat' split
  all_goals first | exact h | exact gk_f2_bind h _ _
theorem gk_f7_buyWith {M : Wm} (h : Gk x0 M) (a : Int32) : Gk x0 (f7_buyWith M a).2 := by
  unfold f7_buyWith; simp only [bnd, jn]
  repeat' split
  all_goals first | with_reducible exact h | with_reducible exact gk_f7_stop h _ | exact gk_f5_buyFuel h _ _
theorem gk_f7_define {M : Wm} (h : Gk x0 M) (a : Int32) : Gk x0 (f7_define M a).2 := by
  unfold f7_define; simp only [bnd, jn]
  repeat' split
  all_goals first | with_reducible exact h | with_reducible exact gk_f7_stop h _ | exact gk_f2_defines h _ _ | exact gk_f7_stop (gk_f2_defines h _ _) _
theorem gk_f7_carry {M : Wm} (h : Gk x0 M) (p1 p2 p3 p4 : Int32) : Gk x0 (f7_carry M p1 p2 p3 p4).2 := by
  unfold f7_carry; simp only [bnd, jn]
  repeat' split
  all_goals first | with_reducible exact h | with_reducible exact gk_f7_stop h _ | exact gk_w h (by decide)
abbrev HGk (x0 : Wm) (VA : Wm → Int32 → Int32 → Int32 × Wm) : Prop := ∀ {M : Wm}, Gk x0 M → ∀ a dep : Int32, Gk x0 (VA M a dep).2
theorem gk_f7_valueOfPart (VA : Wm → Int32 → Int32 → Int32 × Wm) (hOk : HGk x0 VA) {M : Wm} (h : Gk x0 M) (p1 p2 p3 : Int32) : Gk x0 (f7_valueOfPart VA M p1 p2 p3).2 := by
  unfold f7_valueOfPart; simp only [bnd, jn]
  with_reducible exact hOk h _ _
theorem gk_f7_valueOfRow (VA : Wm → Int32 → Int32 → Int32 × Wm) (hOk : HGk x0 VA) {M : Wm} (h : Gk x0 M) (p1 p2 p3 : Int32) : Gk x0 (f7_valueOfRow VA M p1 p2 p3).2 := by
  have key : ∀ (k : Nat) (x : Int32 × Int32 × Int32 × Wm), Gk x0 x.2.2.2 → Gk x0 (f7_valueOfRow_lp17 VA p1 p3 k x).2 := by
    intro k
    induction k with
    | zero => intro x hx; exact hx
    | succ k ih =>
      intro x hx
      unfold f7_valueOfRow_lp17; simp only [bnd, jn]
      repeat' split
      all_goals first | with_reducible exact hx | with_reducible exact ih _ (hOk hx _ _)
  unfold f7_valueOfRow; simp only [bnd, jn]
  exact key _ _ h
theorem gk_f7_valueOfChoice (VA : Wm → Int32 → Int32 → Int32 × Wm) (hOk : HGk x0 VA) {M : Wm} (h : Gk x0 M) (p1 p2 p3 : Int32) : Gk x0 (f7_valueOfChoice VA M p1 p2 p3).2 := by
  unfold f7_valueOfChoice; simp only [bnd, jn]
  repeat' split
  all_goals first | with_reducible exact gk_f7_valueOfPart VA hOk (gk_f7_valueOfPart VA hOk h _ _ _) _ _ _ | with_reducible exact gk_f7_valueOfPart VA hOk h _ _ _
theorem gk_f7_valueOfWhile (VA : Wm → Int32 → Int32 → Int32 × Wm) (hOk : HGk x0 VA) {M : Wm} (h : Gk x0 M) (p1 p2 : Int32) : Gk x0 (f7_valueOfWhile VA M p1 p2).2 := by
  have key : ∀ (k : Nat) (x : Int32 × Wm), Gk x0 x.2 → Gk x0 (f7_valueOfWhile_lp2 VA p1 p2 k x).2 := by
    intro k
    induction k with
    | zero => intro x hx; exact hx
    | succ k ih =>
      intro x hx
      unfold f7_valueOfWhile_lp2; simp only [bnd, jn]
      repeat' split
      all_goals first | with_reducible exact hx | with_reducible exact gk_f7_valueOfPart VA hOk hx _ _ _ | with_reducible exact ih _ (gk_f7_valueOfRow VA hOk (gk_f7_valueOfPart VA hOk hx _ _ _) _ _ _)
  unfold f7_valueOfWhile
  exact key _ _ h
theorem gk_f7_valueOfLet (VA : Wm → Int32 → Int32 → Int32 × Wm) (hOk : HGk x0 VA) {M : Wm} (h : Gk x0 M) (p1 p2 : Int32) : Gk x0 (f7_valueOfLet VA M p1 p2).2 := by
  unfold f7_valueOfLet; simp only [bnd, jn]
  with_reducible exact gk_f2_unbindLatest (gk_f7_valueOfRow VA hOk (gk_f2_bind (gk_f7_valueOfPart VA hOk h _ _ _) _ _) _ _ _)
theorem gk_f7_setBinding (VA : Wm → Int32 → Int32 → Int32 × Wm) (hOk : HGk x0 VA) {M : Wm} (h : Gk x0 M) (p1 p2 : Int32) : Gk x0 (f7_setBinding VA M p1 p2).2 := by
  unfold f7_setBinding; simp only [bnd, jn]
  have h1 := gk_f7_valueOfPart VA hOk h p1 2 p2
  repeat' split
  all_goals first | with_reducible exact h1 | with_reducible exact gk_f7_stop h1 _ | with_reducible exact gk_f2_setAt h1 _ _
theorem gk_f7_valueOfFunction (VA : Wm → Int32 → Int32 → Int32 × Wm) (hOk : HGk x0 VA) {M : Wm} (h : Gk x0 M) (p1 p2 p3 : Int32) : Gk x0 (f7_valueOfFunction VA M p1 p2 p3).2 := by
  have key : ∀ {N : Wm} (_ : Gk x0 N) (e a b c q : Int32), Gk x0 (uW (f7_valueOfPart VA (f7_bindInner (f7_bindInner (f7_bindInner (uW N 2 (f2_enter (N 2)).2) e 0 a) e 1 b) e 2 c) q 3 p3).2 2 (f2_leave ((f7_valueOfPart VA (f7_bindInner (f7_bindInner (f7_bindInner (uW N 2 (f2_enter (N 2)).2) e 0 a) e 1 b) e 2 c) q 3 p3).2 2) (f2_enter (N 2)).1)) := by
    intro N hN e a b c q
    have h1 := gk_f7_bindInner (gk_f7_bindInner (gk_f7_bindInner (gk_f2_enter hN) e 0 a) e 1 b) e 2 c
    exact gk_f2_leave (gk_f7_valueOfPart VA hOk h1 q 3 p3) _
  have h1 := gk_f7_valueOfPart VA hOk h p2 1 p3
  have h2 := gk_f7_valueOfPart VA hOk h1 p2 2 p3
  have h3 := gk_f7_valueOfPart VA hOk h2 p2 3 p3
  have g1 := gk_f7_valueOfPart VA hOk h p2 2 p3
  have g2 := gk_f7_valueOfPart VA hOk g1 p2 3 p3
  have g3 := gk_f7_valueOfPart VA hOk h p2 3 p3
  have g4 := gk_f7_valueOfPart VA hOk h1 p2 3 p3
  unfold f7_valueOfFunction; simp only [bnd, jn]
  repeat' split
  all_goals first
    | with_reducible exact gk_f7_stop h _
    | with_reducible exact key h _ _ _ _ _
    | with_reducible exact key h1 _ _ _ _ _
    | with_reducible exact key h2 _ _ _ _ _
    | with_reducible exact key h3 _ _ _ _ _
    | with_reducible exact key g1 _ _ _ _ _
    | with_reducible exact key g2 _ _ _ _ _
    | with_reducible exact key g3 _ _ _ _ _
    | with_reducible exact key g4 _ _ _ _ _
theorem gk_f7_valueOfScript (VA : Wm → Int32 → Int32 → Int32 × Wm) (hOk : HGk x0 VA) {M : Wm} (h : Gk x0 M) (p1 p2 : Int32) : Gk x0 (f7_valueOfScript VA M p1 p2).2 := by
  have hb : Gk x0 (uW (f7_valueOfRow VA (uW M 2 (f2_enter (M 2)).2) (f9_rowOf p1) 0 p2).2 2 (f2_leave ((f7_valueOfRow VA (uW M 2 (f2_enter (M 2)).2) (f9_rowOf p1) 0 p2).2 2) (f2_enter (M 2)).1)) := gk_f2_leave (gk_f7_valueOfRow VA hOk (gk_f2_enter h) _ 0 p2) _
  unfold f7_valueOfScript; simp only [bnd, jn]
  repeat' split
  all_goals first | with_reducible exact h | with_reducible exact gk_f7_stop h _ | with_reducible exact hb
theorem gk_f7_give (VA : Wm → Int32 → Int32 → Int32 × Wm) (hOk : HGk x0 VA) {M : Wm} (h : Gk x0 M) (p1 p2 : Int32) : Gk x0 (f7_give VA M p1 p2).2 := by
  have h2 := gk_f7_valueOfPart VA hOk (gk_f7_valueOfPart VA hOk h p1 1 p2) p1 3 p2
  unfold f7_give; simp only [bnd, jn]
  repeat' split
  all_goals first | with_reducible exact gk_f7_stop h2 _ | exact gk_f7_carry h2 _ _ _ _
theorem gk_f7_orderAhead (VA : Wm → Int32 → Int32 → Int32 × Wm) (hOk : HGk x0 VA) {M : Wm} (h : Gk x0 M) (p1 p2 : Int32) : Gk x0 (f7_orderAhead VA M p1 p2).2 := by
  have h3 := gk_f7_valueOfPart VA hOk (gk_f7_valueOfPart VA hOk (gk_f7_valueOfPart VA hOk h p1 1 p2) p1 2 p2) p1 3 p2
  unfold f7_orderAhead; simp only [bnd, jn]
  repeat' split
  all_goals first | with_reducible exact h3 | with_reducible exact gk_f7_stop h3 _ | with_reducible exact gk_f4_add h3 _ _ _ _
theorem gk_f7_valueOfList (VA : Wm → Int32 → Int32 → Int32 × Wm) (hOk : HGk x0 VA) {M : Wm} (h : Gk x0 M) (p1 p2 : Int32) : Gk x0 (f7_valueOfList VA M p1 p2).2 := by
  have hv := gk_f7_valueOfPart VA hOk h p1 2 p2
  have h1 := gk_f7_valueOfPart VA hOk h p1 1 p2
  have hc : ∀ {N : Wm} (_ : Gk x0 N) (a b : Int32), Gk x0 (f7_carry N (-1) (M 7 0 0 7) a b).2 := fun hN a b => gk_f7_carry hN _ _ a b
  have hd : ∀ {N : Wm} (_ : Gk x0 N) (a b : Int32), Gk x0 (f7_carry N (M 7 0 0 7) (-1) a b).2 := fun hN a b => gk_f7_carry hN _ _ a b
  unfold f7_valueOfList; simp only [bnd, jn]
  repeat' (with_reducible refine gk_ite (fun _ => ?_) (fun _ => ?_))
  all_goals first
    | with_reducible exact h
    | with_reducible exact h1
    | with_reducible exact gk_f7_stop h _
    | with_reducible exact gk_f7_valueOfFunction VA hOk h _ _ _
    | with_reducible exact gk_f7_valueOfChoice VA hOk h _ _ _
    | with_reducible exact gk_f7_valueOfWhile VA hOk h _ _
    | with_reducible exact gk_f7_valueOfRow VA hOk h _ _ _
    | with_reducible exact gk_f7_valueOfLet VA hOk h _ _
    | with_reducible exact gk_f7_setBinding VA hOk h _ _
    | with_reducible exact gk_f7_define h _
    | with_reducible exact hc hv _ _
    | with_reducible exact hd hv _ _
    | with_reducible exact gk_f7_give VA hOk h _ _
    | with_reducible exact gk_f7_orderAhead VA hOk h _ _
    | with_reducible exact gk_f7_valueOfScript VA hOk h1 _ _
    | with_reducible exact gk_f7_buyWith h1 _
    | with_reducible exact gk_f7_combine (gk_f7_valueOfPart VA hOk h1 _ _ _) _ _ _
theorem gk_f7_valueAt (VA : Wm → Int32 → Int32 → Int32 × Wm) (hOk : HGk x0 VA) {M : Wm} (h : Gk x0 M) (p1 p2 : Int32) : Gk x0 (f7_valueAt VA M p1 p2).2 := by
  have hT := gk_f5_takesOne h (M 7 0 0 7)
  have hU : ∀ x : Int32, Gk x0 (uW (uW M 5 (f5_takesOne (M 5) (M 7 0 0 7)).2) 7 (u3 ((uW M 5 (f5_takesOne (M 5) (M 7 0 0 7)).2) 7) 0 0 9 x)) := fun x => gk_w hT (by decide)
  unfold f7_valueAt; simp only [bnd, jn]
  repeat' split
  all_goals first
    | with_reducible exact h
    | with_reducible exact gk_f7_stop h _
    | with_reducible exact hU _
    | with_reducible exact gk_f7_stop hT _
    | with_reducible exact gk_f7_stop (hU _) _
    | with_reducible exact gk_f7_valueOfName (hU _) _
    | with_reducible exact gk_f7_valueOfList VA hOk (hU _) _ _
theorem gk_ev : ∀ k : Nat, HGk x0 (f7_ev k) := by
  intro k
  induction k with
  | zero => intro M h a dep; exact gk_f7_valueAt _ (fun h _ _ => h) h a dep
  | succ k ih => intro M h a dep; exact gk_f7_valueAt _ ih h a dep
theorem gk_f7_runExpression {M : Wm} (h : Gk x0 M) (p1 p2 : Int32) : Gk x0 (f7_runExpression M p1 p2) := by
  have h1 := gk_ev 30 h p2 0
  unfold f7_runExpression; simp only [bnd, jn]
  by_cases c : (f7_ev 30 M p2 0).2 7 0 0 10 = 0
  · rw [if_pos c]; exact gk_w (gk_w h1 (by decide)) (by decide)
  · rw [if_neg c]; exact gk_f4_undoFrom (gk_f1_undoTo h1 _) _
theorem gk_f7_execute {M : Wm} (h : Gk x0 M) (p1 p2 : Int32) : Gk x0 (f7_execute M p1 p2) := by
  have key : ∀ (K18 : Wm → Wm) (_ : ∀ N : Wm, Gk x0 N → Gk x0 (K18 N)) (r20 : Int32) (k : Nat) (x : Int32 × Int32 × Wm), Gk x0 x.2.2 → Gk x0 (f7_execute_lp105 p1 K18 r20 k x) := by
    intro K18 hK r20 k
    induction k with
    | zero => intro x hx; exact hx
    | succ k ih =>
      intro x hx
      rw [f7_execute_lp105_s]
      simp only [bnd_e]
      split
      · exact hK _ hx
      · split
        · exact ih _ (gk_f7_runExpression hx _ _)
        · exact hK _ hx
  have hK : ∀ N : Wm, Gk x0 N → Gk x0 (endW N p1) := fun N hN => gk_w hN (by decide)
  rw [execute_e (N := f8_readChanged (st0 M p1 p2)) rfl]
  have hs : Gk x0 (st0 M p1 p2) := gk_w (gk_w (gk_w (gk_w (gk_w (gk_w h (by decide)) (by decide)) (by decide)) (by decide)) (by decide)) (by decide)
  have hr : Gk x0 (f8_readChanged (st0 M p1 p2)) := fun c2 h2 => (rcS_readChanged (st0 M p1 p2) c2 (by omega) (by omega) (by omega)).trans (hs c2 h2)
  split
  · exact key _ (fun N hN => by rw [endB_e]; exact hK N hN) _ _ _ hr
  · rw [endB_e]; exact hK _ (gk_w hr (by decide))
end GK
section GKC
variable {M : Wm} {p1 p2 p3 p4 : Int32}
theorem gk_r (M : Wm) : Gk M M := fun _ _ => rfl
theorem gk_read (M : Wm) : Gk M (f8_readChanged M) := fun c h => rcS_readChanged M c (by omega) (by omega) (by omega)
theorem gk_type : Gk M (f11_type M p1 p2).2 := by
  unfold f11_type; simp only [bnd_e, jn_e]
  repeat' split
  all_goals first | with_reducible exact gk_r _ | with_reducible exact gk_read _ | exact gk_w (gk_r M) (by decide)
theorem gk_erase : Gk M (f11_erase M p1 p2).2 := by
  unfold f11_erase; simp only [bnd_e, jn_e]
  repeat' split
  all_goals first | with_reducible exact gk_r _ | with_reducible exact gk_read _ | exact gk_w (gk_r M) (by decide)
theorem gk_supply : Gk M (f11_supply M p1 p2).2 := by
  unfold f11_supply; simp only [bnd_e, jn_e]
  repeat' split
  all_goals first | with_reducible exact gk_r _ | with_reducible exact gk_read _ | exact gk_w (gk_r M) (by decide)
theorem gk_giveRations : Gk M (f11_giveRations M p1 p2).2 := by
  unfold f11_giveRations; simp only [bnd_e, jn_e]
  repeat' split
  all_goals first | with_reducible exact gk_r _ | with_reducible exact gk_read _ | exact gk_w (gk_r M) (by decide)
theorem gk_setTariff : Gk M (f11_setTariff M p1).2 := by
  unfold f11_setTariff; simp only [bnd_e, jn_e]
  repeat' split
  all_goals first | with_reducible exact gk_r _ | with_reducible exact gk_read _ | exact gk_w (gk_r M) (by decide)
theorem gk_buy : Gk M (f11_buy M p1 p2).2 := by
  unfold f11_buy; simp only [bnd_e, jn_e]
  repeat' split
  all_goals first | with_reducible exact gk_r _ | with_reducible exact gk_read _ | exact gk_w (gk_r M) (by decide)
theorem gk_setCredit : Gk M (f11_setCredit M p1 p2 p3).2 := by
  unfold f11_setCredit; simp only [bnd_e, jn_e]
  repeat' split
  all_goals first | with_reducible exact gk_r _ | with_reducible exact gk_read _ | exact gk_w (gk_r M) (by decide)
theorem gk_payBack : Gk M (f11_payBack M p1 p2 p3).2 := by
  unfold f11_payBack; simp only [bnd_e, jn_e]
  repeat' split
  all_goals first | with_reducible exact gk_r _ | with_reducible exact gk_read _ | exact gk_w (gk_r M) (by decide)
theorem gk_order : Gk M (f11_order M p1 p2 p3 p4).2 := by
  unfold f11_order; simp only [bnd_e, jn_e]
  repeat' split
  all_goals first | with_reducible exact gk_r _ | with_reducible exact gk_read _ | exact gk_w (gk_r M) (by decide)
theorem gk_fault : Gk M (f11_fault M p1).2 := by
  unfold f11_fault; simp only [bnd_e, jn_e]
  repeat' split
  all_goals first | with_reducible exact gk_r _ | with_reducible exact gk_read _ | exact gk_w (gk_r M) (by decide)
theorem gk_expressions : Gk M (f11_expressions M p1).2 := by
  unfold f11_expressions; simp only [bnd_e, jn_e]
  repeat' split
  all_goals first | with_reducible exact gk_r _ | with_reducible exact gk_read _ | exact gk_w (gk_r M) (by decide)
theorem gk_setBuying {b : Bool} : Gk M (f11_setBuying M p1 b).2 := by
  unfold f11_setBuying; simp only [bnd_e, jn_e]
  repeat' split
  all_goals first | with_reducible exact gk_r _ | exact gk_w (gk_r M) (by decide)
theorem gk_takeUp : Gk M (f11_takeUp M p1 p2).2 := by
  have E := gk_f7_execute (gk_r M) p1 p2
  unfold f11_takeUp; simp only [bnd_e, jn_e]
  generalize f7_execute M p1 p2 = R at E ⊢
  repeat' split
  all_goals first | with_reducible exact gk_r _ | with_reducible exact E
theorem gk_lp67 {x0 : Wm} {n0 : Int32} {K : (Int32 × Wm) → ((Nat × Int32) × Wm)} (hK : ∀ (c : Int32) (N : Wm), Gk x0 N → Gk x0 (K (c, N)).2) : ∀ (k : Nat) (i c : Int32) (N : Wm), Gk x0 N → Gk x0 (f11_pass_lp67 n0 K k (i, c, N)).2 := by
  intro k
  induction k with
  | zero => intro i c N h; exact h
  | succ k ih =>
    intro i c N h
    rw [f11_pass_lp67_s]
    simp only [jn_e, bnd_e]
    have E := gk_f7_execute h i (N 4 4 i 3)
    generalize f7_execute N i (N 4 4 i 3) = R at E ⊢
    by_cases c1 : n0 ≤ i
    · rw [if_pos c1]; exact hK _ _ h
    · rw [if_neg c1]
      by_cases c2 : N 4 4 i 4 = 0
      · rw [if_pos c2]
        by_cases c3 : N 4 4 i 2 = N 4 0 0 2
        · rw [if_pos c3]; exact ih _ _ _ E
        · rw [if_neg c3]; exact ih _ _ _ h
      · rw [if_neg c2]; exact ih _ _ _ h
theorem gk_lp37 {x0 : Wm} : ∀ (k : Nat) (i c : Int32) (N : Wm), Gk x0 N → Gk x0 (f11_pass_lp37 p1 k (i, c, N)).2 := by
  intro k
  induction k with
  | zero => intro i c N h; exact h
  | succ k ih =>
    intro i c N h
    rw [f11_pass_lp37_s]
    by_cases c1 : p1 ≤ i
    · rw [if_pos c1]; exact h
    · rw [if_neg c1]
      simp only [jn_e, bnd_e]
      have h2 : Gk x0 (uW N 4 (u3 (N 4) 0 0 2 (N 4 0 0 2 + 1))) := gk_w h (by decide)
      generalize uW N 4 (u3 (N 4) 0 0 2 (N 4 0 0 2 + 1)) = N2 at h2 ⊢
      generalize hKK : (fun (y25 : Int32 × Wm) => f11_pass_lp37 p1 k (i + 1, y25.1, y25.2)) = KK
      have hK2 : ∀ (c' : Int32) (N' : Wm), Gk x0 N' → Gk x0 (KK (c', N')).2 := by
        intro c' N' j; rw [← hKK]; exact ih (i + 1) c' N' j
      exact gk_lp67 hK2 62 0 c N2 h2
theorem gk_pass : Gk M (f11_pass M p1).2 := by
  have E : Gk M (f11_pass_lp37 p1 102 (0, 0, M)).2 := gk_lp37 102 0 0 M (gk_r M)
  unfold f11_pass; simp only [bnd_e, jn_e]
  generalize f11_pass_lp37 p1 102 (0, 0, M) = R at E ⊢
  repeat' split
  all_goals first | with_reducible exact gk_r _ | with_reducible exact E
end GKC
