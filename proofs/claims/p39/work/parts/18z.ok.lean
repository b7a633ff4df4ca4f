section CORE2
variable {σ : Type} {p : Program} {l : Launch} {e : Env} {R : Room} {s : State} {m : MethodId} {args : Array Value} {below : List Frame} {meth : Method} {c : Code} {cells slots : Nat} {Q : σ → State → Prop} {D : va_G} {ta : wTa} {ad : wAd} {n : Nat} {M : Wm} {pc q : Nat} {lv lv' : List (Nat × Value)} {st : List Value} {S A B : σ} {own : String} {cc : ByteArray}
theorem mw_ldcw (cx : Cx p s m args meth c D ta ad own cc n) {ix : Nat} {v : Int32} (hd : decode cc pc = .ok (.ldc_w ix, 3)) (hq : pc + 3 = q) (hw : Cond.constant own ix v ∈ BG) (k : mw p l e R s m args below meth c cells slots Q D ta ad n M q lv (.int v :: st) S) : mw p l e R s m args below meth c cells slots Q D ta ad n M pc lv st S := fun H locs ls hP hS hl => by
  subst hq
  exact lv_ldcw cx.1 cx.2.1 cx.2.2.2.1 (cx.2.2.2.2.1 _ hw) hd (k H locs ls hP hS hl)
theorem mw_split {P : Prop} [hdp : Decidable P] (kt : P → mw p l e R s m args below meth c cells slots Q D ta ad n M pc lv st A) (kf : ¬ P → mw p l e R s m args below meth c cells slots Q D ta ad n M pc lv st B) : mw p l e R s m args below meth c cells slots Q D ta ad n M pc lv st (if P then A else B) := by
  by_cases h : P
  · rw [if_pos h]; exact kt h
  · rw [if_neg h]; exact kf h
end CORE2
theorem look_out3 {x c1 c2 c3 : Int32} {d o1 o2 o3 : Int} (h1 : ¬ x = c1) (h2 : ¬ x = c2) (h3 : ¬ x = c3) : Op.lookupswitch.offset [(c1.toInt, o1), (c2.toInt, o2), (c3.toInt, o3)] d x.toInt = d := by
  simp only [i32eq] at h1 h2 h3
  simp [Op.lookupswitch.offset, List.find?, Ne.symm h1, Ne.symm h2, Ne.symm h3]
theorem look_out2 {x c1 c2 : Int32} {d o1 o2 : Int} (h1 : ¬ x = c1) (h2 : ¬ x = c2) : Op.lookupswitch.offset [(c1.toInt, o1), (c2.toInt, o2)] d x.toInt = d := by
  simp only [i32eq] at h1 h2
  simp [Op.lookupswitch.offset, List.find?, Ne.symm h1, Ne.symm h2]
theorem ts_nt2 {x : Bool} (h : ¬ x = true) : x = false := by cases x <;> simp_all
/-- the bounds that every run of the class' interpreter keeps -/
def ok1 (m : Cm) : Prop := 0 ≤ (m 0 0 7).toInt ∧ (m 0 0 7).toInt ≤ 3000 ∧ ∀ j : Int32, vp_in j 3000 → vp_in (m 3 0 j + 1) 5 ∧ vp_in (m 4 0 j + 1) 5 ∧ vp_in (m 5 0 j) 8
def ok2 (m : Cm) : Prop := 0 ≤ (m 0 0 2).toInt ∧ (m 0 0 2).toInt ≤ 90 ∧ 0 ≤ (m 0 0 3).toInt ∧ (m 0 0 3).toInt ≤ 90 ∧ 0 ≤ (m 0 0 6).toInt ∧ (m 0 0 6).toInt ≤ 8
def ok4 (m : Cm) : Prop := 0 ≤ (m 0 0 1).toInt ∧ (m 0 0 1).toInt ≤ 60
def Ok7 (M : Wm) : Prop := vp_in (M 7 0 0 7) 4 ∧ 0 ≤ (M 2 0 0 2).toInt ∧ (M 2 0 0 2).toInt ≤ 90 ∧ 0 ≤ (M 2 0 0 3).toInt ∧ (M 2 0 0 3).toInt ≤ 90 ∧ 0 ≤ (M 2 0 0 6).toInt ∧ (M 2 0 0 6).toInt ≤ 8 ∧ 0 ≤ (M 1 0 0 7).toInt ∧ (M 1 0 0 7).toInt ≤ 3000 ∧ (∀ j : Int32, vp_in j 3000 → vp_in (M 1 3 0 j + 1) 5 ∧ vp_in (M 1 4 0 j + 1) 5 ∧ vp_in (M 1 5 0 j) 8) ∧ 0 ≤ (M 4 0 0 1).toInt ∧ (M 4 0 0 1).toInt ≤ 60
theorem Ok7.mk {M : Wm} (h7 : vp_in (M 7 0 0 7) 4) (h2 : ok2 (M 2)) (h1 : ok1 (M 1)) (h4 : ok4 (M 4)) : Ok7 M := ⟨h7, h2.1, h2.2.1, h2.2.2.1, h2.2.2.2.1, h2.2.2.2.2.1, h2.2.2.2.2.2, h1.1, h1.2.1, h1.2.2, h4.1, h4.2⟩
theorem Ok7.n {M : Wm} (h : Ok7 M) : ok2 (M 2) := ⟨h.2.1, h.2.2.1, h.2.2.2.1, h.2.2.2.2.1, h.2.2.2.2.2.1, h.2.2.2.2.2.2.1⟩
theorem Ok7.b {M : Wm} (h : Ok7 M) : ok1 (M 1) := ⟨h.2.2.2.2.2.2.2.1, h.2.2.2.2.2.2.2.2.1, h.2.2.2.2.2.2.2.2.2.1⟩
theorem Ok7.o {M : Wm} (h : Ok7 M) : ok4 (M 4) := ⟨h.2.2.2.2.2.2.2.2.2.2.1, h.2.2.2.2.2.2.2.2.2.2.2⟩
theorem ok7_put7 {M : Wm} (h : Ok7 M) {j x : Int32} (hj : ¬ (7 : Int32) = j) : Ok7 (uW M 7 (u3 (M 7) 0 0 j x)) := by
  refine ⟨?_, h.2⟩
  have : uW M 7 (u3 (M 7) 0 0 j x) 7 0 0 7 = M 7 0 0 7 := by simp [uW, u3, fI, hj]
  rw [this]; exact h.1
theorem ok7_put7c {M : Wm} (h : Ok7 M) {x : Int32} (hx : vp_in x 4) : Ok7 (uW M 7 (u3 (M 7) 0 0 7 x)) := by
  refine ⟨?_, h.2⟩
  have : uW M 7 (u3 (M 7) 0 0 7 x) 7 0 0 7 = x := by simp [uW, u3, fI]
  rw [this]; exact hx
theorem ok7_put4 {M : Wm} (h : Ok7 M) {i j x : Int32} : Ok7 (uW M 4 (u3 (M 4) 4 i j x)) := h
theorem ok2_w {M : Wm} (h : Ok7 M) {m : Cm} (hm : ok2 m) : Ok7 (uW M 2 m) := Ok7.mk (M := uW M 2 m) h.1 hm h.b h.o
theorem ok1_w {M : Wm} (h : Ok7 M) {m : Cm} (hm : ok1 m) : Ok7 (uW M 1 m) := Ok7.mk (M := uW M 1 m) h.1 h.n hm h.o
theorem ok4_w {M : Wm} (h : Ok7 M) {m : Cm} (hm : ok4 m) : Ok7 (uW M 4 m) := Ok7.mk (M := uW M 4 m) h.1 h.n h.b hm
theorem ok7_f5_takesOne {M : Wm} (h : Ok7 M) (a : Int32) : Ok7 (uW M 5 (f5_takesOne (M 5) a).2) := h
theorem ok7_f5_buyFuel {M : Wm} (h : Ok7 M) (a b : Int32) : Ok7 (uW M 5 (f5_buyFuel (M 5) a b).2) := h
theorem ok7_f2_clear {M : Wm} (h : Ok7 M) : Ok7 (uW M 2 (f2_clear (M 2))) := by
  refine ok2_w h ?_
  unfold f2_clear; simp only [bnd]
  simp [ok2, u3, fI]
theorem ok7_f2_bind {M : Wm} (h : Ok7 M) (a b : Int32) : Ok7 (uW M 2 (f2_bind (M 2) a b)) := by
  refine ok2_w h ?_
  have hn := h.n
  unfold f2_bind; simp only [bnd]
  by_cases c : 90 ≤ M 2 0 0 2
  · rw [if_pos c]; exact hn
  · rw [if_neg c]
    obtain ⟨a1, a2, a3, a4, a5, a6⟩ := hn
    simp only [i32le, t32_90] at c
    have e : (M 2 0 0 2 + 1).toInt = (M 2 0 0 2).toInt + 1 := by rw [i32addn (by rw [t32_1]; omega) (by rw [t32_1]; omega), t32_1]
    exact ⟨by show 0 ≤ (M 2 0 0 2 + 1).toInt; omega, by show (M 2 0 0 2 + 1).toInt ≤ 90; omega, a3, a4, a5, a6⟩
theorem ok7_f2_unbindLatest {M : Wm} (h : Ok7 M) : Ok7 (uW M 2 (f2_unbindLatest (M 2))) := by
  refine ok2_w h ?_
  have hn := h.n
  unfold f2_unbindLatest; simp only [bnd]
  by_cases c : M 2 0 0 2 ≤ M 2 0 0 3
  · rw [if_pos c]; exact hn
  · rw [if_neg c]
    obtain ⟨a1, a2, a3, a4, a5, a6⟩ := hn
    simp only [i32le] at c
    have e : (M 2 0 0 2 - 1).toInt = (M 2 0 0 2).toInt - 1 := by rw [i32subn (by rw [t32_1]; omega) (by rw [t32_1]; omega), t32_1]
    exact ⟨by show 0 ≤ (M 2 0 0 2 - 1).toInt; omega, by show (M 2 0 0 2 - 1).toInt ≤ 90; omega, a3, a4, a5, a6⟩
theorem ok7_f2_enter {M : Wm} (h : Ok7 M) : Ok7 (uW M 2 (f2_enter (M 2)).2) := by
  refine ok2_w h ?_
  obtain ⟨a1, a2, a3, a4, a5, a6⟩ := h.n
  unfold f2_enter; simp only [bnd]
  simp only [ok2, u3, fI]
  simp [fI]
  exact ⟨a1, a2, a1, a2, a5, a6⟩
theorem ok7_f2_leave {M : Wm} (h : Ok7 M) (a : Int32) (ha : 0 ≤ a.toInt ∧ a.toInt ≤ 90) : Ok7 (uW M 2 (f2_leave (M 2) a)) := by
  refine ok2_w h ?_
  obtain ⟨a1, a2, a3, a4, a5, a6⟩ := h.n
  unfold f2_leave; simp only [bnd]
  simp only [ok2, u3, fI]
  simp [fI]
  exact ⟨a3, a4, ha.1, ha.2, a5, a6⟩
theorem ok7_f2_setAt {M : Wm} (h : Ok7 M) (a b : Int32) : Ok7 (uW M 2 (f2_setAt (M 2) a b)) := by
  refine ok2_w h ?_
  have hn := h.n
  unfold f2_setAt; simp only [bnd]
  split
  · exact hn
  · exact hn
theorem f2_defines_ok (m : Cm) (a b : Int32) (h : ok2 m) : ok2 (f2_defines m a b).2 := by
  have key : ∀ (K : Int32 → Bool × Cm), (∀ y : Int32, 0 ≤ y.toInt → ok2 (K y).2) → ∀ (k : Nat) (x : Int32), 0 ≤ x.toInt → x.toInt ≤ 8 → ok2 (f2_defines_lp2 m a K k x).2 := by
    intro K hK k
    induction k with
    | zero => intro x _ _; exact h
    | succ k ih =>
      intro x h0 h8
      unfold f2_defines_lp2; simp only [bnd]
      split
      · exact hK x h0
      · split
        · exact hK x h0
        · rename_i c1 c2
          simp only [i32le] at c1
          have e : (x + 1).toInt = x.toInt + 1 := by rw [i32addn (by rw [t32_1]; omega) (by rw [t32_1]; omega), t32_1]
          have := h.2.2.2.2.2
          exact ih (x + 1) (by omega) (by omega)
  unfold f2_defines; simp only [bnd, jn]
  refine key _ (fun y hy => ?_) 9 0 (by decide) (by decide)
  split
  · rename_i c
    obtain ⟨a1, a2, a3, a4, a5, a6⟩ := h
    simp only [i32lt, t32_8] at c
    have e : (y + 1).toInt = y.toInt + 1 := by rw [i32addn (by rw [t32_1]; omega) (by rw [t32_1]; omega), t32_1]
    simp only [ok2, u3, fI]
    simp [fI]
    refine ⟨a1, a2, a3, a4, ?_⟩
    unfold mxI
    split
    · exact ⟨by omega, by omega⟩
    · exact ⟨a5, a6⟩
  · exact h
theorem ok7_f2_defines {M : Wm} (h : Ok7 M) (a b : Int32) : Ok7 (uW M 2 (f2_defines (M 2) a b).2) := ok2_w h (f2_defines_ok (M 2) a b h.n)
theorem f1_move_ok (m : Cm) (p1 p2 p3 p4 p5 : Int32) (h : ok1 m) (h1 : vp_in (p1 + 1) 5) (h2 : vp_in (p2 + 1) 5) (h3 : vp_in p3 8) : ok1 (f1_move m p1 p2 p3 p4 p5) := by
  unfold f1_move; simp only [bnd]
  by_cases c : 3000 ≤ m 0 0 7
  · rw [if_pos c]; exact h
  · rw [if_neg c]
    obtain ⟨a1, a2, a3⟩ := h
    simp only [i32le, t32_3000] at c
    have e : (m 0 0 7 + 1).toInt = (m 0 0 7).toInt + 1 := by rw [i32addn (by rw [t32_1]; omega) (by rw [t32_1]; omega), t32_1]
    refine ⟨?_, ?_, fun j hj => ?_⟩
    · show 0 ≤ (m 0 0 7 + 1).toInt
      omega
    · show (m 0 0 7 + 1).toInt ≤ 3000
      omega
    · obtain ⟨b1, b2, b3⟩ := a3 j hj
      show vp_in ((if j = m 0 0 7 then p1 else m 3 0 j) + 1) 5 ∧ vp_in ((if j = m 0 0 7 then p2 else m 4 0 j) + 1) 5 ∧ vp_in (if j = m 0 0 7 then p3 else m 5 0 j) 8
      by_cases q : j = m 0 0 7
      · rw [if_pos q, if_pos q, if_pos q]; exact ⟨h1, h2, h3⟩
      · rw [if_neg q, if_neg q, if_neg q]; exact ⟨b1, b2, b3⟩
theorem ok7_f1_move {M : Wm} (h : Ok7 M) (p1 p2 p3 p4 p5 : Int32) (_ : 0 ≤ (M 1 0 0 7).toInt) (_ : (M 1 0 0 7).toInt ≤ 3000) (h1 : vp_in (p1 + 1) 5) (h2 : vp_in (p2 + 1) 5) (h3 : vp_in p3 8) : Ok7 (uW M 1 (f1_move (M 1) p1 p2 p3 p4 p5)) := ok1_w h (f1_move_ok (M 1) p1 p2 p3 p4 p5 h.b h1 h2 h3)
theorem f1_undoTo_ok (m : Cm) (p1 : Int32) (h : ok1 m) : ok1 (f1_undoTo m p1) := by
  have key : ∀ (k : Nat) (x : Int32 × Cm), x.1.toInt < 3000 → ok1 x.2 → ok1 (f1_undoTo_lp7 p1 k x) := by
    intro k
    induction k with
    | zero => intro x _ hx; exact hx
    | succ k ih =>
      intro x h3 hx
      unfold f1_undoTo_lp7; simp only [bnd]
      split
      · exact hx
      · split
        · exact hx
        · rename_i c1 c2
          simp only [i32lt, t32_0] at c2
          have e : (x.1 + (-1)).toInt = x.1.toInt - 1 := by
            have e1 : ((-1 : Int32)).toInt = -1 := by decide
            rw [i32addn (by rw [e1]; omega) (by rw [e1]; omega), e1]; omega
          refine ih _ (by show (x.1 + (-1)).toInt < 3000; omega) ⟨?_, ?_, hx.2.2⟩
          · show 0 ≤ x.1.toInt
            omega
          · show x.1.toInt ≤ 3000
            omega
  unfold f1_undoTo; simp only [bnd]
  obtain ⟨a1, a2, a3⟩ := h
  have e : (m 0 0 7 - 1).toInt = (m 0 0 7).toInt - 1 := by rw [i32subn (by rw [t32_1]; omega) (by rw [t32_1]; omega), t32_1]
  exact key _ _ (by show (m 0 0 7 - 1).toInt < 3000; omega) ⟨a1, a2, a3⟩
theorem ok7_f1_undoTo {M : Wm} (h : Ok7 M) (p1 : Int32) : Ok7 (uW M 1 (f1_undoTo (M 1) p1)) := ok1_w h (f1_undoTo_ok (M 1) p1 h.b)
theorem f4_add_ok (m : Cm) (p1 p2 p3 p4 : Int32) (h : ok4 m) : ok4 (f4_add m p1 p2 p3 p4).2 := by
  unfold f4_add; simp only [bnd]
  by_cases c : f4_areFull m = true
  · rw [if_pos c]; exact h
  · rw [if_neg c]
    have c2 := areFull_f (ts_nt2 c)
    obtain ⟨a1, a2⟩ := h
    have e : (m 0 0 1 + 1).toInt = (m 0 0 1).toInt + 1 := by rw [i32addn (by rw [t32_1]; omega) (by rw [t32_1]; omega), t32_1]
    refine ⟨?_, ?_⟩
    · show 0 ≤ (m 0 0 1 + 1).toInt
      omega
    · show (m 0 0 1 + 1).toInt ≤ 60
      omega
theorem ok7_f4_add {M : Wm} (h : Ok7 M) (p1 p2 p3 p4 : Int32) : Ok7 (uW M 4 (f4_add (M 4) p1 p2 p3 p4).2) := ok4_w h (f4_add_ok (M 4) p1 p2 p3 p4 h.o)
theorem f4_undoFrom_ok (m : Cm) (p1 : Int32) (h : ok4 m) : ok4 (f4_undoFrom m p1) := by
  have key : ∀ (k : Nat) (x : Int32 × Cm), ok4 x.2 → ok4 (f4_undoFrom_lp2 k x) := by
    intro k
    induction k with
    | zero => intro x hx; exact hx
    | succ k ih =>
      intro x hx
      unfold f4_undoFrom_lp2; simp only [bnd]
      split
      · exact hx
      · exact ih _ hx
  exact key 61 (p1, m) h
theorem ok7_f4_undoFrom {M : Wm} (h : Ok7 M) (p1 : Int32) : Ok7 (uW M 4 (f4_undoFrom (M 4) p1)) := ok4_w h (f4_undoFrom_ok (M 4) p1 h.o)
