theorem jn_I' {α β : Type} {Q : α → Prop} {P : β → Prop} {f : α → β} {g : (α → β) → β} (h : ∀ K : α → β, (∀ x, Q x → P (K x)) → P (g K)) (hf : ∀ x, Q x → P (f x)) : P (jn f g) := h f hf
theorem bndP {α β : Type} {P : β → Prop} {a : α} {f : α → β} (h : P (f a)) : P (bnd a f) := h
theorem inc_in {x : Int32} {n : Nat} (hn : n < 2147483647) (h0 : 0 ≤ x.toInt) (h1 : x.toInt < n) : 0 ≤ (x + 1).toInt ∧ (x + 1).toInt ≤ n := by
  rw [i32addn (by rw [t32_1]; omega) (by rw [t32_1]; omega), t32_1]; omega
/-- none, or within bounds -/
def oIn (n : Nat) (r : Int32) : Prop := r = -1 ∨ vp_in r n
theorem oIn.ix {n : Nat} {r : Int32} (h : oIn n r) (hn : ¬ r = -1) : vp_in r n := h.resolve_left hn
theorem lenderOf_o (m : Cm) (a : Int32) : oIn 4 (f12_lenderOf m a) := by
  have key : ∀ (k : Nat) (x : Int32), 0 ≤ x.toInt → oIn 4 (f12_lenderOf_lp2 m a k x) := by
    intro k
    induction k with
    | zero => intro x _; exact Or.inr (show vp_in 0 4 from vin_lit (by decide))
    | succ k ih =>
      intro x hx
      rw [f12_lenderOf_lp2_s]
      by_cases c : 4 ≤ x
      · rw [if_pos c]; exact Or.inl rfl
      · rw [if_neg c]
        simp only [i32le, t32_4] at c
        have hi := inc_in (n := 4) (by decide) hx (by omega)
        refine jn_I (P := oIn 4) (fun K hK => ?_) (fun v => ?_)
        · by_cases c3 : x = a
          · rw [if_pos c3]; exact hK _
          · rw [if_neg c3]
            by_cases c4 : m 6 0 x ≤ 0
            · rw [if_pos c4]; exact hK _
            · rw [if_neg c4]; exact hK _
        · by_cases c1 : v = true
          · rw [if_pos c1]
            by_cases c2 : (m 8 0 ((4 * x) + a)) ≤ (m 7 0 ((4 * a) + x))
            · rw [if_pos c2]; exact bnd_I (P := oIn 4) (fun y e => by rw [e]; exact ih _ hi.1)
            · rw [if_neg c2]; exact Or.inr (by rw [vp_in_iff]; omega)
          · rw [if_neg c1]; exact bnd_I (P := oIn 4) (fun y e => by rw [e]; exact ih _ hi.1)
  exact key 5 0 (by decide)
theorem lenderOf_in {m : Cm} {a : Int32} (h : ¬ f12_lenderOf m a = -1) : vp_in (f12_lenderOf m a) 4 := (lenderOf_o m a).ix h
theorem idx8n {x y : Int32} (hx : vp_in x 4) (h1 : 1 ≤ y.toInt) (h8 : y.toInt ≤ 8) : vp_in (((8 * x) + y) - 1) 40 := by
  rw [vp_in_iff] at hx ⊢
  have hm : (8 * x).toInt = 8 * x.toInt := by rw [i32muln (by rw [t32_8]; omega) (by rw [t32_8]; omega), t32_8]
  have ha : ((8 * x) + y).toInt = 8 * x.toInt + y.toInt := by rw [i32addn (by rw [hm]; omega) (by rw [hm]; omega), hm]
  rw [i32subn (by rw [ha, t32_1]; omega) (by rw [ha, t32_1]; omega), ha, t32_1]; omega
theorem len_in {f : Int32 → Int32} (h : rBd 8 0 120 f) {j : Int32} (hj : vp_in j 8) (hn : ¬ f j = 120) : vp_in (f j) 120 := by
  have := h j hj
  simp only [i32eq, t32_120] at hn
  rw [vp_in_iff]; omega
theorem opOf_o {m : Cm} (a : Int32) : oIn 26 (f12_opOf m a) := by
  have key : ∀ (k : Nat) (x : Int32 × Int32), 0 ≤ x.1.toInt → oIn 26 x.2 → oIn 26 (f12_opOf_lp4 m a k x) := by
    intro k
    induction k with
    | zero => intro x _ _; exact Or.inr (show vp_in 0 26 from vin_lit (by decide))
    | succ k ih =>
      intro x hx h2
      rw [f12_opOf_lp4_s]
      by_cases c : 26 ≤ x.1
      · rw [if_pos c]; exact h2
      · rw [if_neg c]
        have hk : x.1.toInt < 26 := by simp only [i32le, t32_26] at c; omega
        have hi := inc_in (n := 26) (by decide) hx hk
        have h1 : oIn 26 x.1 := Or.inr (by rw [vp_in_iff]; omega)
        refine jn_I' (Q := oIn 26) (P := oIn 26) (fun K hK => ?_) (fun v hv => bnd_I (P := oIn 26) (fun y e => ?_))
        · split
          · exact hK _ h1
          · exact hK _ h2
        · rw [e]; exact ih _ hi.1 hv
  exact key 27 (0, -1) (by decide) (Or.inl rfl)
theorem opOf_in {m : Cm} {a : Int32} (h : ¬ f12_opOf m a = -1) : vp_in (f12_opOf m a) 26 := (opOf_o a).ix h
theorem functionOf_o {m : Cm} (hk : Ok12 m) (a : Int32) : oIn 8 (f12_functionOf m a) := by
  have key : ∀ (k : Nat) (x : Int32 × Int32), 0 ≤ x.1.toInt → oIn 8 x.2 → oIn 8 (f12_functionOf_lp4 m a k x) := by
    intro k
    induction k with
    | zero => intro x _ _; exact Or.inr (show vp_in 0 8 from vin_lit (by decide))
    | succ k ih =>
      intro x hx h2
      rw [f12_functionOf_lp4_s]
      by_cases c : (m 0 0 50) ≤ x.1
      · rw [if_pos c]; exact h2
      · rw [if_neg c]
        have hk : x.1.toInt < 8 := by have := hk.f1; simp only [i32le] at c; omega
        have hi := inc_in (n := 8) (by decide) hx hk
        have h1 : oIn 8 x.1 := Or.inr (by rw [vp_in_iff]; omega)
        refine jn_I' (Q := oIn 8) (P := oIn 8) (fun K hK => ?_) (fun v hv => bnd_I (P := oIn 8) (fun y e => ?_))
        · split
          · exact hK _ h1
          · exact hK _ h2
        · rw [e]; exact ih _ hi.1 hv
  exact key 10 (0, -1) (by decide) (Or.inl rfl)
theorem functionOf_in {m : Cm} (hk : Ok12 m) {a : Int32} (h : ¬ f12_functionOf m a = -1) : vp_in (f12_functionOf m a) 8 := (functionOf_o hk a).ix h
theorem bindingOf_o {m : Cm} (hk : Ok12 m) (a : Int32) : oIn 100 (f12_bindingOf m a) := by
  have key : ∀ (k : Nat) (x : Int32 × Int32), 0 ≤ x.1.toInt → oIn 100 x.2 → oIn 100 (f12_bindingOf_lp7 m a k x) := by
    intro k
    induction k with
    | zero => intro x _ _; exact Or.inr (show vp_in 0 100 from vin_lit (by decide))
    | succ k ih =>
      intro x hx h2
      rw [f12_bindingOf_lp7_s]
      by_cases c : (m 0 0 49) ≤ x.1
      · rw [if_pos c]; exact h2
      · rw [if_neg c]
        have hk : x.1.toInt < 100 := by have := hk.t1; simp only [i32le] at c; omega
        have hi := inc_in (n := 100) (by decide) hx hk
        have h1 : oIn 100 x.1 := Or.inr (by rw [vp_in_iff]; omega)
        refine jn_I' (Q := oIn 100) (P := oIn 100) (fun K hK => ?_) (fun v hv => bnd_I (P := oIn 100) (fun y e => ?_))
        · split
          · exact hK _ h1
          · exact hK _ h2
        · rw [e]; exact ih _ hi.1 hv
  exact bnd_I (P := oIn 100) (fun y e => key 102 (y, -1) (by show 0 ≤ y.toInt; rw [e]; exact hk.b0) (Or.inl rfl))
theorem bindingOf_in {m : Cm} (hk : Ok12 m) {a : Int32} (h : ¬ f12_bindingOf m a = -1) : vp_in (f12_bindingOf m a) 100 := (bindingOf_o hk a).ix h
def f12_type (m : Cm) (p1 : Int32) (p2 : Int32) : (Int32 × Cm) := jn (fun (v1 : Bool) => bnd (f12_isScript p1) (fun (r11 : Bool) => jn (fun (v12 : Int32) => bnd (f12_goesWell m v12) (fun (r17 : Bool × Cm) => if r17.1 = true then bnd (u3 r17.2 2 0 ((120 * p1) + (r17.2 3 0 p1)) p2) (fun (m19 : Cm) => bnd (u3 m19 3 0 p1 ((r17.2 3 0 p1) + 1)) (fun (m20 : Cm) => ((m20 3 0 p1), m20))) else (0, r17.2))) (fun K13 => if r11 = true then if v1 = true then if (m 3 0 p1) = 120 then K13 2 else K13 0 else K13 1 else K13 1))) (fun K2 => if p2 = 32 then K2 true else if p2 = 40 then K2 true else if p2 = 41 then K2 true else if p2 = 45 then K2 true else bnd (f12_isDigit p2) (fun (r7 : Bool) => if r7 = true then K2 true else bnd (f12_isLetter p2) (fun (r9 : Bool) => if r9 = true then K2 true else K2 false)))
def f12_erase (m : Cm) (p1 : Int32) (p2 : Int32) : (Int32 × Cm) := bnd (f12_isScript p1) (fun (r1 : Bool) => jn (fun (v2 : Bool) => bnd (f12_goesWell m (b2i v2)) (fun (r6 : Bool × Cm) => if r6.1 = true then jn (fun (v8 : Int32) => bnd (u3 r6.2 3 0 p1 v8) (fun (m11 : Cm) => ((m11 3 0 p1), m11))) (fun K9 => if (r6.2 3 0 p1) ≤ p2 then K9 0 else K9 ((r6.2 3 0 p1) - p2)) else (0, r6.2))) (fun K3 => if r1 = true then if p2 < 1 then K3 true else K3 false else K3 true))
def f12_sign (m : Cm) (p1 : Int32) (p2 : Int32) : (Int32 × Cm) := bnd (f12_isScript p1) (fun (r1 : Bool) => jn (fun (v2 : Int32) => bnd (f12_goesWell m v2) (fun (r7 : Bool × Cm) => if r7.1 = true then bnd (f12_signAt r7.2 p1 p2) (fun (r10 : Int32) => (r10, r7.2)) else (0, r7.2))) (fun K3 => if r1 = true then bnd (f12_in p2 0 ((m 3 0 p1) - 1)) (fun (r5 : Bool) => if r5 = true then K3 0 else K3 2) else K3 1))
def f12_isMove (m : Cm) (p1 : Int32) : (Bool × Cm) := bnd (f12_in p1 0 ((m 0 0 21) - 1)) (fun (r1 : Bool) => jn (fun (v2 : Bool) => bnd (f12_goesWell m (b2i v2)) (fun (r5 : Bool × Cm) => (r5.1, r5.2))) (fun K3 => if r1 = true then K3 false else K3 true))
theorem isMove_in {m : Cm} (hk : Ok12 m) {a : Int32} (h : (f12_isMove m a).1 = true) : vp_in a 3000 := by
  have hm0 := hk.m0; have hm1 := hk.m1
  unfold f12_isMove at h; simp only [bnd, jn] at h
  by_cases c : f12_in a 0 (m 0 0 21 - 1) = true
  · have h1 := in_i c
    rw [i32subn (by rw [t32_1]; omega) (by rw [t32_1]; omega), t32_1, t32_0] at h1
    rw [vp_in_iff]; omega
  · rw [if_neg c] at h
    exact absurd (goesWell_t h) (by decide)
theorem isMove_m (m : Cm) (a : Int32) : ∃ v, (f12_isMove m a).2 = u3 m 0 0 0 v := by
  unfold f12_isMove; simp only [bnd, jn]
  split <;> exact ⟨_, goesWell_m _ _⟩
theorem okT_f12_isMove {m0 m : Cm} (h : OkT m0 m) (a : Int32) : OkT m0 (f12_isMove m a).2 := by
  obtain ⟨v, e⟩ := isMove_m m a
  rw [e]; exact okT_put0 h (by decide)
def f12_movedFrom (m : Cm) (p1 : Int32) : (Int32 × Cm) := bnd (f12_isMove m p1) (fun (r1 : Bool × Cm) => if r1.1 = true then if (r1.2 23 0 p1) = 4 then ((-1), r1.2) else ((r1.2 23 0 p1), r1.2) else (0, r1.2))
def f12_movedTo (m : Cm) (p1 : Int32) : (Int32 × Cm) := bnd (f12_isMove m p1) (fun (r1 : Bool × Cm) => if r1.1 = true then if (r1.2 24 0 p1) = 4 then ((-1), r1.2) else ((r1.2 24 0 p1), r1.2) else (0, r1.2))
def f12_movedGood (m : Cm) (p1 : Int32) : (Int32 × Cm) := bnd (f12_isMove m p1) (fun (r1 : Bool × Cm) => if r1.1 = true then ((r1.2 25 0 p1), r1.2) else (0, r1.2))
def f12_movedAmount (m : Cm) (p1 : Int32) : (Int32 × Cm) := bnd (f12_isMove m p1) (fun (r1 : Bool × Cm) => if r1.1 = true then ((r1.2 26 0 p1), r1.2) else (0, r1.2))
def f12_movedBy (m : Cm) (p1 : Int32) : (Int32 × Cm) := bnd (f12_isMove m p1) (fun (r1 : Bool × Cm) => if r1.1 = true then ((r1.2 27 0 p1), r1.2) else (0, r1.2))
def f12_leftBy_lp41 (p1 : Int32) (p2 : Int32) (r7 : Bool × Cm) : Nat → (Int32 × Int32) → (Int32 × Cm)
  | 0, x10 => (0, r7.2)
  | n11 + 1, x10 => if (r7.2 0 0 21) ≤ x10.1 then (x10.2, r7.2) else jn (fun (v13 : Bool) => jn (fun (v17 : Int32) => bnd ((x10.2 + v17)) (fun (v25 : Int32) => bnd (x10.1 + 1) (fun (v26 : Int32) => f12_leftBy_lp41 p1 p2 r7 n11 (v26, v25)))) (fun K18 => if v13 = true then if (r7.2 23 0 x10.1) = 4 then K18 (r7.2 26 0 x10.1) else if v13 = true then if (r7.2 24 0 x10.1) = 4 then K18 (-(r7.2 26 0 x10.1)) else K18 0 else K18 0 else if v13 = true then if (r7.2 24 0 x10.1) = 4 then K18 (-(r7.2 26 0 x10.1)) else K18 0 else K18 0)) (fun K14 => if (r7.2 27 0 x10.1) = p1 then if (r7.2 25 0 x10.1) = p2 then K14 true else K14 false else K14 false)
theorem f12_leftBy_lp41_s (p1 : Int32) (p2 : Int32) (r7 : Bool × Cm) (n11 : Nat) (x10 : Int32 × Int32) : f12_leftBy_lp41 p1 p2 r7 (n11 + 1) x10 = if (r7.2 0 0 21) ≤ x10.1 then (x10.2, r7.2) else jn (fun (v13 : Bool) => jn (fun (v17 : Int32) => bnd ((x10.2 + v17)) (fun (v25 : Int32) => bnd (x10.1 + 1) (fun (v26 : Int32) => f12_leftBy_lp41 p1 p2 r7 n11 (v26, v25)))) (fun K18 => if v13 = true then if (r7.2 23 0 x10.1) = 4 then K18 (r7.2 26 0 x10.1) else if v13 = true then if (r7.2 24 0 x10.1) = 4 then K18 (-(r7.2 26 0 x10.1)) else K18 0 else K18 0 else if v13 = true then if (r7.2 24 0 x10.1) = 4 then K18 (-(r7.2 26 0 x10.1)) else K18 0 else K18 0)) (fun K14 => if (r7.2 27 0 x10.1) = p1 then if (r7.2 25 0 x10.1) = p2 then K14 true else K14 false else K14 false) := rfl
def f12_leftBy (m : Cm) (p1 : Int32) (p2 : Int32) : (Int32 × Cm) := bnd (f12_isOrder m p1) (fun (r1 : Bool) => jn (fun (v2 : Int32) => bnd (f12_goesWell m v2) (fun (r7 : Bool × Cm) => if r7.1 = true then f12_leftBy_lp41 p1 p2 r7 (3002 + 0 * (p1).toInt.toNat) (0, 0) else (0, r7.2))) (fun K3 => if r1 = true then bnd (f12_isGood p2) (fun (r5 : Bool) => if r5 = true then K3 0 else K3 2) else K3 1))
def f12_order (m : Cm) (p1 : Int32) (p2 : Int32) (p3 : Int32) (p4 : Int32) : (Int32 × Cm) := bnd (f12_isCompany p1) (fun (r1 : Bool) => jn (fun (v2 : Bool) => jn (fun (v11 : Int32) => bnd (f12_goesWell m v11) (fun (r15 : Bool × Cm) => if r15.1 = true then bnd (f12_makeOrder r15.2 p1 p2 ((r15.2 0 0 10) + p3) p4) (fun (r17 : Int32 × Cm) => (r17.1, r17.2)) else (0, r15.2))) (fun K12 => if v2 = true then if (m 0 0 11) = 60 then K12 2 else K12 0 else K12 1)) (fun K3 => if r1 = true then bnd (f12_isScript p2) (fun (r5 : Bool) => if r5 = true then bnd (f12_in p3 1 100) (fun (r7 : Bool) => if r7 = true then bnd (f12_in p4 1 1000) (fun (r9 : Bool) => if r9 = true then K3 true else K3 false) else K3 false) else K3 false) else K3 false))
def f12_buy (m : Cm) (p1 : Int32) (p2 : Int32) : (Int32 × Cm) := bnd (f12_isCompany p1) (fun (r1 : Bool) => jn (fun (v2 : Bool) => jn (fun (v6 : Int32) => bnd (f12_goesWell m v6) (fun (r10 : Bool × Cm) => if r10.1 = true then bnd (f12_buyFuel r10.2 p1 p2) (fun (r12 : Int32 × Cm) => (r12.1, r12.2)) else (0, r10.2))) (fun K7 => if v2 = true then if p2 ≤ (m 5 0 p1) then K7 0 else K7 2 else K7 1)) (fun K3 => if r1 = true then if p2 < 1 then K3 false else K3 true else K3 false))
def f12_takesFuel (m : Cm) : (Bool × Cm) := if (m 0 0 58) = (m 16 0 (m 0 0 56)) then (false, m) else jn (fun (v2 : Cm) => if (v2 6 0 (v2 0 0 57)) ≤ 0 then bnd (f12_lenderOf v2 (v2 0 0 57)) (fun (r10 : Int32) => if r10 = (-1) then (false, v2) else bnd (u3 v2 6 0 r10 ((v2 6 0 r10) - 1)) (fun (m12 : Cm) => bnd (u3 m12 7 0 ((4 * (v2 0 0 57)) + r10) ((v2 7 0 ((4 * (v2 0 0 57)) + r10)) + 1)) (fun (m14 : Cm) => bnd (u3 m14 0 0 58 ((v2 0 0 58) + 1)) (fun (m16 : Cm) => bnd (u3 m16 21 0 (v2 0 0 56) ((v2 21 0 (v2 0 0 56)) + 1)) (fun (m18 : Cm) => (true, m18)))))) else bnd (u3 v2 6 0 (v2 0 0 57) ((v2 6 0 (v2 0 0 57)) - 1)) (fun (m20 : Cm) => bnd (u3 m20 0 0 58 ((v2 0 0 58) + 1)) (fun (m22 : Cm) => bnd (u3 m22 21 0 (v2 0 0 56) ((v2 21 0 (v2 0 0 56)) + 1)) (fun (m24 : Cm) => (true, m24))))) (fun K3 => if (m 6 0 (m 0 0 57)) = 0 then if (m 9 0 (m 0 0 57)) = 0 then K3 m else if (m 5 0 (m 0 0 57)) ≤ 0 then K3 m else bnd (f12_buyFuel m (m 0 0 57) 1) (fun (r7 : Int32 × Cm) => K3 r7.2) else K3 m)
def f12_valueName (m : Cm) (p1 : Int32) : Cm := bnd (f12_bindingOf m p1) (fun (r1 : Int32) => if r1 = (-1) then bnd (f12_in p1 1 8) (fun (r3 : Bool) => if r3 = true then bnd (u3 m 0 0 62 (m 4 0 (((8 * (m 0 0 57)) + p1) - 1))) (fun (m7 : Cm) => m7) else bnd (u3 m 0 0 63 3) (fun (m5 : Cm) => m5)) else bnd (u3 m 0 0 62 (m 48 0 r1)) (fun (m9 : Cm) => m9))
