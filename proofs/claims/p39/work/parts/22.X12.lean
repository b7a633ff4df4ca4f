def f12_in (p1 : Int32) (p2 : Int32) (p3 : Int32) : Bool := if p1 < p2 then false else if p3 < p1 then false else true
theorem in_t {a b c : Int32} (h : f12_in a b c = true) : b ≤ a ∧ a ≤ c := by
  unfold f12_in at h
  by_cases h1 : a < b
  · rw [if_pos h1] at h; cases h
  · rw [if_neg h1] at h
    by_cases h2 : c < a
    · rw [if_pos h2] at h; cases h
    · simp only [i32lt, i32le] at *; omega
theorem in_f {a b c : Int32} (h : f12_in a b c = false) : ¬ (b ≤ a ∧ a ≤ c) := by
  unfold f12_in at h
  by_cases h1 : a < b
  · simp only [i32lt, i32le] at *; omega
  · rw [if_neg h1] at h
    by_cases h2 : c < a
    · simp only [i32lt, i32le] at *; omega
    · rw [if_neg h2] at h; cases h
theorem in_i {a b c : Int32} (h : f12_in a b c = true) : b.toInt ≤ a.toInt ∧ a.toInt ≤ c.toInt := by
  have := in_t h; simp only [i32le] at this; exact this
theorem in_in {a c : Int32} {n : Nat} (h : f12_in a 0 c = true) (hc : c.toInt < n) : vp_in a n := by
  have := in_t h
  rw [vp_in_iff]; simp only [i32le, t32_0] at this; omega
def f12_isScript (p1 : Int32) : Bool := bnd (f12_in p1 0 7) (fun (r1 : Bool) => r1)
theorem isScript_t {a : Int32} (h : f12_isScript a = true) : vp_in a 8 := by unfold f12_isScript at h; simp only [bnd] at h; exact in_in h (by decide)
def f12_isCompany (p1 : Int32) : Bool := bnd (f12_in p1 0 3) (fun (r1 : Bool) => r1)
theorem isCompany_t {a : Int32} (h : f12_isCompany a = true) : vp_in a 4 := by unfold f12_isCompany at h; simp only [bnd] at h; exact in_in h (by decide)
def f12_isGood (p1 : Int32) : Bool := bnd (f12_in p1 0 7) (fun (r1 : Bool) => r1)
theorem isGood_t {a : Int32} (h : f12_isGood a = true) : vp_in a 8 := by unfold f12_isGood at h; simp only [bnd] at h; exact in_in h (by decide)
def f12_isDigit (p1 : Int32) : Bool := bnd (f12_in p1 48 57) (fun (r1 : Bool) => r1)
def f12_isLetter (p1 : Int32) : Bool := bnd (f12_in p1 97 122) (fun (r1 : Bool) => r1)
theorem isDigit_t {a : Int32} (h : f12_isDigit a = true) : 48 ≤ a.toInt ∧ a.toInt ≤ 57 := by unfold f12_isDigit at h; simp only [bnd] at h; exact in_i h
theorem isLetter_t {a : Int32} (h : f12_isLetter a = true) : 48 ≤ a.toInt ∧ 97 ≤ a.toInt ∧ a.toInt ≤ 122 := by unfold f12_isLetter at h; simp only [bnd] at h; have := in_i h; simp only [t32_97, t32_122] at this; omega
def f12_thrown (m : Cm) : Int32 := (m 0 0 0)
def f12_goesWell (m : Cm) (p1 : Int32) : (Bool × Cm) := bnd (u3 m 0 0 0 p1) (fun (m1 : Cm) => if p1 = 0 then (true, m1) else (false, m1))
theorem goesWell_t {m : Cm} {a : Int32} (h : (f12_goesWell m a).1 = true) : a = 0 := by
  unfold f12_goesWell at h; simp only [bnd] at h
  by_cases e : a = 0
  · exact e
  · rw [if_neg e] at h; cases h
theorem goesWell_m (m : Cm) (a : Int32) : (f12_goesWell m a).2 = u3 m 0 0 0 a := by
  unfold f12_goesWell; simp only [bnd]; split <;> rfl
theorem okT_f12_goesWell {m0 m : Cm} (h : OkT m0 m) (a : Int32) : OkT m0 (f12_goesWell m a).2 := by
  rw [goesWell_m]; exact okT_put0 h (by decide)
def f12_signAt (m : Cm) (p1 : Int32) (p2 : Int32) : Int32 := if (m 3 0 p1) ≤ p2 then 0 else (m 2 0 ((120 * p1) + p2))
def f12_length (m : Cm) (p1 : Int32) : (Int32 × Cm) := bnd (f12_isScript p1) (fun (r1 : Bool) => jn (fun (v2 : Bool) => bnd (f12_goesWell m (b2i v2)) (fun (r5 : Bool × Cm) => if r5.1 = true then ((r5.2 3 0 p1), r5.2) else (0, r5.2))) (fun K3 => if r1 = true then K3 false else K3 true))
def f12_isOrder (m : Cm) (p1 : Int32) : Bool := bnd (f12_in p1 0 ((m 0 0 11) - 1)) (fun (r1 : Bool) => r1)
theorem isOrder_t {m : Cm} {a : Int32} (hk : Ok12 m) (h : f12_isOrder m a = true) : vp_in a 60 := by
  unfold f12_isOrder at h; simp only [bnd] at h
  refine in_in h ?_
  have h0 := hk.o0; have h1 := hk.o1
  rw [i32subn (by rw [t32_1]; omega) (by rw [t32_1]; omega), t32_1]; omega
def f12_state (m : Cm) (p1 : Int32) : (Int32 × Cm) := bnd (f12_isOrder m p1) (fun (r1 : Bool) => jn (fun (v2 : Bool) => bnd (f12_goesWell m (b2i v2)) (fun (r5 : Bool × Cm) => if r5.1 = true then ((r5.2 17 0 p1), r5.2) else (0, r5.2))) (fun K3 => if r1 = true then K3 false else K3 true))
def f12_why (m : Cm) (p1 : Int32) : (Int32 × Cm) := bnd (f12_isOrder m p1) (fun (r1 : Bool) => jn (fun (v2 : Bool) => bnd (f12_goesWell m (b2i v2)) (fun (r5 : Bool × Cm) => if r5.1 = true then if (r5.2 17 0 p1) = 3 then ((r5.2 18 0 p1), r5.2) else (0, r5.2) else (0, r5.2))) (fun K3 => if r1 = true then K3 false else K3 true))
def f12_done (m : Cm) (p1 : Int32) : (Int32 × Cm) := bnd (f12_isOrder m p1) (fun (r1 : Bool) => jn (fun (v2 : Bool) => bnd (f12_goesWell m (b2i v2)) (fun (r5 : Bool × Cm) => if r5.1 = true then ((r5.2 19 0 p1), r5.2) else (0, r5.2))) (fun K3 => if r1 = true then K3 false else K3 true))
def f12_value (m : Cm) (p1 : Int32) : (Int32 × Cm) := bnd (f12_isOrder m p1) (fun (r1 : Bool) => jn (fun (v2 : Bool) => bnd (f12_goesWell m (b2i v2)) (fun (r5 : Bool × Cm) => if r5.1 = true then ((r5.2 20 0 p1), r5.2) else (0, r5.2))) (fun K3 => if r1 = true then K3 false else K3 true))
def f12_used (m : Cm) (p1 : Int32) : (Int32 × Cm) := bnd (f12_isOrder m p1) (fun (r1 : Bool) => jn (fun (v2 : Bool) => bnd (f12_goesWell m (b2i v2)) (fun (r5 : Bool × Cm) => if r5.1 = true then ((r5.2 21 0 p1), r5.2) else (0, r5.2))) (fun K3 => if r1 = true then K3 false else K3 true))
def f12_hourOf (m : Cm) (p1 : Int32) : (Int32 × Cm) := bnd (f12_isOrder m p1) (fun (r1 : Bool) => jn (fun (v2 : Bool) => bnd (f12_goesWell m (b2i v2)) (fun (r5 : Bool × Cm) => if r5.1 = true then ((r5.2 15 0 p1), r5.2) else (0, r5.2))) (fun K3 => if r1 = true then K3 false else K3 true))
def f12_hour (m : Cm) : (Int32 × Cm) := bnd (u3 m 0 0 0 0) (fun (m1 : Cm) => ((m 0 0 10), m1))
def f12_orders (m : Cm) : (Int32 × Cm) := bnd (u3 m 0 0 0 0) (fun (m1 : Cm) => ((m 0 0 11), m1))
def f12_moves (m : Cm) : (Int32 × Cm) := bnd (u3 m 0 0 0 0) (fun (m1 : Cm) => ((m 0 0 21), m1))
def f12_supply (m : Cm) (p1 : Int32) (p2 : Int32) : (Int32 × Cm) := bnd (f12_isGood p1) (fun (r1 : Bool) => jn (fun (v2 : Bool) => bnd (f12_goesWell m (b2i v2)) (fun (r7 : Bool × Cm) => if r7.1 = true then bnd (u3 r7.2 4 0 (32 + p1) ((r7.2 4 0 (32 + p1)) + p2)) (fun (m10 : Cm) => ((m10 4 0 (32 + p1)), m10)) else (0, r7.2))) (fun K3 => if r1 = true then bnd (f12_in p2 1 1000) (fun (r5 : Bool) => if r5 = true then K3 false else K3 true) else K3 true))
def f12_giveRations (m : Cm) (p1 : Int32) (p2 : Int32) : (Int32 × Cm) := bnd (f12_isCompany p1) (fun (r1 : Bool) => jn (fun (v2 : Bool) => bnd (f12_goesWell m (b2i v2)) (fun (r7 : Bool × Cm) => if r7.1 = true then bnd (u3 r7.2 5 0 p1 ((r7.2 5 0 p1) + p2)) (fun (m10 : Cm) => ((m10 5 0 p1), m10)) else (0, r7.2))) (fun K3 => if r1 = true then bnd (f12_in p2 1 1000) (fun (r5 : Bool) => if r5 = true then K3 false else K3 true) else K3 true))
def f12_setTariff (m : Cm) (p1 : Int32) : (Int32 × Cm) := bnd (f12_in p1 0 100) (fun (r1 : Bool) => jn (fun (v2 : Bool) => bnd (f12_goesWell m (b2i v2)) (fun (r5 : Bool × Cm) => if r5.1 = true then bnd ((r5.2 0 0 9)) (fun (v7 : Int32) => bnd (u3 r5.2 0 0 9 p1) (fun (m8 : Cm) => (v7, m8))) else (0, r5.2))) (fun K3 => if r1 = true then K3 false else K3 true))
def f12_fuel (m : Cm) (p1 : Int32) : (Int32 × Cm) := bnd (f12_isCompany p1) (fun (r1 : Bool) => jn (fun (v2 : Bool) => bnd (f12_goesWell m (b2i v2)) (fun (r5 : Bool × Cm) => if r5.1 = true then ((r5.2 6 0 p1), r5.2) else (0, r5.2))) (fun K3 => if r1 = true then K3 false else K3 true))
def f12_rations (m : Cm) (p1 : Int32) : (Int32 × Cm) := bnd (f12_isCompany p1) (fun (r1 : Bool) => jn (fun (v2 : Bool) => bnd (f12_goesWell m (b2i v2)) (fun (r5 : Bool × Cm) => if r5.1 = true then ((r5.2 5 0 p1), r5.2) else (0, r5.2))) (fun K3 => if r1 = true then K3 false else K3 true))
def f12_debt (m : Cm) (p1 : Int32) (p2 : Int32) : (Int32 × Cm) := bnd (f12_isCompany p1) (fun (r1 : Bool) => jn (fun (v2 : Bool) => bnd (f12_goesWell m (b2i v2)) (fun (r7 : Bool × Cm) => if r7.1 = true then ((r7.2 7 0 ((4 * p1) + p2)), r7.2) else (0, r7.2))) (fun K3 => if r1 = true then bnd (f12_isCompany p2) (fun (r5 : Bool) => if r5 = true then K3 false else K3 true) else K3 true))
def f12_setBuying (m : Cm) (p1 : Int32) (p2 : Bool) : (Bool × Cm) := bnd (f12_isCompany p1) (fun (r1 : Bool) => jn (fun (v2 : Bool) => bnd (f12_goesWell m (b2i v2)) (fun (r5 : Bool × Cm) => if r5.1 = true then bnd ((r5.2 9 0 p1)) (fun (v8 : Int32) => bnd (u3 r5.2 9 0 p1 (b2i p2)) (fun (m9 : Cm) => (i2b v8, m9))) else (false, r5.2))) (fun K3 => if r1 = true then K3 false else K3 true))
def f12_setCredit (m : Cm) (p1 : Int32) (p2 : Int32) (p3 : Int32) : (Int32 × Cm) := bnd (f12_isCompany p1) (fun (r1 : Bool) => jn (fun (v2 : Bool) => jn (fun (v10 : Bool) => bnd (f12_goesWell m (b2i v10)) (fun (r13 : Bool × Cm) => if r13.1 = true then bnd ((r13.2 8 0 ((4 * p1) + p2))) (fun (v16 : Int32) => bnd (u3 r13.2 8 0 ((4 * p1) + p2) p3) (fun (m17 : Cm) => (v16, m17))) else (0, r13.2))) (fun K11 => if v2 = true then K11 false else K11 true)) (fun K3 => if r1 = true then bnd (f12_isCompany p2) (fun (r5 : Bool) => if r5 = true then if p1 = p2 then K3 false else bnd (f12_in p3 0 1000) (fun (r8 : Bool) => if r8 = true then K3 true else K3 false) else K3 false) else K3 false))
def f12_stockByMoves (m : Cm) (p1 : Int32) (p2 : Int32) : (Int32 × Cm) := bnd (f12_in p1 (-1) 3) (fun (r1 : Bool) => jn (fun (v2 : Bool) => jn (fun (v7 : Bool) => bnd (f12_goesWell m (b2i v7)) (fun (r10 : Bool × Cm) => if r10.1 = true then jn (fun (v13 : Int32) => ((r10.2 4 0 ((8 * v13) + p2)), r10.2)) (fun K14 => if p1 = (-1) then K14 4 else K14 p1) else (0, r10.2))) (fun K8 => if v2 = true then K8 false else K8 true)) (fun K3 => if r1 = true then bnd (f12_isGood p2) (fun (r5 : Bool) => if r5 = true then K3 true else K3 false) else K3 false))
def f12_stock (m : Cm) (p1 : Int32) (p2 : Int32) : (Int32 × Cm) := bnd (f12_stockByMoves m p1 p2) (fun (r1 : Int32 × Cm) => (r1.1, r1.2))
def f12_payBack (m : Cm) (p1 : Int32) (p2 : Int32) (p3 : Int32) : (Int32 × Cm) := bnd (f12_isCompany p1) (fun (r1 : Bool) => jn (fun (v2 : Bool) => jn (fun (v8 : Int32) => jn (fun (v11 : Int32) => bnd (f12_goesWell m v11) (fun (r16 : Bool × Cm) => if r16.1 = true then bnd (u3 r16.2 7 0 v8 ((r16.2 7 0 v8) - p3)) (fun (m19 : Cm) => bnd (u3 m19 6 0 p1 ((r16.2 6 0 p1) - p3)) (fun (m21 : Cm) => bnd (u3 m21 6 0 p2 ((m21 6 0 p2) + p3)) (fun (m23 : Cm) => ((m19 7 0 v8), m23)))) else (0, r16.2))) (fun K12 => if v2 = true then if (m 7 0 v8) < p3 then K12 2 else if p3 ≤ (m 6 0 p1) then K12 0 else K12 2 else K12 1)) (fun K9 => if v2 = true then K9 ((4 * p1) + p2) else K9 0)) (fun K3 => if r1 = true then bnd (f12_isCompany p2) (fun (r5 : Bool) => if r5 = true then if p3 < 1 then K3 false else K3 true else K3 false) else K3 false))
def f12_buyFuel_lp35 (p1 : Int32) (v1 : Int32) : Nat → (Int32 × Int32 × Cm) → (Int32 × Cm)
  | 0, x5 => (0, x5.2.2)
  | n6 + 1, x5 => if 4 ≤ x5.1 then (v1, x5.2.2) else bnd ((x5.2.2 7 0 ((4 * p1) + x5.1))) (fun (v8 : Int32) => jn (fun (v9 : Int32) => bnd (u3 x5.2.2 7 0 ((4 * p1) + x5.1) ((x5.2.2 7 0 ((4 * p1) + x5.1)) - v9)) (fun (m12 : Cm) => bnd (u3 m12 6 0 x5.1 ((x5.2.2 6 0 x5.1) + v9)) (fun (m13 : Cm) => bnd (u3 m13 6 0 p1 ((m13 6 0 p1) - v9)) (fun (m14 : Cm) => bnd ((x5.2.1 - v9)) (fun (v15 : Int32) => bnd (x5.1 + 1) (fun (v16 : Int32) => f12_buyFuel_lp35 p1 v1 n6 (v16, v15, m14))))))) (fun K10 => if x5.2.1 ≤ v8 then K10 x5.2.1 else K10 v8))
theorem f12_buyFuel_lp35_s (p1 : Int32) (v1 : Int32) (n6 : Nat) (x5 : Int32 × Int32 × Cm) : f12_buyFuel_lp35 p1 v1 (n6 + 1) x5 = if 4 ≤ x5.1 then (v1, x5.2.2) else bnd ((x5.2.2 7 0 ((4 * p1) + x5.1))) (fun (v8 : Int32) => jn (fun (v9 : Int32) => bnd (u3 x5.2.2 7 0 ((4 * p1) + x5.1) ((x5.2.2 7 0 ((4 * p1) + x5.1)) - v9)) (fun (m12 : Cm) => bnd (u3 m12 6 0 x5.1 ((x5.2.2 6 0 x5.1) + v9)) (fun (m13 : Cm) => bnd (u3 m13 6 0 p1 ((m13 6 0 p1) - v9)) (fun (m14 : Cm) => bnd ((x5.2.1 - v9)) (fun (v15 : Int32) => bnd (x5.1 + 1) (fun (v16 : Int32) => f12_buyFuel_lp35 p1 v1 n6 (v16, v15, m14))))))) (fun K10 => if x5.2.1 ≤ v8 then K10 x5.2.1 else K10 v8)) := rfl
def f12_buyFuel (m : Cm) (p1 : Int32) (p2 : Int32) : (Int32 × Cm) := bnd ((p2 * (m 0 0 9))) (fun (v1 : Int32) => bnd ((v1 / 2)) (fun (v2 : Int32) => bnd (u3 m 5 0 p1 ((m 5 0 p1) - p2)) (fun (m3 : Cm) => bnd (u3 m3 6 0 p1 ((m 6 0 p1) + v1)) (fun (m4 : Cm) => f12_buyFuel_lp35 p1 v1 5 (0, v2, m4)))))
theorem okT_f12_buyFuel_lp {m0 : Cm} (a v : Int32) : ∀ (k : Nat) (x : Int32 × Int32 × Cm), OkT m0 x.2.2 → OkR m0 (f12_buyFuel_lp35 a v k x) := by
  intro k
  induction k with
  | zero => intro x hx; exact hx
  | succ k ih =>
    intro x hx
    rw [f12_buyFuel_lp35_s]
    by_cases c : 4 ≤ x.1
    · rw [if_pos c]; exact hx
    · rw [if_neg c]
      refine bnd_I (P := OkR m0) (fun v8 _ => jn_I (P := OkR m0) (fun K hK => ?_) (fun v9 => bnd_I (P := OkR m0) (fun m1 e1 => bnd_I (P := OkR m0) (fun m2 e2 => bnd_I (P := OkR m0) (fun m3 e3 => bnd_I (P := OkR m0) (fun v15 _ => bnd_I (P := OkR m0) (fun v16 _ => ?_)))))))
      · split <;> exact hK _
      · refine ih _ ?_
        show OkT m0 m3
        rw [e3, e2, e1]
        exact okT_putA (okT_putA (okT_putA hx (by decide)) (by decide)) (by decide)
theorem okT_f12_buyFuel {m0 m : Cm} (h : OkT m0 m) (a b : Int32) : OkR m0 (f12_buyFuel m a b) := by
  unfold f12_buyFuel
  refine bnd_I (P := OkR m0) (fun v1 _ => bnd_I (P := OkR m0) (fun v2 _ => bnd_I (P := OkR m0) (fun m3 e3 => bnd_I (P := OkR m0) (fun m4 e4 => ?_))))
  refine okT_f12_buyFuel_lp _ _ _ _ ?_
  show OkT m0 m4
  rw [e4, e3]; exact okT_putA (okT_putA h (by decide)) (by decide)
def f12_lenderOf_lp2 (m : Cm) (p1 : Int32) : Nat → Int32 → Int32
  | 0, x1 => 0
  | n2 + 1, x1 => if 4 ≤ x1 then (-1) else jn (fun (v4 : Bool) => if v4 = true then if (m 8 0 ((4 * x1) + p1)) ≤ (m 7 0 ((4 * p1) + x1)) then bnd (x1 + 1) (fun (v11 : Int32) => f12_lenderOf_lp2 m p1 n2 v11) else x1 else bnd (x1 + 1) (fun (v9 : Int32) => f12_lenderOf_lp2 m p1 n2 v9)) (fun K5 => if x1 = p1 then K5 false else if (m 6 0 x1) ≤ 0 then K5 false else K5 true)
theorem f12_lenderOf_lp2_s (m : Cm) (p1 : Int32) (n2 : Nat) (x1 : Int32) : f12_lenderOf_lp2 m p1 (n2 + 1) x1 = if 4 ≤ x1 then (-1) else jn (fun (v4 : Bool) => if v4 = true then if (m 8 0 ((4 * x1) + p1)) ≤ (m 7 0 ((4 * p1) + x1)) then bnd (x1 + 1) (fun (v11 : Int32) => f12_lenderOf_lp2 m p1 n2 v11) else x1 else bnd (x1 + 1) (fun (v9 : Int32) => f12_lenderOf_lp2 m p1 n2 v9)) (fun K5 => if x1 = p1 then K5 false else if (m 6 0 x1) ≤ 0 then K5 false else K5 true) := rfl
def f12_lenderOf (m : Cm) (p1 : Int32) : Int32 := f12_lenderOf_lp2 m p1 5 0
def f12_finish (m : Cm) (p1 : Int32) : Cm := bnd (u3 m 0 0 62 p1) (fun (m1 : Cm) => bnd (u3 m1 0 0 45 ((m 0 0 45) - 1)) (fun (m2 : Cm) => m2))
def f12_valueNext (m : Cm) (p1 : Int32) (p2 : Int32) : Cm := bnd (u3 m 34 0 p1 p2) (fun (m1 : Cm) => bnd (u3 m1 0 0 59 1) (fun (m2 : Cm) => bnd (u3 m2 0 0 60 (m 31 0 p1)) (fun (m3 : Cm) => bnd (u3 m3 0 0 61 p2) (fun (m4 : Cm) => m4))))
def f12_bindingOf_lp7 (m : Cm) (p1 : Int32) : Nat → (Int32 × Int32) → Int32
  | 0, x2 => 0
  | n3 + 1, x2 => if (m 0 0 49) ≤ x2.1 then x2.2 else jn (fun (v5 : Int32) => bnd (x2.1 + 1) (fun (v8 : Int32) => f12_bindingOf_lp7 m p1 n3 (v8, v5))) (fun K6 => if (m 47 0 x2.1) = p1 then K6 x2.1 else K6 x2.2)
theorem f12_bindingOf_lp7_s (m : Cm) (p1 : Int32) (n3 : Nat) (x2 : Int32 × Int32) : f12_bindingOf_lp7 m p1 (n3 + 1) x2 = if (m 0 0 49) ≤ x2.1 then x2.2 else jn (fun (v5 : Int32) => bnd (x2.1 + 1) (fun (v8 : Int32) => f12_bindingOf_lp7 m p1 n3 (v8, v5))) (fun K6 => if (m 47 0 x2.1) = p1 then K6 x2.1 else K6 x2.2) := rfl
def f12_bindingOf (m : Cm) (p1 : Int32) : Int32 := bnd ((m 0 0 48)) (fun (v1 : Int32) => f12_bindingOf_lp7 m p1 102 (v1, (-1)))
def f12_bind (m : Cm) (p1 : Int32) (p2 : Int32) : Cm := bnd (u3 m 47 0 (m 0 0 49) p1) (fun (m1 : Cm) => bnd (u3 m1 48 0 (m 0 0 49) p2) (fun (m2 : Cm) => bnd (u3 m2 0 0 49 ((m 0 0 49) + 1)) (fun (m3 : Cm) => m3)))
def f12_opOf_lp4 (m : Cm) (p1 : Int32) : Nat → (Int32 × Int32) → Int32
  | 0, x1 => 0
  | n2 + 1, x1 => if 26 ≤ x1.1 then x1.2 else jn (fun (v4 : Int32) => bnd (x1.1 + 1) (fun (v7 : Int32) => f12_opOf_lp4 m p1 n2 (v7, v4))) (fun K5 => if (m 28 0 x1.1) = p1 then K5 x1.1 else K5 x1.2)
theorem f12_opOf_lp4_s (m : Cm) (p1 : Int32) (n2 : Nat) (x1 : Int32 × Int32) : f12_opOf_lp4 m p1 (n2 + 1) x1 = if 26 ≤ x1.1 then x1.2 else jn (fun (v4 : Int32) => bnd (x1.1 + 1) (fun (v7 : Int32) => f12_opOf_lp4 m p1 n2 (v7, v4))) (fun K5 => if (m 28 0 x1.1) = p1 then K5 x1.1 else K5 x1.2) := rfl
def f12_opOf (m : Cm) (p1 : Int32) : Int32 := f12_opOf_lp4 m p1 27 (0, (-1))
def f12_functionOf_lp4 (m : Cm) (p1 : Int32) : Nat → (Int32 × Int32) → Int32
  | 0, x1 => 0
  | n2 + 1, x1 => if (m 0 0 50) ≤ x1.1 then x1.2 else jn (fun (v4 : Int32) => bnd (x1.1 + 1) (fun (v7 : Int32) => f12_functionOf_lp4 m p1 n2 (v7, v4))) (fun K5 => if (m 52 0 x1.1) = p1 then K5 x1.1 else K5 x1.2)
theorem f12_functionOf_lp4_s (m : Cm) (p1 : Int32) (n2 : Nat) (x1 : Int32 × Int32) : f12_functionOf_lp4 m p1 (n2 + 1) x1 = if (m 0 0 50) ≤ x1.1 then x1.2 else jn (fun (v4 : Int32) => bnd (x1.1 + 1) (fun (v7 : Int32) => f12_functionOf_lp4 m p1 n2 (v7, v4))) (fun K5 => if (m 52 0 x1.1) = p1 then K5 x1.1 else K5 x1.2) := rfl
def f12_functionOf (m : Cm) (p1 : Int32) : Int32 := f12_functionOf_lp4 m p1 10 (0, (-1))
def f12_keep_lp14 (p1 : Int32) (p2 : Int32) (K3 : Cm → Cm) : Nat → (Int32 × Cm) → Cm
  | 0, x2 => x2.2
  | n4 + 1, x2 => if 3 ≤ x2.1 then K3 x2.2 else bnd (u3 x2.2 43 0 ((3 * p1) + x2.1) (x2.2 54 0 ((3 * p2) + x2.1))) (fun (m6 : Cm) => bnd (x2.1 + 1) (fun (v7 : Int32) => f12_keep_lp14 p1 p2 K3 n4 (v7, m6)))
theorem f12_keep_lp14_s (p1 : Int32) (p2 : Int32) (K3 : Cm → Cm) (n4 : Nat) (x2 : Int32 × Cm) : f12_keep_lp14 p1 p2 K3 (n4 + 1) x2 = if 3 ≤ x2.1 then K3 x2.2 else bnd (u3 x2.2 43 0 ((3 * p1) + x2.1) (x2.2 54 0 ((3 * p2) + x2.1))) (fun (m6 : Cm) => bnd (x2.1 + 1) (fun (v7 : Int32) => f12_keep_lp14 p1 p2 K3 n4 (v7, m6))) := rfl
def f12_keep (m : Cm) (p1 : Int32) (p2 : Int32) : Cm := bnd (u3 m 42 0 p1 (m 53 0 p2)) (fun (m1 : Cm) => jn (fun (y8 : Cm) => bnd (u3 y8 44 0 p1 (y8 55 0 p2)) (fun (m9 : Cm) => bnd (u3 m9 45 0 p1 (y8 56 0 p2)) (fun (m10 : Cm) => m10))) (fun K3 => f12_keep_lp14 p1 p2 K3 4 (0, m1)))
def f12_joined (p1 : Int32) (p2 : Int32) (p3 : Int32) : Int32 := if 3 ≤ p1 then if 5 ≤ p1 then if 7 ≤ p1 then if p1 = 7 then if p3 ≤ p2 then 0 else 1 else if p2 = p3 then 1 else 0 else if p1 = 5 then (p2 / p3) else (p2 - p2 / p3 * p3) else jn (fun (v8 : Bool) => jn (fun (v11 : Bool) => if (b2i v8) = (b2i v11) then p2 else p3) (fun K12 => if p3 ≤ p2 then K12 false else K12 true)) (fun K9 => if p1 = 3 then K9 true else K9 false) else if p1 = 0 then (p2 + p3) else if p1 = 1 then (p2 - p3) else (p2 * p3)
def f12_makeOrder (m : Cm) (p1 : Int32) (p2 : Int32) (p3 : Int32) (p4 : Int32) : (Int32 × Cm) := bnd (u3 m 13 0 (m 0 0 11) p1) (fun (m1 : Cm) => bnd (u3 m1 14 0 (m 0 0 11) p2) (fun (m2 : Cm) => bnd (u3 m2 15 0 (m 0 0 11) p3) (fun (m3 : Cm) => bnd (u3 m3 16 0 (m 0 0 11) p4) (fun (m4 : Cm) => bnd (u3 m4 17 0 (m 0 0 11) 0) (fun (m5 : Cm) => bnd (u3 m5 0 0 11 ((m 0 0 11) + 1)) (fun (m6 : Cm) => ((((m 0 0 11) + 1) - 1), m6)))))))
